import java.util.HashMap;
import java.util.Map;

/** Which sentence of the document a test holds to, and which of them no test has held to. */
final class Ledger {
    private final Document document = new Document();
    private final Due due = new Due("EdgeTest");
    private final Map<String, Integer> asked = new HashMap<>();
    private String held = "";

    /** The sentence that the answers from here on hold to; it must stand in the document so. */
    void holdTo(String place, String sentence) {
        held = name(place, sentence);
        boolean stands = document.sentencesOf(place).contains(sentence);
        due.due(held + ": such sentences in the document", stands ? 1 : 0, 1);
    }

    void due(String what, long got, long want) {
        asked.merge(held, 1, Integer::sum);
        due.due(held + ": " + what, got, want);
    }

    /** Every sentence of the terms and of the promises has a test, but those on how the interface is laid out. */
    void end() {
        int promises = 0;
        for (String place : document.places()) {
            promises += place.startsWith("Promise ") ? 1 : 0;
            if (place.equals("Terms") || place.startsWith("Promise ")) {
                for (String sentence : document.sentencesOf(place)) {
                    String one = name(place, sentence);
                    boolean isHeld = asked.containsKey(one) || sentence.startsWith("Ahead of the calls `");
                    due.due("a test holds to " + one, isHeld ? 1 : 0, 1);
                }
            }
        }
        due.due("promises in the document", promises, 32);
        due.end();
    }

    private static String name(String place, String sentence) {
        return place + " \"" + sentence + "\"";
    }
}
