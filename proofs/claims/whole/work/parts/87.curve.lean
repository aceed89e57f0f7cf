/-! the class: the bends of the curve -/
section BENDS
variable {n : Nat} {on on' off off' th th' : Nat → Int} {fr : Nat → Nat → Prop} {pa pa' : Nat → Nat → Int} {B C b f : Nat → Int}
theorem SolT.congr (h1 : ∀ t, t < n → on t = on' t) (h2 : ∀ t, t < n → off t = off' t) (h3 : ∀ t, t < n → th t = th' t) (h4 : ∀ o t, o < n → t < n → pa o t = pa' o t) (H : SolT n on off th fr pa b f) : SolT n on' off' th' fr pa' b f := by
  intro t ht
  obtain ⟨a1, a2, a3⟩ := H t ht
  rw [← h1 t ht, ← h2 t ht, ← h3 t ht]
  exact ⟨a1, a2, fun o ho => by rw [← h4 o t ho ht]; exact a3 o ho⟩
theorem LeaT.congr (h1 : ∀ t, t < n → on t = on' t) (h2 : ∀ t, t < n → off t = off' t) (h3 : ∀ t, t < n → th t = th' t) (h4 : ∀ o t, o < n → t < n → pa o t = pa' o t) (H : LeaT n on off th fr pa B C b f) : LeaT n on' off' th' fr pa' B C b f :=
  ⟨H.1.congr h1 h2 h3 h4, H.2.1, fun b' f' S G => H.2.2 b' f' (S.congr (fun t ht => (h1 t ht).symm) (fun t ht => (h2 t ht).symm) (fun t ht => (h3 t ht).symm) (fun o t ho ht => (h4 o t ho ht).symm)) G⟩
end BENDS
section BENDS2
variable {n : Nat} {tKi tEa tHa tPr tEx tSt tBe th pa ou : Nat → Int32} {yb yf : Nat → Int}
/-- the first bend: no flow -/
theorem bend0 (hT : TB n (nI n) tKi tEa tHa tPr tEx tSt tBe) (hz1 : ∀ t, t < n → iT th t = 0) (hz2 : ∀ t, t < n → iT ou t = 0) (hz3 : ∀ o t, o < n → t < n → paI pa o t = 0) (hY : LeaT n (onT (iT tEa) (mdT tKi tEa tHa tEx) (iT tHa) (erT tKi tEa tHa tPr tEx) (s2T tKi tEa tHa tEx tSt) (iT th)) (offT (iT tEa) (mdT tKi tEa tHa tEx) (iT tHa) (erT tKi tEa tHa tPr tEx) (s2T tKi tEa tHa tEx tSt) (iT th)) (iT th) (Red (foC n tBe)) (paI pa) (fun _ => 0) (fun _ => 0) yb yf) {T : Int} (hlen : ∀ t, t < n → yf t ≤ T) :
    ThePlan n (iT tEa) (iT tHa) (cT tKi tEa tPr tEx tSt) (foC n tBe) T yb yf ∧ Cost n (cT tKi tEa tPr tEx tSt) yb yf = sT (mnT (cT tKi tEa tPr tEx tSt) (iT tEa) (mdT tKi tEa tHa tEx) (iT tHa) (erT tKi tEa tHa tPr tEx) (s2T tKi tEa tHa tEx tSt) (fun _ => 0)) n ∧ PushC n tKi tEa tHa tPr tEx tSt tBe th ou pa yb yf T 0 ∧ Pl n (iT tEa) (iT tHa) (Red (foC n tBe)) yb yf := by
  obtain ⟨rk, hr⟩ := hT.2.2.2.2
  have Y' := hY.congr (on' := onT (iT tEa) (mdT tKi tEa tHa tEx) (iT tHa) (erT tKi tEa tHa tPr tEx) (s2T tKi tEa tHa tEx tSt) (fun _ => 0)) (off' := offT (iT tEa) (mdT tKi tEa tHa tEx) (iT tHa) (erT tKi tEa tHa tPr tEx) (s2T tKi tEa tHa tEx tSt) (fun _ => 0)) (th' := fun _ => 0) (pa' := fun _ _ => 0) (fun t ht => by rw [onT_at, onT_at, hz1 t ht]) (fun t ht => by rw [offT_at, offT_at, hz1 t ht]) hz1 hz3
  obtain ⟨p1, p2, p3, p4, p5⟩ := plan_zero (T := T) hT.two hT.h0 Y' hlen
  have s1 : ∀ t, t < n → sT (fun o => paI pa o t) n = 0 := fun t ht => by rw [sT_congr (g := fun _ => 0) (fun o ho => hz3 o t ho ht)]; exact sT_zero n
  have s2 : ∀ t, t < n → sT (fun u => paI pa t u) n = 0 := fun t ht => by rw [sT_congr (g := fun _ => 0) (fun u hu => hz3 t u ht hu)]; exact sT_zero n
  have s3 : sT (iT ou) n = 0 := by rw [sT_congr (g := fun _ => 0) hz2]; exact sT_zero n
  have s4 : ∀ t, t < n → innF n (iT th) (paI pa) t = 0 := fun t ht => by unfold innF; rw [s1 t ht, hz1 t ht]; rfl
  refine ⟨(red_plan foC_lt hr hT.h0).mp p1, p2, ⟨hT.twoK, red_irr hT, ⟨fun t ht => ?_, fun o t ho ht => ?_, s3⟩, fun t ht => ⟨?_, fun q => absurd (hz2 t ht) q, fun q => absurd (s4 t ht) q⟩, fun o t ho ht q => absurd (hz3 o t ho ht) q⟩, p1.1.1⟩
  · rw [s4 t ht, s2 t ht, hz1 t ht, hz2 t ht]; omega
  · rw [hz3 o t ho ht]; exact ⟨by omega, fun q => absurd rfl q, by omega⟩
  · unfold mnT
    rw [onT_at, hz1 t ht, p5 t ht]; rfl
/-- a later bend -/
theorem yE_ex (hT : TB n (nI n) tKi tEa tHa tPr tEx tSt tBe) {bz fz : Nat → Int} {x7 v : Int} (H : PushC n tKi tEa tHa tPr tEx tSt tBe th ou pa bz fz x7 v) (hP : Pl n (iT tEa) (iT tHa) (Red (foC n tBe)) bz fz) (hL : Len n x7 fz) (h7 : x7 ≤ 1000) : ∃ bE fE, LeaT n (onT (iT tEa) (mdT tKi tEa tHa tEx) (iT tHa) (erT tKi tEa tHa tPr tEx) (s2T tKi tEa tHa tEx tSt) (iT th)) (offT (iT tEa) (mdT tKi tEa tHa tEx) (iT tHa) (erT tKi tEa tHa tPr tEx) (s2T tKi tEa tHa tEx tSt) (iT th)) (iT th) (Red (foC n tBe)) (paI pa) (fun _ => -1000000) (fun t => if 0 < iT ou t then 0 else -1000000) bE fE ∧ ∀ t, t < n → bE t ≤ 1000 ∧ fE t ≤ 1000 := by
  obtain ⟨hK, hfr, hF, hG⟩ := H
  have S := (tight_sol hK.1 hF.flow hP hG).shift (-x7)
  have G : GeB n (fun _ => -1000000) (fun t => if 0 < iT ou t then 0 else -1000000) (fun t => -x7 + bz t) (fun t => -x7 + fz t) := fun t ht => by
    have p := hP t ht
    have q := hT.h0 t ht
    dsimp only
    refine ⟨by omega, ?_⟩
    by_cases ho : 0 < iT ou t
    · rw [if_pos ho, (hG.1 t ht).2.1 (by omega)]; omega
    · rw [if_neg ho]; omega
  obtain ⟨bE, fE, hE⟩ := LeaT.ex S G
  refine ⟨bE, fE, hE, fun t ht => ?_⟩
  have k : bE t ≤ -x7 + bz t ∧ fE t ≤ -x7 + fz t := hE.2.2 _ _ S G t ht
  have l := hL t ht
  have p := hP t ht
  have q := hT.h0 t ht
  omega
theorem bend1 (hT : TB n (nI n) tKi tEa tHa tPr tEx tSt tBe) {bz fz bE fE : Nat → Int} {x7 v : Int} (H : PushC n tKi tEa tHa tPr tEx tSt tBe th ou pa bz fz x7 v) (hP : Pl n (iT tEa) (iT tHa) (Red (foC n tBe)) bz fz) (hL : Len n x7 fz) (h7 : x7 ≤ 1000) (hY : LeaT n (onT (iT tEa) (mdT tKi tEa tHa tEx) (iT tHa) (erT tKi tEa tHa tPr tEx) (s2T tKi tEa tHa tEx tSt) (iT th)) (offT (iT tEa) (mdT tKi tEa tHa tEx) (iT tHa) (erT tKi tEa tHa tPr tEx) (s2T tKi tEa tHa tEx tSt) (iT th)) (iT th) (Red (foC n tBe)) (paI pa) (fun _ => 0) (fun _ => 0) yb yf) (hYE : LeaT n (onT (iT tEa) (mdT tKi tEa tHa tEx) (iT tHa) (erT tKi tEa tHa tPr tEx) (s2T tKi tEa tHa tEx tSt) (iT th)) (offT (iT tEa) (mdT tKi tEa tHa tEx) (iT tHa) (erT tKi tEa tHa tPr tEx) (s2T tKi tEa tHa tEx tSt) (iT th)) (iT th) (Red (foC n tBe)) (paI pa) (fun _ => -1000000) (fun t => if 0 < iT ou t then 0 else -1000000) bE fE) {T : Int} (hlen : ∀ t, t < n → yf t ≤ T) (hT1 : T ≤ x7) (h0 : 0 ≤ T) :
    ThePlan n (iT tEa) (iT tHa) (cT tKi tEa tPr tEx tSt) (foC n tBe) T (fun t => max (yb t) (T + bE t)) (fun t => max (yf t) (T + fE t)) ∧ Cost n (cT tKi tEa tPr tEx tSt) (fun t => max (yb t) (T + bE t)) (fun t => max (yf t) (T + fE t)) = sT (mnT (cT tKi tEa tPr tEx tSt) (iT tEa) (mdT tKi tEa tHa tEx) (iT tHa) (erT tKi tEa tHa tPr tEx) (s2T tKi tEa tHa tEx tSt) (iT th)) n - v * T ∧ PushC n tKi tEa tHa tPr tEx tSt tBe th ou pa (fun t => max (yb t) (T + bE t)) (fun t => max (yf t) (T + fE t)) T v ∧ Pl n (iT tEa) (iT tHa) (Red (foC n tBe)) (fun t => max (yb t) (T + bE t)) (fun t => max (yf t) (T + fE t)) ∧ Len n T (fun t => max (yf t) (T + fE t)) := by
  obtain ⟨rk, hr⟩ := hT.2.2.2.2
  obtain ⟨hK, hfr, hF, hG⟩ := H
  obtain ⟨p1, p2, p3⟩ := plan_of hT.two hT.h0 hF.flow hP hL hG hY hYE hlen hT1 (by omega) h0
  rw [hF.2.2] at p2
  exact ⟨(red_plan foC_lt hr hT.h0).mp p1, p2, ⟨hK, hfr, hF, p3⟩, p1.1.1, p1.1.2.1⟩
/-- where no way is left, the ends can be lowered -/
theorem lowered (hT : TB n (nI n) tKi tEa tHa tPr tEx tSt tBe) {f1 f2 : Nat → Int32} {len : Int} (hS : SolT n (onT (iT tEa) (mdT tKi tEa tHa tEx) (iT tHa) (erT tKi tEa tHa tPr tEx) (s2T tKi tEa tHa tEx tSt) (iT th)) (offT (iT tEa) (mdT tKi tEa tHa tEx) (iT tHa) (erT tKi tEa tHa tPr tEx) (s2T tKi tEa tHa tEx tSt) (iT th)) (iT th) (Red (foC n tBe)) (paI pa) (iT f1) (iT f2)) (hg : GeB n (fun _ => 0) (fun _ => 0) (iT f1) (iT f2)) (hlen : ∀ t, t < n → iT f2 t ≤ len) (hN : ∃ R, NoWay (ArcC n (iT tEa) (mdT tKi tEa tHa tEx) (iT tHa) (erT tKi tEa tHa tPr tEx) (s2T tKi tEa tHa tEx tSt) tBe th pa f1 f2) (RootC n tBe f1) (TermN n (Red (foC n tBe)) (iT f2) len) R) :
    ∃ b' f', SolT n (onT (iT tEa) (mdT tKi tEa tHa tEx) (iT tHa) (erT tKi tEa tHa tPr tEx) (s2T tKi tEa tHa tEx tSt) (iT th)) (offT (iT tEa) (mdT tKi tEa tHa tEx) (iT tHa) (erT tKi tEa tHa tPr tEx) (s2T tKi tEa tHa tEx tSt) (iT th)) (iT th) (Red (foC n tBe)) (paI pa) b' f' ∧ GeB n (fun _ => 0) (fun _ => 0) b' f' ∧ ∀ t, t < n → f' t ≤ len - 1 := by
  obtain ⟨rk, hr⟩ := hT.2.2.2.2
  obtain ⟨R, n1, n2, n3⟩ := hN
  obtain ⟨M, hM⟩ := rank_top rk n
  refine ⟨_, _, next_len (rk := rk) (M := M) (R := R) (len := len) hS hg (fun t ht => (hT.onb _ t ht).1) (fun t o _ _ q => hr t o q.1) hM (fun t ht q1 q2 => n1 _ ⟨t, ht, rfl, fun o q => q1 o q.1.2.1 q, q2⟩) (fun t ht q1 q2 => n2 _ _ q1 (Or.inl ⟨t, ht, rfl, rfl, q2⟩)) (fun t ht q1 q2 q3 => n2 _ _ q1 (Or.inr (Or.inl ⟨t, ht, rfl, rfl, q2, q3⟩))) (fun t o ht ho q1 q2 q3 => n2 _ _ q2 (Or.inr (Or.inr (Or.inl ⟨t, o, ht, ho, rfl, rfl, q1, q3⟩)))) (fun t o ht ho q1 q2 q3 => n2 _ _ q2 (Or.inr (Or.inr (Or.inr ⟨t, o, ht, ho, rfl, rfl, q1, q3⟩)))) (fun t ht q1 q2 => ?_) hlen⟩
  apply Classical.byContradiction
  intro q
  exact n3 _ q1 ⟨t, ht, rfl, q2, fun u hu => q ⟨u, hu.1.1, hu⟩⟩
/-- at the start there are moments -/
theorem first_sol (hT : TB n (nI n) tKi tEa tHa tPr tEx tSt tBe) {row : Nat → Nat} (hr : IsRow n (foC n tBe) row) (hz1 : ∀ t, t < n → iT th t = 0) (hz3 : ∀ o t, o < n → t < n → paI pa o t = 0) : ∃ b' f', SolT n (onT (iT tEa) (mdT tKi tEa tHa tEx) (iT tHa) (erT tKi tEa tHa tPr tEx) (s2T tKi tEa tHa tEx tSt) (iT th)) (offT (iT tEa) (mdT tKi tEa tHa tEx) (iT tHa) (erT tKi tEa tHa tPr tEx) (s2T tKi tEa tHa tEx tSt) (iT th)) (iT th) (Red (foC n tBe)) (paI pa) b' f' ∧ GeB n (fun _ => 0) (fun _ => 0) b' f' ∧ ∀ t, t < n → f' t ≤ 720 := by
  have hn := hT.2.1
  have ex : ∀ t, ∃ k, t < n → k < n ∧ row k = t := fun t => by
    by_cases ht : t < n
    · obtain ⟨k, k1, k2⟩ := hr.onto ht
      exact ⟨k, fun _ => ⟨k1, k2⟩⟩
    · exact ⟨0, fun q => absurd q ht⟩
  obtain ⟨P, pos⟩ : ∃ P : Nat → Nat, ∀ t, t < n → P t < n ∧ row (P t) = t := ⟨fun t => Classical.choose (ex t), fun t => Classical.choose_spec (ex t)⟩
  refine ⟨fun t => 60 * (P t : Int), fun t => 60 * (P t : Int) + 60, fun t ht => ⟨?_, fun q => ?_, fun o ho => ⟨fun q => ?_, fun q => ?_⟩⟩, fun t ht => ?_, fun t ht => ?_⟩
  · have := (hT.onb (iT th) t ht).2
    dsimp only; omega
  · have := hz1 t ht; omega
  · have h1 := pos t ht
    have h2 := pos o ho
    have hf := q.1
    rw [← h1.2] at hf
    obtain ⟨j, j1, j2⟩ := hr.pred h1.1 hf
    have := hr.inj (i := j) (j := P o) (by omega) h2.1 (by rw [j2, h2.2])
    dsimp only; omega
  · have := hz3 o t ho ht; omega
  · dsimp only; omega
  · have := pos t ht; dsimp only; omega
end BENDS2
