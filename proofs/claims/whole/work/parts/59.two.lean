/-! a task's cost is of two slopes, with the rooms that the net is laid with -/
theorem aCost_two {ki pr ex st e h : Int} (hhe : h ≤ e) (hp : 0 ≤ pr) (hx : 0 ≤ ex) (hs : 0 ≤ st) :
    TwoSl (aCost ki pr ex st e) e (if ki = 2 ∧ h < e - ex then e - ex else h) h (if h < e then max 0 (pr - (if ki = 4 then ex else 0)) else 0) (if ki = 2 ∧ h < e - ex then st else 0) := by
  by_cases k2 : ki = 2
  · have k4 : ¬ ki = 4 := by omega
    rw [if_neg k4]
    by_cases k3 : h < e - ex
    · have k23 : ki = 2 ∧ h < e - ex := ⟨k2, k3⟩
      rw [if_pos k23, if_pos k23, if_pos (show h < e by omega)]
      refine ⟨by omega, by omega, by omega, hs, pr, fun x h1 h2 => ?_, Or.inl ⟨hp, by omega⟩⟩
      unfold aCost
      rw [if_pos k2, if_pos k2, if_neg k4, if_neg k4, show e - e = 0 by omega, show max 0 (e - ex - e) = 0 by omega, Int.mul_zero, Int.mul_zero]
      omega
    · have k23 : ¬ (ki = 2 ∧ h < e - ex) := fun q => k3 q.2
      rw [if_neg k23, if_neg k23]
      have hc : ∀ x, h ≤ x → x ≤ e → aCost ki pr ex st e x = aCost ki pr ex st e e + pr * (e - x) + 0 * max 0 (h - x) := by
        intro x h1 h2
        unfold aCost
        rw [if_pos k2, if_pos k2, if_neg k4, if_neg k4, show e - e = 0 by omega, show max 0 (e - ex - e) = 0 by omega, show max 0 (e - ex - x) = 0 by omega, Int.mul_zero, Int.mul_zero, Int.zero_mul]
        omega
      refine ⟨by omega, by omega, by split <;> omega, by omega, pr, hc, ?_⟩
      by_cases q : h < e
      · rw [if_pos q]; exact Or.inl ⟨hp, by omega⟩
      · rw [if_neg q]; exact Or.inr (Or.inr ⟨by omega, rfl, rfl⟩)
  · have k23 : ¬ (ki = 2 ∧ h < e - ex) := fun q => k2 q.1
    rw [if_neg k23, if_neg k23]
    by_cases k4 : ki = 4
    · rw [if_pos k4]
      have hc : ∀ x, h ≤ x → x ≤ e → aCost ki pr ex st e x = aCost ki pr ex st e e + (pr - ex) * (e - x) + 0 * max 0 (h - x) := by
        intro x h1 h2
        unfold aCost
        have m1 : (pr - ex) * (e - x) = pr * (e - x) - (ex * e - ex * x) := by rw [Int.sub_mul, Int.mul_sub ex]
        rw [if_neg k2, if_neg k2, if_pos k4, if_pos k4, show e - e = 0 by omega, Int.mul_zero, Int.zero_mul, m1]
        omega
      refine ⟨by omega, by omega, by split <;> omega, by omega, pr - ex, hc, ?_⟩
      by_cases q : h < e
      · rw [if_pos q]
        rcases Int.le_total 0 (pr - ex) with z | z
        · exact Or.inl ⟨z, by omega⟩
        · exact Or.inr (Or.inl ⟨z, by omega, rfl, rfl⟩)
      · rw [if_neg q]; exact Or.inr (Or.inr ⟨by omega, rfl, rfl⟩)
    · rw [if_neg k4]
      have hc : ∀ x, h ≤ x → x ≤ e → aCost ki pr ex st e x = aCost ki pr ex st e e + pr * (e - x) + 0 * max 0 (h - x) := by
        intro x h1 h2
        unfold aCost
        rw [if_neg k2, if_neg k2, if_neg k4, if_neg k4, show e - e = 0 by omega, Int.mul_zero, Int.zero_mul]
        omega
      refine ⟨by omega, by omega, by split <;> omega, by omega, pr, hc, ?_⟩
      by_cases q : h < e
      · rw [if_pos q]; exact Or.inl ⟨hp, by omega⟩
      · rw [if_neg q]; exact Or.inr (Or.inr ⟨by omega, rfl, rfl⟩)
/-- rooms: how much more, or less, flow keeps the span -/
def rOn (er mr th : Int) : Int := if th < er then er - th else if th < mr then mr - th else 1073741824
def rOff (er mr th : Int) : Int := if th ≤ er then th else if th ≤ mr then th - er else th - mr
theorem rOn_pos {er mr th : Int} : 0 < rOn er mr th := by
  unfold rOn; repeat' split
  all_goals omega
theorem rOff_pos {er mr th : Int} (h : 0 < th) : 0 < rOff er mr th ∧ rOff er mr th ≤ th ∨ er < 0 ∨ mr < 0 := by
  unfold rOff; repeat' split
  all_goals omega
theorem on_push {c : Int → Int} {e md h er s2 th d : Int} (H : TwoSl c e md h er s2) (ht : 0 ≤ th) (hd : 0 < d) (hr : d ≤ rOn er (er + s2) th) {x : Int} (hx : x = sOn e md h er (er + s2) th) :
    c x + (th + d) * x = c (sOn e md h er (er + s2) (th + d)) + (th + d) * sOn e md h er (er + s2) (th + d) := by
  have h0 := H
  obtain ⟨h1, h2, h3, h4, _⟩ := H
  have p := push_on (e := e) (er := er) (th := th) h1 h2 h4 hd (fun q => by unfold rOn at hr; rw [if_pos q] at hr; exact hr) (fun q q2 => by unfold rOn at hr; rw [if_neg q, if_pos q2] at hr; exact hr)
  rw [hx]
  exact two_eq h0 (by omega) p.1 p.2
/-- less flow, by no more than there is room back: the span stays one of the cheapest -/
theorem off_push {c : Int → Int} {e md h er s2 th d : Int} (H : TwoSl c e md h er s2) (hd : 0 < d) (hr : d ≤ rOff er (er + s2) th) {x : Int} (hx : x = sOff e md h er (er + s2) th) (ht : 0 < th) :
    c x + (th - d) * x = c (sOn e md h er (er + s2) (th - d)) + (th - d) * sOn e md h er (er + s2) (th - d) := by
  have h0 := H
  obtain ⟨h1, h2, h3, h4, s1, hc, hk⟩ := H
  have hle : d ≤ th := by
    unfold rOff at hr
    split at hr
    · omega
    · split at hr <;> omega
  have p := push_off (e := e) (er := er) (th := th) h1 h2 h4 hd (fun q q2 => by unfold rOff at hr; rw [if_neg q, if_pos q2] at hr; exact hr) (fun q q2 => by unfold rOff at hr; rw [if_neg q, if_neg q2] at hr; exact hr)
  rcases Int.lt_or_le 0 (th - d) with q | q
  · rw [hx]
    exact two_eq h0 q p.1 p.2
  · have hz : th - d = 0 := by omega
    rw [hz]
    have hin := sOff_in (e := e) (er := er) (mr := er + s2) (th := th) h1 h2
    rw [← hx] at hin
    have hon := sOn_in (e := e) (er := er) (mr := er + s2) (th := 0) h1 h2
    have dd := two_diff (th := 0) hc hin.1 hin.2 hon.1 hon.2
    unfold rOff at hr
    unfold sOff at hx
    have g : (0 - s1) * (x - sOn e md h er (er + s2) 0) + s2 * (max 0 (md - x) - max 0 (md - sOn e md h er (er + s2) 0)) = 0 := by
      unfold sOn
      by_cases c1 : th ≤ er
      · rw [if_pos c1] at hx
        rw [if_pos (by omega), hx]
        simp
      · rw [if_neg c1] at hx hr
        by_cases c2 : th ≤ er + s2
        · rw [if_pos c2] at hx hr
          rw [if_neg (by omega), if_pos (by omega), hx]
          simp
        · rw [if_neg c2] at hx hr
          rw [if_neg (by omega), if_neg (by omega), hx]
          simp
    omega
