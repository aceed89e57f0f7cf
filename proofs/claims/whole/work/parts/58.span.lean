/-! the spans that go with a flow through a task -/
def sOn (e md h er mr th : Int) : Int := if th < er then e else if th < mr then md else h
def sOff (e md h er mr th : Int) : Int := if th ≤ er then e else if th ≤ mr then md else h
/-- the kind of cost that a task has: two slopes, or one that never falls -/
def TwoSl (c : Int → Int) (e md h er s2 : Int) : Prop := h ≤ md ∧ md ≤ e ∧ 0 ≤ er ∧ 0 ≤ s2 ∧ ∃ s1 : Int, (∀ x, h ≤ x → x ≤ e → c x = c e + s1 * (e - x) + s2 * max 0 (md - x)) ∧ ((0 ≤ s1 ∧ er = s1) ∨ (s1 ≤ 0 ∧ er = 0 ∧ s2 = 0 ∧ md = h) ∨ (h = e ∧ er = 0 ∧ s2 = 0))
/-- what a span costs above the span that goes with the flow, where slopes fall -/
theorem two_diff {c : Int → Int} {e md h s1 s2 th x y : Int} (hc : ∀ x, h ≤ x → x ≤ e → c x = c e + s1 * (e - x) + s2 * max 0 (md - x)) (hx : h ≤ x) (hx2 : x ≤ e) (hy : h ≤ y) (hy2 : y ≤ e) :
    c x + th * x - (c y + th * y) = (th - s1) * (x - y) + s2 * (max 0 (md - x) - max 0 (md - y)) := by
  rw [hc x hx hx2, hc y hy hy2]
  have a1 : s1 * (e - x) = s1 * e - s1 * x := Int.mul_sub _ _ _
  have a2 : s1 * (e - y) = s1 * e - s1 * y := Int.mul_sub _ _ _
  have a3 : (th - s1) * (x - y) = (th * x - th * y) - (s1 * x - s1 * y) := by rw [Int.sub_mul, Int.mul_sub, Int.mul_sub]
  have a4 : s2 * (max 0 (md - x) - max 0 (md - y)) = s2 * max 0 (md - x) - s2 * max 0 (md - y) := Int.mul_sub _ _ _
  rw [a1, a2, a3, a4]
  omega
theorem mul_pos0 {a b : Int} (ha : 0 < a) (h : a * b ≤ 0) : b ≤ 0 := by
  rcases Int.lt_or_le 0 b with q | q
  · have := Int.mul_pos ha q; omega
  · exact q
theorem two_on {c : Int → Int} {e md h er s2 th : Int} (H : TwoSl c e md h er s2) (ht : 0 ≤ th) {x : Int} (hx : h ≤ x) (hx2 : x ≤ e) :
    c (sOn e md h er (er + s2) th) + th * sOn e md h er (er + s2) th ≤ c x + th * x ∧ (c x + th * x = c (sOn e md h er (er + s2) th) + th * sOn e md h er (er + s2) th → sOn e md h er (er + s2) th ≤ x ∧ (0 < th → x ≤ sOff e md h er (er + s2) th)) := by
  obtain ⟨h1, h2, h3, h4, s1, hc, hk⟩ := H
  unfold sOn sOff
  by_cases c1 : th < er
  · rw [if_pos c1, if_pos (by omega)]
    have d := two_diff (th := th) hc hx hx2 (y := e) (by omega) (by omega)
    have z : max 0 (md - e) = 0 := by omega
    rw [z, Int.sub_zero] at d
    have hs : er = s1 := by omega
    have p1 : 0 ≤ (s1 - th) * (e - x) := Int.mul_nonneg (by omega) (by omega)
    have p2 : 0 ≤ s2 * max 0 (md - x) := Int.mul_nonneg h4 (by omega)
    have p3 : (th - s1) * (x - e) = (s1 - th) * (e - x) := by rw [show th - s1 = -(s1 - th) by omega, show x - e = -(e - x) by omega, Int.neg_mul_neg]
    refine ⟨by omega, fun q => ⟨?_, fun _ => hx2⟩⟩
    have := mul_pos0 (a := s1 - th) (b := e - x) (by omega) (by omega)
    omega
  · rw [if_neg c1]
    by_cases c2 : th < er + s2
    · rw [if_pos c2]
      have hs : er = s1 := by omega
      have d := two_diff (th := th) hc hx hx2 (y := md) (by omega) (by omega)
      have z : max 0 (md - md) = 0 := by omega
      rw [z, Int.sub_zero] at d
      rcases Int.lt_or_le x md with q | q
      · have z2 : max 0 (md - x) = md - x := by omega
        rw [z2] at d
        have p3 : (th - s1) * (x - md) + s2 * (md - x) = (s1 + s2 - th) * (md - x) := by
          rw [show x - md = -(md - x) by omega, Int.mul_neg, ← Int.neg_mul, ← Int.add_mul]; congr 1; omega
        have p4 : 0 < (s1 + s2 - th) * (md - x) := Int.mul_pos (by omega) (by omega)
        exact ⟨by omega, fun r => by omega⟩
      · have z2 : max 0 (md - x) = 0 := by omega
        rw [z2, Int.mul_zero] at d
        have p1 : 0 ≤ (th - s1) * (x - md) := Int.mul_nonneg (by omega) (by omega)
        refine ⟨by omega, fun r => ⟨q, fun _ => ?_⟩⟩
        by_cases c3 : th ≤ er
        · rw [if_pos c3]; exact hx2
        · rw [if_neg c3, if_pos (by omega)]
          have := mul_pos0 (a := th - s1) (b := x - md) (by omega) (by omega)
          omega
    · rw [if_neg c2]
      have d := two_diff (th := th) hc hx hx2 (y := h) (by omega) (by omega)
      have z : max 0 (md - h) = md - h := by omega
      rw [z] at d
      by_cases he : h = e
      · have hxh : x = h := by omega
        subst hxh
        refine ⟨by omega, fun _ => ⟨by omega, fun _ => ?_⟩⟩
        split
        · exact hx2
        · split <;> omega
      · have hge : s2 ≤ th - s1 := by omega
        have key : c x + th * x - (c h + th * h) = (th - s1 - s2) * (x - h) + s2 * max 0 (x - md) := by
          rw [d]
          have a1 : (th - s1 - s2) * (x - h) = (th - s1) * (x - h) - s2 * (x - h) := Int.sub_mul _ _ _
          have a2 : s2 * (max 0 (md - x) - (md - h)) = s2 * max 0 (x - md) - s2 * (x - h) := by
            rw [← Int.mul_sub]; congr 1; omega
          omega
        have p1 : 0 ≤ (th - s1 - s2) * (x - h) := Int.mul_nonneg (by omega) (by omega)
        have p2 : 0 ≤ s2 * max 0 (x - md) := Int.mul_nonneg h4 (by omega)
        refine ⟨by omega, fun r => ⟨hx, fun h0 => ?_⟩⟩
        by_cases c3 : th ≤ er
        · rw [if_pos c3]; exact hx2
        · rw [if_neg c3]
          by_cases c4 : th ≤ er + s2
          · rw [if_pos c4]
            have := mul_pos0 (a := s2) (b := max 0 (x - md)) (by omega) (by omega)
            omega
          · rw [if_neg c4]
            have := mul_pos0 (a := th - s1 - s2) (b := x - h) (by omega) (by omega)
            omega
/-- between the two spans all cost the same -/
theorem two_eq {c : Int → Int} {e md h er s2 th : Int} (H : TwoSl c e md h er s2) (ht : 0 < th) {x : Int} (hx : sOn e md h er (er + s2) th ≤ x) (hx2 : x ≤ sOff e md h er (er + s2) th) :
    c x + th * x = c (sOn e md h er (er + s2) th) + th * sOn e md h er (er + s2) th := by
  obtain ⟨h1, h2, h3, h4, s1, hc, hk⟩ := H
  unfold sOn at hx ⊢
  unfold sOff at hx2
  by_cases c1 : th < er
  · rw [if_pos c1] at hx ⊢
    rw [if_pos (by omega)] at hx2
    rw [show x = e by omega]
  · rw [if_neg c1] at hx ⊢
    by_cases c2 : th < er + s2
    · rw [if_pos c2] at hx ⊢
      have hs : er = s1 := by omega
      by_cases c3 : th ≤ er
      · rw [if_pos c3] at hx2
        have d := two_diff (th := th) hc (x := x) (y := md) (by omega) (by omega) (by omega) (by omega)
        have z : max 0 (md - md) = 0 := by omega
        have z2 : max 0 (md - x) = 0 := by omega
        rw [z, z2, Int.sub_zero, Int.mul_zero, show th - s1 = 0 by omega, Int.zero_mul] at d
        omega
      · rw [if_neg c3, if_pos (by omega)] at hx2
        rw [show x = md by omega]
    · rw [if_neg c2] at hx ⊢
      by_cases c3 : th ≤ er
      · rw [if_pos c3] at hx2
        have hs : er = s1 := by omega
        have d := two_diff (th := th) hc (x := x) (y := h) (by omega) (by omega) (by omega) (by omega)
        rw [show th - s1 = 0 by omega, Int.zero_mul, show s2 = 0 by omega, Int.zero_mul] at d
        omega
      · rw [if_neg c3] at hx2
        by_cases c4 : th ≤ er + s2
        · rw [if_pos c4] at hx2
          have hs : er = s1 := by omega
          have d := two_diff (th := th) hc (x := x) (y := h) (by omega) (by omega) (by omega) (by omega)
          have z : max 0 (md - h) = md - h := by omega
          have z2 : max 0 (md - x) = md - x := by omega
          have p : s2 * (md - x - (md - h)) = -(s2 * (x - h)) := by rw [← Int.mul_neg]; congr 1; omega
          rw [z, z2, p, show th - s1 = s2 by omega] at d
          omega
        · rw [if_neg c4] at hx2
          rw [show x = h by omega]
theorem sOn_le_off {e md h er s2 th : Int} (h1 : h ≤ md) (h2 : md ≤ e) (h4 : 0 ≤ s2) : sOn e md h er (er + s2) th ≤ sOff e md h er (er + s2) th := by
  unfold sOn sOff
  repeat' split
  all_goals omega
theorem sOn_in {e md h er mr th : Int} (h1 : h ≤ md) (h2 : md ≤ e) : h ≤ sOn e md h er mr th ∧ sOn e md h er mr th ≤ e := by
  unfold sOn
  repeat' split
  all_goals omega
theorem sOff_in {e md h er mr th : Int} (h1 : h ≤ md) (h2 : md ≤ e) : h ≤ sOff e md h er mr th ∧ sOff e md h er mr th ≤ e := by
  unfold sOff
  repeat' split
  all_goals omega
/-- more flow, by no more than there is room: the span stays one of the cheapest -/
theorem push_on {e md h er s2 th d : Int} (h1 : h ≤ md) (h2 : md ≤ e) (h4 : 0 ≤ s2) (hd : 0 < d) (hr : th < er → d ≤ er - th) (hr2 : ¬ th < er → th < er + s2 → d ≤ er + s2 - th) :
    sOn e md h er (er + s2) (th + d) ≤ sOn e md h er (er + s2) th ∧ sOn e md h er (er + s2) th ≤ sOff e md h er (er + s2) (th + d) := by
  unfold sOn sOff
  constructor <;> (repeat' split) <;> omega
theorem push_off {e md h er s2 th d : Int} (h1 : h ≤ md) (h2 : md ≤ e) (h4 : 0 ≤ s2) (hd : 0 < d) (hr2 : ¬ th ≤ er → th ≤ er + s2 → d ≤ th - er) (hr3 : ¬ th ≤ er → ¬ th ≤ er + s2 → d ≤ th - (er + s2)) :
    sOn e md h er (er + s2) (th - d) ≤ sOff e md h er (er + s2) th ∧ sOff e md h er (er + s2) th ≤ sOff e md h er (er + s2) (th - d) := by
  unfold sOn sOff
  constructor <;> (repeat' split) <;> omega
