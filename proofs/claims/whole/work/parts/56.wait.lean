/-! numbers that wait: tell -/
def RelW (bWC : Int32) (bWa : Nat → Int32) (mWc : Int32) (mWa : Nat → Int32) : Prop := bWC = mWc ∧ 0 ≤ bWC.toInt ∧ bWC.toInt ≤ 60 ∧ ∀ j : Nat, (j : Int) < bWC.toInt → bWa j = mWa j
theorem st_find {bFi v : Int32} {Q : Int32 → Int32 → Prop} (h : Q v (bFi + 1)) : wp_X7_finding bFi v Q := fun x e => by rw [e]; exact h
theorem st_found {mFi v : Int32} {Q : Int32 → Int32 → Prop} (hv : ¬ 0 ≤ v) (h : Q v (mFi + 1)) : wp_X9_found mFi v Q := ⟨fun q => absurd q hv, fun _ x e => by rw [e]; exact h⟩
theorem st_tell {bWC bFi mFi mWc v : Int32} {bWa mWa : Nat → Int32} {Q : Int32 → Int32 → (Nat → Int32) → Int32 → Int32 → (Nat → Int32) → Prop} (hw : RelW bWC bWa mWc mWa) (hf : bFi = mFi)
    (hQ : ∀ a b c a2 b2 c2, RelW a c b2 c2 → b = a2 → Q a b c a2 b2 c2) :
    wp_X7_tell bWC bFi bWa v (fun r a b c => wp_X9_tell mFi mWc mWa v (fun r2 a2 b2 c2 => r = r2 ∧ Q a b c a2 b2 c2)) := by
  obtain ⟨rfl, h1, h2, h3⟩ := hw
  subst hf
  have e60 : (60 : Int32).toInt = 60 := rfl
  have e1 : (1 : Int32).toInt = 1 := rfl
  refine ⟨fun c => ?_, fun c => ?_⟩
  · rw [i_lt, e60] at c
    have hin : vp_in bWC 60 := vp_iff.mpr ⟨h1, c⟩
    have hne : ¬ bWC = 60 := fun q => by rw [q] at c; exact absurd c (by decide)
    refine ⟨hin, fun x ex y ey => ⟨fun _ => ⟨hin, fun x2 ex2 y2 ey2 => ⟨by rw [ey, ey2], hQ _ _ _ _ _ _ ⟨by rw [ey, ey2], ?_, ?_, fun j hj => ?_⟩ rfl⟩⟩, fun q => absurd q hne⟩⟩
    · rw [ey, i_add (by rw [e1]; omega) (by rw [e1]; omega), e1]; omega
    · rw [ey, i_add (by rw [e1]; omega) (by rw [e1]; omega), e1]; omega
    · rw [ey, i_add (by rw [e1]; omega) (by rw [e1]; omega), e1] at hj
      rw [ex, ex2]
      by_cases hjk : j = bWC.toNatClampNeg
      · simp [upd, hjk]
      · have hk := vp_nat hin
        simp only [upd, hjk, if_false]
        exact h3 j (by omega)
  · rw [i_lt, e60] at c
    have he : bWC = 60 := i_eq.mpr (by rw [e60]; omega)
    refine st_find ⟨fun q => absurd he q, fun _ => st_found (by decide) ⟨rfl, hQ _ _ _ _ _ _ ⟨rfl, h1, h2, h3⟩ rfl⟩⟩
