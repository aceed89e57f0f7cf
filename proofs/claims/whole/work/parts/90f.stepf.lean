/-! steps: the cheapest -/
section STEPF
variable {n : Nat} {tKi tEa tHa tPr tEx tSt tBe : Nat → Int32} {pT : Int32} {pK pN pF : Nat → Int32} {sh : Int} {bFi mFi mAK mSh : Int32} {mCh : Nat → Int64} {mRw mSn mBg mMo : Nat → Int32} {mRm mOw : Nat → Int64} {mGo mFr mQu : Nat → Int32} {iRo iEa : Nat → Int32} {cC nC nFo nQd : Int32} {nRo nBe nEa nMi nHa nER nMR nTh nPa nOu nFr nQu : Nat → Int32} {eM : Nat} {eL : Nat → Int32} {eC eS : Nat → Int64} {eB eE eF eG : Nat → Nat → Int32}
/-- cost and slope of the curve at any length -/
theorem cost_at {i : Nat} (hb : ∀ j, j ≤ i → BendOK n tKi tEa tHa tPr tEx tSt tBe sh eL eC eS eB eE eF eG j) {T v w : Int} (h1 : (eL i).toInt ≤ T) (h3 : ∀ j, j + 1 = i → T < (eL j).toInt) (hv : CAt n (iT tEa) (iT tHa) (cT tKi tEa tPr tEx tSt) (foC n tBe) (min T 720) v) (hw : CAt n (iT tEa) (iT tHa) (cT tKi tEa tPr tEx tSt) (foC n tBe) (min (T + 1) 720) w) : v = (eC i).toInt - (eS i).toInt * (T - (eL i).toInt) ∧ (eS i).toInt = v - w := by
  have b := hb i (Nat.le_refl _)
  rcases Int.lt_or_le T 720 with q | q
  · have k1 := bend_cat b (T := T) h1 (by omega) (fun j hj => by have := h3 j hj; omega)
    have k2 := bend_cat b (T := T + 1) (by omega) (by omega) (fun j hj => by have := h3 j hj; omega)
    rw [show min T 720 = T by omega] at hv
    rw [show min (T + 1) 720 = T + 1 by omega] at hw
    have e1 := hv.one k1
    have e2 := hw.one k2
    have m : (eS i).toInt * (T + 1 - (eL i).toInt) = (eS i).toInt * (T - (eL i).toInt) + (eS i).toInt := by
      rw [show T + 1 - (eL i).toInt = (T - (eL i).toInt) + 1 by omega, Int.mul_add, Int.mul_one]
    omega
  · have i0 : i = 0 := by
      rcases Nat.eq_zero_or_pos i with z | z
      · exact z
      · have a := h3 (i - 1) (by omega)
        have b := (hb (i - 1) (by omega)).1.2
        omega
    rw [show min T 720 = 720 by omega] at hv
    rw [show min (T + 1) 720 = 720 by omega] at hw
    have e1 := hv.one hw
    have e2 := b.2.2.2.1 i0
    have k1 := bend_cat b (T := 720) b.1.2 (by omega) (fun j hj => absurd hj (by omega))
    have e3 := hv.one k1
    rw [e2, Int.zero_mul] at e3
    rw [e2, Int.zero_mul]
    omega
theorem cheap_eq {c s L T A1 A2 v w : Int} (h1 : v = c - s * (T - L)) (h2 : s = v - w) : c * A2 - s * (A1 - L * A2) = A2 * v + (A1 - A2 * T) * (w - v) := by
  have e1 : w - v = -s := by omega
  rw [e1, h1, Int.mul_neg]
  have a1 : s * (A1 - L * A2) = s * A1 - s * (L * A2) := Int.mul_sub _ _ _
  have a2 : A2 * (c - s * (T - L)) = A2 * c - A2 * (s * (T - L)) := Int.mul_sub _ _ _
  have a3 : A2 * (s * (T - L)) = A2 * (s * T) - A2 * (s * L) := by rw [Int.mul_sub, Int.mul_sub]
  have a4 : (A1 - A2 * T) * s = A1 * s - A2 * T * s := Int.sub_mul _ _ _
  have c1 : c * A2 = A2 * c := Int.mul_comm _ _
  have c2 : s * A1 = A1 * s := Int.mul_comm _ _
  have c3 : s * (L * A2) = A2 * (s * L) := by rw [← Int.mul_assoc, Int.mul_comm]
  have c4 : A2 * T * s = A2 * (s * T) := by rw [Int.mul_assoc, Int.mul_comm T s]
  omega
end STEPF
