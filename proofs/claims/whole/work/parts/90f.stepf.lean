/-! steps: the cheapest -/
section STEPF
variable {n : Nat} {tKi tEa tHa tPr tEx tSt tBe : Nat → Int32} {pT : Int32} {pK pN pF : Nat → Int32} {sh : Int} {bFi mFi mAK mSh : Int32} {mCh : Nat → Int64} {mRw mSn mBg mMo : Nat → Int32} {mRm mOw : Nat → Int64} {mGo mFr mQu : Nat → Int32} {iRo iEa : Nat → Int32} {cC nC nFo nQd : Int32} {nRo nBe nEa nMi nHa nER nMR nTh nPa nOu nFr nQu : Nat → Int32} {eM : Nat} {eL : Nat → Int32} {eC eS : Nat → Int64} {eB eE eF eG : Nat → Nat → Int32}
/-- cost and slope of the curve at any length -/
theorem cost_at {i : Nat} (hb : ∀ j, j ≤ i → BendOK n tKi tEa tHa tPr tEx tSt tBe sh eL eC eS eB eE eF eG j) {T v w : Int} (h1 : (eL i).toInt ≤ T) (h3 : ∀ j, j + 1 = i → T < (eL j).toInt) (hv : CAt n (iT tEa) (iT tHa) (cT tKi tEa tPr tEx tSt) (foC n tBe) (min T 720) v) (hw : CAt n (iT tEa) (iT tHa) (cT tKi tEa tPr tEx tSt) (foC n tBe) (min (T + 1) 720) w) : v = (eC i).toInt - (eS i).toInt * (T - (eL i).toInt) ∧ (eS i).toInt = v - w := by
  have b := hb i (Nat.le_refl _)
  rcases Int.lt_or_le T 720 with q | q
  · have k1 := bend_cat b (T := T) h1 (by omega) (fun j hj => by have := h3 j hj; omega)
    have k2 := bend_cat b (T := T + 1) (by omega) (by omega) (fun j hj => by have := h3 j hj; omega)
    rw [show min T 720 = T by omega] at hv
    rw [show min (T + 1) 720 = T + 1 by omega] at hw
    have e1 := hv.one k1
    have e2 := hw.one k2
    have m : (eS i).toInt * (T + 1 - (eL i).toInt) = (eS i).toInt * (T - (eL i).toInt) + (eS i).toInt := by
      rw [show T + 1 - (eL i).toInt = (T - (eL i).toInt) + 1 by omega, Int.mul_add, Int.mul_one]
    omega
  · have i0 : i = 0 := by
      rcases Nat.eq_zero_or_pos i with z | z
      · exact z
      · have a := h3 (i - 1) (by omega)
        have b := (hb (i - 1) (by omega)).1.2
        omega
    rw [show min T 720 = 720 by omega] at hv
    rw [show min (T + 1) 720 = 720 by omega] at hw
    have e1 := hv.one hw
    have e2 := b.2.2.2.1 i0
    have k1 := bend_cat b (T := 720) b.1.2 (by omega) (fun j hj => absurd hj (by omega))
    have e3 := hv.one k1
    rw [e2, Int.zero_mul] at e3
    rw [e2, Int.zero_mul]
    omega
theorem cheap_eq {c s L T A1 A2 v w : Int} (h1 : v = c - s * (T - L)) (h2 : s = v - w) : c * A2 - s * (A1 - L * A2) = A2 * v + (A1 - A2 * T) * (w - v) := by
  have e1 : w - v = -s := by omega
  rw [e1, h1, Int.mul_neg]
  have a1 : s * (A1 - L * A2) = s * A1 - s * (L * A2) := Int.mul_sub _ _ _
  have a2 : A2 * (c - s * (T - L)) = A2 * c - A2 * (s * (T - L)) := Int.mul_sub _ _ _
  have a3 : A2 * (s * (T - L)) = A2 * (s * T) - A2 * (s * L) := by rw [Int.mul_sub, Int.mul_sub]
  have a4 : (A1 - A2 * T) * s = A1 * s - A2 * T * s := Int.sub_mul _ _ _
  have c1 : c * A2 = A2 * c := Int.mul_comm _ _
  have c2 : s * A1 = A1 * s := Int.mul_comm _ _
  have c3 : s * (L * A2) = A2 * (s * L) := by rw [← Int.mul_assoc, Int.mul_comm]
  have c4 : A2 * T * s = A2 * (s * T) := by rw [Int.mul_assoc, Int.mul_comm T s]
  omega
theorem cheap_c {i : Nat} (hb : ∀ j, j ≤ i → BendOK n tKi tEa tHa tPr tEx tSt tBe sh eL eC eS eB eE eF eG j) {v0 v1 : Int32} {T v w : Int} (s0 : 0 ≤ sh) (hv1 : 1 ≤ v1.toInt ∧ v1.toInt ≤ 1000) (h1 : (eL i).toInt ≤ T) (t1 : T * v1.toInt ≤ v0.toInt) (t2 : v0.toInt - v1.toInt * T ≤ 1000) (hvw : v = (eC i).toInt - (eS i).toInt * (T - (eL i).toInt) ∧ (eS i).toInt = v - w) {r18 r31 r44 : Int64} {x : Int32} (e18 : r18.toInt = v) (e31 : r31.toInt = w) (e44 : r44.toInt = v) (bv : 0 ≤ v ∧ v ≤ 144000000) (bw : 0 ≤ w ∧ w ≤ 144000000) (ex : x.toInt = T) (t0 : 0 ≤ T) :
    ((eC i) * (Int32.toInt64 v1)) - ((eS i) * ((Int32.toInt64 v0) - ((Int32.toInt64 (eL i)) * (Int32.toInt64 v1)))) = ((Int32.toInt64 v1) * r18) + (((Int32.toInt64 v0) - ((Int32.toInt64 v1) * (Int32.toInt64 x))) * (r31 - r44)) := by
  have b := hb i (Nat.le_refl _)
  obtain ⟨b1, b2, b3, _⟩ := b
  have x0 : -2147483648 ≤ v0.toInt ∧ v0.toInt < 2147483648 := ⟨Int32.le_toInt v0, Int32.toInt_lt v0⟩
  have p1 := mul_bd (a := (eC i).toInt) (b := v1.toInt) (A := 144000000) (B := 1000) b2.1 b2.2 (by omega) hv1.2
  have p2 := mul_bd (a := (eL i).toInt) (b := v1.toInt) (A := 720) (B := 1000) (by omega) b1.2 (by omega) hv1.2
  have lt : (eL i).toInt * v1.toInt ≤ T * v1.toInt := Int.mul_le_mul_of_nonneg_right h1 (by omega)
  have p3 := mul_bd (a := (eS i).toInt) (b := v0.toInt - (eL i).toInt * v1.toInt) (A := 144000000) (B := 2147483648) b3.1 b3.2 (by omega) (by omega)
  have p4 := mul_bd (a := v1.toInt) (b := v) (A := 1000) (B := 144000000) (by omega) hv1.2 bv.1 bv.2
  have cm : v1.toInt * T = T * v1.toInt := Int.mul_comm _ _
  have p5 := mul_bd (a := v0.toInt - v1.toInt * T) (b := (eS i).toInt) (A := 1000) (B := 144000000) (by omega) t2 b3.1 b3.2
  have t3 : 0 ≤ T * v1.toInt := Int.mul_nonneg t0 (by omega)
  have p6 : (v0.toInt - v1.toInt * T) * (w - v) = -((v0.toInt - v1.toInt * T) * (eS i).toInt) := by rw [show w - v = -(eS i).toInt by omega, Int.mul_neg]
  have k1 : ((eC i) * (Int32.toInt64 v1)).toInt = (eC i).toInt * v1.toInt := by rw [l_mul (by rw [l_of]; omega) (by rw [l_of]; omega), l_of]
  have k2 : ((Int32.toInt64 (eL i)) * (Int32.toInt64 v1)).toInt = (eL i).toInt * v1.toInt := by rw [l_mul (by rw [l_of, l_of]; omega) (by rw [l_of, l_of]; omega), l_of, l_of]
  have k3 : ((Int32.toInt64 v0) - ((Int32.toInt64 (eL i)) * (Int32.toInt64 v1))).toInt = v0.toInt - (eL i).toInt * v1.toInt := by rw [l_sub (by rw [l_of, k2]; omega) (by rw [l_of, k2]; omega), l_of, k2]
  have k4 : ((eS i) * ((Int32.toInt64 v0) - ((Int32.toInt64 (eL i)) * (Int32.toInt64 v1)))).toInt = (eS i).toInt * (v0.toInt - (eL i).toInt * v1.toInt) := by rw [l_mul (by rw [k3]; omega) (by rw [k3]; omega), k3]
  have m1 : ((Int32.toInt64 v1) * r18).toInt = v1.toInt * v := by rw [l_mul (by rw [l_of, e18]; omega) (by rw [l_of, e18]; omega), l_of, e18]
  have m2 : ((Int32.toInt64 v1) * (Int32.toInt64 x)).toInt = v1.toInt * T := by rw [l_mul (by rw [l_of, l_of, ex]; omega) (by rw [l_of, l_of, ex]; omega), l_of, l_of, ex]
  have m3 : ((Int32.toInt64 v0) - ((Int32.toInt64 v1) * (Int32.toInt64 x))).toInt = v0.toInt - v1.toInt * T := by rw [l_sub (by rw [l_of, m2]; omega) (by rw [l_of, m2]; omega), l_of, m2]
  have m4 : (r31 - r44).toInt = w - v := by rw [l_sub (by rw [e31, e44]; omega) (by rw [e31, e44]; omega), e31, e44]
  have m5 : (((Int32.toInt64 v0) - ((Int32.toInt64 v1) * (Int32.toInt64 x))) * (r31 - r44)).toInt = (v0.toInt - v1.toInt * T) * (w - v) := by rw [l_mul (by rw [m3, m4]; omega) (by rw [m3, m4]; omega), m3, m4]
  rw [l_eq, l_sub (by rw [k1, k4]; omega) (by rw [k1, k4]; omega), l_add (by rw [m1, m5]; omega) (by rw [m1, m5]; omega), k1, k4, m1, m5]
  exact cheap_eq hvw.1 hvw.2
end STEPF
