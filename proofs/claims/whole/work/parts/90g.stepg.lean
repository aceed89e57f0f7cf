/-! steps: the cheapest -/
section STEPG
variable {n : Nat} {tKi tEa tHa tPr tEx tSt tBe : Nat → Int32} {pT : Int32} {pK pN pF : Nat → Int32} {sh : Int} {bFi mFi mAK mSh : Int32} {mCh : Nat → Int64} {mRw mSn mBg mMo : Nat → Int32} {mRm mOw : Nat → Int64} {mGo mFr mQu : Nat → Int32} {iRo iEa : Nat → Int32} {cC nC nFo nQd : Int32} {nRo nBe nEa nMi nHa nER nMR nTh nPa nOu nFr nQu : Nat → Int32} {eM : Nat} {eL : Nat → Int32} {eC eS : Nat → Int64} {eB eE eF eG : Nat → Nat → Int32}
theorem CurveOK.s7 (H : CurveOK n tKi tEa tHa tPr tEx tSt tBe sh cC eM eL eC eS eB eE eF eG) : sh ≤ 720 := by
  obtain ⟨k, w1, w2, w3, w4, w5, w6⟩ := H
  rw [← w6 (k - 1) (by omega)]
  exact (w5 (k - 1) (by omega)).1.2
theorem st_cheapest (hT : TB n (nI n) tKi tEa tHa tPr tEx tSt tBe) (hM : MB n tKi tEa tHa tPr tEx tSt tBe pT pK pN pF) (hsh : Sh n (foC n tBe) (iT tHa) sh) (hC : ¬ cC = 0 → CurveOK n tKi tEa tHa tPr tEx tSt tBe sh cC eM eL eC eS eB eE eF eG) (hKn : ¬ mAK = 0 → Known n (iT tEa) (iT tHa) (cT tKi tEa tPr tEx tSt) (foC n tBe) mSh mCh) (hM7 : eM ≤ 721) (hfi : bFi = mFi) {P : Int32 → (Nat → Int32) → (Nat → Int32) → Int32 → Int32 → Int32 → Int32 → (Nat → Int32) → (Nat → Int32) → (Nat → Int32) → (Nat → Int32) → (Nat → Int32) → (Nat → Int32) → (Nat → Int32) → (Nat → Int32) → (Nat → Int32) → (Nat → Int32) → (Nat → Int32) → (Nat → Int32) → Nat → (Nat → Int32) → (Nat → Int64) → (Nat → Int64) → (Nat → Nat → Int32) → (Nat → Nat → Int32) → (Nat → Nat → Int32) → (Nat → Nat → Int32) → Int32 → Int32 → Int32 → (Nat → Int32) → (Nat → Int32) → (Nat → Int32) → (Nat → Int32) → (Nat → Int64) → (Nat → Int64) → (Nat → Int32) → (Nat → Int32) → (Nat → Int32) → (Nat → Int64) → Prop} (hP : ∀ (bFi : Int32) (iRo iEa : Nat → Int32) (cC nC nFo nQd : Int32) (nRo nBe nEa nMi nHa nER nMR nTh nPa nOu nFr nQu : Nat → Int32) (eM : Nat) (eL : Nat → Int32) (eC eS : Nat → Int64) (eB eE eF eG : Nat → Nat → Int32) (mFi : Int32) (mAK mSh : Int32) (mRw mSn mBg mMo : Nat → Int32) (mRm mOw : Nat → Int64) (mGo mFr mQu : Nat → Int32) (mCh : Nat → Int64), bFi = mFi → (¬ cC = 0 → CurveOK n tKi tEa tHa tPr tEx tSt tBe sh cC eM eL eC eS eB eE eF eG) → (¬ mAK = 0 → Known n (iT tEa) (iT tHa) (cT tKi tEa tPr tEx tSt) (foC n tBe) mSh mCh) → eM ≤ 721 → P bFi iRo iEa cC nC nFo nQd nRo nBe nEa nMi nHa nER nMR nTh nPa nOu nFr nQu eM eL eC eS eB eE eF eG mFi mAK mSh mRw mSn mBg mMo mRm mOw mGo mFr mQu mCh) (v0 v1 : Int32) :
    ∃ K : Nat, eM + K ≤ 721 ∧ wp_X7_cheapest bFi (nI n) tKi tEa tHa tPr tEx tSt tBe iRo iEa cC nC nFo nQd nRo nBe nEa nMi nHa nER nMR nTh nPa nOu nFr nQu eM eL eC eS eB eE eF eG v0 v1 K (fun r bFi_n iRo_n iEa_n cC_n nC_n nFo_n nQd_n nRo_n nBe_n nEa_n nMi_n nHa_n nER_n nMR_n nTh_n nPa_n nOu_n nFr_n nQu_n eM_n eL_n eC_n eS_n eB_n eE_n eF_n eG_n => eM_n = eM + K ∧ wp_X9_cheapest (nI n) pK pN pF mFi mAK mSh mRw mSn mBg mMo mRm mOw mGo mFr mQu mCh v0 v1 (fun r2 mFi_n mAK_n mSh_n mRw_n mSn_n mBg_n mMo_n mRm_n mOw_n mGo_n mFr_n mQu_n mCh_n => r = r2 ∧ P bFi_n iRo_n iEa_n cC_n nC_n nFo_n nQd_n nRo_n nBe_n nEa_n nMi_n nHa_n nER_n nMR_n nTh_n nPa_n nOu_n nFr_n nQu_n eM_n eL_n eC_n eS_n eB_n eE_n eF_n eG_n mFi_n mAK_n mSh_n mRw_n mSn_n mBg_n mMo_n mRm_n mOw_n mGo_n mFr_n mQu_n mCh_n)) := by
  have s0 : 0 ≤ sh := by obtain ⟨B, _, hB⟩ := hsh; exact hB.1
  have e1 : (1 : Int32).toInt = 1 := rfl
  have e2 : (1000 : Int32).toInt = 1000 := rfl
  have f1 : (1 : Int64).toInt = 1 := rfl
  have f2 : (1000 : Int64).toInt = 1000 := rfl
  by_cases z : 1 ≤ v1.toInt ∧ v1.toInt ≤ 1000
  · obtain ⟨K, k1, k2, k3⟩ := rc_K n tKi tEa tHa tPr tEx tSt tBe sh cC hM7
    have nz : ¬ v1 = 0 := fun e => by rw [e] at z; exact absurd z.1 (by decide)
    refine ⟨K, k1, ⟨fun q => absurd (i_lt.mp q) (by omega), fun _ => ⟨fun _ => wp_rc hT hsh hC k2 k3 (fun iRo iEa cC nC nFo nQd nRo nBe nEa nMi nHa nER nMR nTh nPa nOu nFr nQu eM' eL eC eS eB eE eF eG g1 g2 => wp_shc g2 (fun r hr => ?_)), fun q => absurd (i_le.mpr (by omega)) q⟩⟩⟩
    have s7 := g2.s7
    have pb := mul_bd (a := sh) (b := v1.toInt) (A := 720) (B := 1000) s0 s7 (by omega) z.2
    have cm : v1.toInt * sh = sh * v1.toInt := Int.mul_comm _ _
    have m : ((Int32.toInt64 r) * (Int32.toInt64 v1)).toInt = sh * v1.toInt := by rw [l_mul (by rw [l_of, l_of, hr]; omega) (by rw [l_of, l_of, hr]; omega), l_of, l_of, hr]
    rw [cmp_ge0, l_of, m]
    refine ⟨fun q => ?_, fun q b eb => ⟨g1, ?_⟩⟩
    · have v00 : 0 ≤ v0.toInt := by omega
      have dT : (v0 / v1).toInt = v0.toInt / v1.toInt := by rw [i_div (by omega), Int.tdiv_eq_ediv_of_nonneg v00]
      have t1 : v0.toInt / v1.toInt * v1.toInt ≤ v0.toInt := Int.ediv_mul_le _ (by omega)
      have t2 : v0.toInt - v1.toInt * (v0.toInt / v1.toInt) ≤ 1000 := by
        have a := Int.emod_lt_of_pos v0.toInt (show 0 < v1.toInt by omega)
        have b := Int.mul_ediv_add_emod v0.toInt v1.toInt
        omega
      have t3 : sh ≤ v0.toInt / v1.toInt := Int.le_ediv_of_mul_le (by omega) q
      have x0 := Int32.toInt_lt v0
      have t4 : v0.toInt / v1.toInt ≤ v0.toInt := Int.ediv_le_self _ v00
      refine ⟨nz, wp_bf g2 (a1 := v0 / v1) (by rw [dT]; exact t3) (fun i b1 b2 b3 => ⟨g1, ?_⟩)⟩
      rw [dT] at b2 b3
      refine wp_in (fun _ => ⟨fun _ => wp_kn hT hM hsh hKn (fun ak s w sn b mo rr o g f qq ch c1 c2 c3 => ?_), fun z => absurd z (by decide)⟩) (fun z2 => absurd (by rw [l_of, f1, f2]; exact z) z2)
      have m2 : ((Int32.toInt64 v1) * (Int32.toInt64 s)).toInt = v1.toInt * sh := by rw [l_mul (by rw [l_of, l_of, c3]; omega) (by rw [l_of, l_of, c3]; omega), l_of, l_of, c3]
      rw [cmp_ge0, l_of, m2]
      refine ⟨fun _ => ⟨nz, fun x ex => ?_⟩, fun z2 => absurd (by omega) z2⟩
      have xT : x.toInt = v0.toInt / v1.toInt := by rw [ex, dT]
      have x1 : (Int32.toInt64 x + 1).toInt = v0.toInt / v1.toInt + 1 := by rw [l_add (by rw [l_of, f1, xT]; omega) (by rw [l_of, f1, xT]; omega), l_of, f1, xT]
      refine wp_cap hT hM hsh (mAK := ak) (fun _ => c2) (by rw [l_of, xT]; exact t3) (fun r18 ak s w sn b mo rr o g f q ch d1 d2 d3 d4 => ?_)
      refine wp_cap hT hM hsh (mAK := ak) (fun _ => d2) (by rw [x1]; omega) (fun r31 ak s w sn b mo rr o g f q ch y1 y2 y3 y4 => ?_)
      refine wp_cap hT hM hsh (mAK := ak) (fun _ => y2) (by rw [l_of, xT]; exact t3) (fun r44 ak s w sn b mo rr o g f q ch z1 z2 z3 z4 => ⟨?_, hP _ _ _ _ _ _ _ _ _ _ _ _ _ _ _ _ _ _ _ _ _ _ _ _ _ _ _ _ _ _ _ _ _ _ _ _ _ _ _ _ hfi (fun _ => g2) (fun _ => z2) (by omega)⟩)
      rw [l_of, xT] at d4 z4
      rw [x1] at y4
      exact cheap_c b1 s0 z b2 t1 t2 (cost_at b1 b2 b3 d4 y4) rfl rfl (z4.one d4) (cat_bd hT d4) (cat_bd hT y4) xT (by omega)
    · refine wp_in (fun _ => ⟨fun _ => wp_kn hT hM hsh hKn (fun ak s w sn b mo rr o g f qq ch c1 c2 c3 => ?_), fun z => absurd z (by decide)⟩) (fun z2 => absurd (by rw [l_of, f1, f2]; exact z) z2)
      have m2 : ((Int32.toInt64 v1) * (Int32.toInt64 s)).toInt = v1.toInt * sh := by rw [l_mul (by rw [l_of, l_of, c3]; omega) (by rw [l_of, l_of, c3]; omega), l_of, l_of, c3]
      rw [cmp_ge0, l_of, m2]
      exact ⟨fun z2 => absurd z2 (by omega), fun _ => ⟨fun z => absurd z (by decide), fun _ m em => ⟨rfl, hP _ _ _ _ _ _ _ _ _ _ _ _ _ _ _ _ _ _ _ _ _ _ _ _ _ _ _ _ _ _ _ _ _ _ _ _ _ _ _ _ (by rw [eb, em, hfi]) (fun _ => g2) (fun _ => c2) (by omega)⟩⟩⟩
  · have fin : ∀ b : Int32, b = bFi + 1 → (eM = eM + 0 ∧ wp_X9_cheapest (nI n) pK pN pF mFi mAK mSh mRw mSn mBg mMo mRm mOw mGo mFr mQu mCh v0 v1 (fun r2 mFi_n mAK_n mSh_n mRw_n mSn_n mBg_n mMo_n mRm_n mOw_n mGo_n mFr_n mQu_n mCh_n => Int32.toInt64 (-3) = r2 ∧ P b iRo iEa cC nC nFo nQd nRo nBe nEa nMi nHa nER nMR nTh nPa nOu nFr nQu eM eL eC eS eB eE eF eG mFi_n mAK_n mSh_n mRw_n mSn_n mBg_n mMo_n mRm_n mOw_n mGo_n mFr_n mQu_n mCh_n)) := fun b eb => ⟨rfl, wp_in (fun z2 => absurd (by rw [l_of, f1, f2] at z2; exact z2) z) (fun _ => ⟨fun z => absurd rfl z, fun _ => ⟨fun z => absurd z (by decide), fun _ m em => ⟨rfl, hP _ _ _ _ _ _ _ _ _ _ _ _ _ _ _ _ _ _ _ _ _ _ _ _ _ _ _ _ _ _ _ _ _ _ _ _ _ _ _ _ (by rw [eb, em, hfi]) hC hKn hM7⟩⟩⟩)⟩
    refine ⟨0, by omega, ⟨fun q b eb => fin b eb, fun q => ⟨fun q2 => absurd ⟨by have := mt i_lt.mpr q; omega, by have := i_le.mp q2; omega⟩ z, fun q2 b eb => fin b eb⟩⟩⟩
end STEPG
