/-! steps: asking both -/
section STEPQ
variable {n : Nat} {tKi tEa tHa tPr tEx tSt tBe : Nat → Int32} {pT : Int32} {pK pN pF : Nat → Int32} {sh : Int} {bFi mFi mAK mSh : Int32} {mCh : Nat → Int64} {mRw mSn mBg mMo : Nat → Int32} {mRm mOw : Nat → Int64} {mGo mFr mQu : Nat → Int32} {iRo iEa : Nat → Int32} {cC nC nFo nQd : Int32} {nRo nBe nEa nMi nHa nER nMR nTh nPa nOu nFr nQu : Nat → Int32} {eM : Nat} {eL : Nat → Int32} {eC eS : Nat → Int64} {eB eE eF eG : Nat → Nat → Int32}
/-- the slope of the curve behind a length -/
theorem slope_at (H : CurveOK n tKi tEa tHa tPr tEx tSt tBe sh cC eM eL eC eS eB eE eF eG) {i : Nat} (hb : BendOK n tKi tEa tHa tPr tEx tSt tBe sh eL eC eS eB eE eF eG i) {T v w : Int} (h1 : (eL i).toInt ≤ T) (h2 : T ≤ 1001) (h3 : ∀ j, j + 1 = i → T < (eL j).toInt) (hj : ∀ j, j + 1 = i → (eL j).toInt ≤ 720) (hv : CAt n (iT tEa) (iT tHa) (cT tKi tEa tPr tEx tSt) (foC n tBe) (min T 720) v) (hw : CAt n (iT tEa) (iT tHa) (cT tKi tEa tPr tEx tSt) (foC n tBe) (min (T + 1) 720) w) : (eS i).toInt = v - w := by
  rcases Int.lt_or_le T 720 with q | q
  · have k1 := bend_cat hb (T := T) h1 h2 (fun j hj => by have := h3 j hj; omega)
    have k2 := bend_cat hb (T := T + 1) (by omega) (by omega) (fun j hj => by have := h3 j hj; omega)
    rw [show min T 720 = T by omega] at hv
    rw [show min (T + 1) 720 = T + 1 by omega] at hw
    have e1 := hv.one k1
    have e2 := hw.one k2
    have m : (eS i).toInt * (T + 1 - (eL i).toInt) = (eS i).toInt * (T - (eL i).toInt) + (eS i).toInt := by
      rw [show T + 1 - (eL i).toInt = (T - (eL i).toInt) + 1 by omega, Int.mul_add, Int.mul_one]
    omega
  · have i0 : i = 0 := by
      rcases Nat.eq_zero_or_pos i with z | z
      · exact z
      · have a := h3 (i - 1) (by omega)
        have b := hj (i - 1) (by omega)
        omega
    rw [show min T 720 = 720 by omega] at hv
    rw [show min (T + 1) 720 = 720 by omega] at hw
    have := hv.one hw
    have := hb.2.2.2.1 i0
    omega
theorem st_slope (hT : TB n (nI n) tKi tEa tHa tPr tEx tSt tBe) (hM : MB n tKi tEa tHa tPr tEx tSt tBe pT pK pN pF) (hsh : Sh n (foC n tBe) (iT tHa) sh) (hC : ¬ cC = 0 → CurveOK n tKi tEa tHa tPr tEx tSt tBe sh cC eM eL eC eS eB eE eF eG) (hKn : ¬ mAK = 0 → Known n (iT tEa) (iT tHa) (cT tKi tEa tPr tEx tSt) (foC n tBe) mSh mCh) (hM7 : eM ≤ 721) (hfi : bFi = mFi) {P : Int32 → (Nat → Int32) → (Nat → Int32) → Int32 → Int32 → Int32 → Int32 → (Nat → Int32) → (Nat → Int32) → (Nat → Int32) → (Nat → Int32) → (Nat → Int32) → (Nat → Int32) → (Nat → Int32) → (Nat → Int32) → (Nat → Int32) → (Nat → Int32) → (Nat → Int32) → (Nat → Int32) → Nat → (Nat → Int32) → (Nat → Int64) → (Nat → Int64) → (Nat → Nat → Int32) → (Nat → Nat → Int32) → (Nat → Nat → Int32) → (Nat → Nat → Int32) → Int32 → Int32 → Int32 → (Nat → Int32) → (Nat → Int32) → (Nat → Int32) → (Nat → Int32) → (Nat → Int64) → (Nat → Int64) → (Nat → Int32) → (Nat → Int32) → (Nat → Int32) → (Nat → Int64) → Prop} (hP : ∀ (bFi : Int32) (iRo iEa : Nat → Int32) (cC nC nFo nQd : Int32) (nRo nBe nEa nMi nHa nER nMR nTh nPa nOu nFr nQu : Nat → Int32) (eM : Nat) (eL : Nat → Int32) (eC eS : Nat → Int64) (eB eE eF eG : Nat → Nat → Int32) (mFi : Int32) (mAK mSh : Int32) (mRw mSn mBg mMo : Nat → Int32) (mRm mOw : Nat → Int64) (mGo mFr mQu : Nat → Int32) (mCh : Nat → Int64), bFi = mFi → CurveOK n tKi tEa tHa tPr tEx tSt tBe sh cC eM eL eC eS eB eE eF eG → (¬ mAK = 0 → Known n (iT tEa) (iT tHa) (cT tKi tEa tPr tEx tSt) (foC n tBe) mSh mCh) → eM ≤ 721 → P bFi iRo iEa cC nC nFo nQd nRo nBe nEa nMi nHa nER nMR nTh nPa nOu nFr nQu eM eL eC eS eB eE eF eG mFi mAK mSh mRw mSn mBg mMo mRm mOw mGo mFr mQu mCh) (v0 : Int32) :
    ∃ K : Nat, eM + K ≤ 721 ∧ wp_X7_slope bFi (nI n) tKi tEa tHa tPr tEx tSt tBe iRo iEa cC nC nFo nQd nRo nBe nEa nMi nHa nER nMR nTh nPa nOu nFr nQu eM eL eC eS eB eE eF eG v0 K (fun r bFi_n iRo_n iEa_n cC_n nC_n nFo_n nQd_n nRo_n nBe_n nEa_n nMi_n nHa_n nER_n nMR_n nTh_n nPa_n nOu_n nFr_n nQu_n eM_n eL_n eC_n eS_n eB_n eE_n eF_n eG_n => eM_n = eM + K ∧ wp_X9_slope (nI n) pK pN pF mFi mAK mSh mRw mSn mBg mMo mRm mOw mGo mFr mQu mCh v0 (fun r2 mFi_n mAK_n mSh_n mRw_n mSn_n mBg_n mMo_n mRm_n mOw_n mGo_n mFr_n mQu_n mCh_n => r = r2 ∧ P bFi_n iRo_n iEa_n cC_n nC_n nFo_n nQd_n nRo_n nBe_n nEa_n nMi_n nHa_n nER_n nMR_n nTh_n nPa_n nOu_n nFr_n nQu_n eM_n eL_n eC_n eS_n eB_n eE_n eF_n eG_n mFi_n mAK_n mSh_n mRw_n mSn_n mBg_n mMo_n mRm_n mOw_n mGo_n mFr_n mQu_n mCh_n)) := by
  obtain ⟨K, k1, k2, k3⟩ := rc_K n tKi tEa tHa tPr tEx tSt tBe sh cC hM7
  have one : (1 : Int64).toInt = 1 := rfl
  have s0 : 0 ≤ sh := by obtain ⟨B, _, hB⟩ := hsh; exact hB.1
  refine ⟨K, k1, wp_rc hT hsh hC k2 k3 (fun iRo iEa cC nC nFo nQd nRo nBe nEa nMi nHa nER nMR nTh nPa nOu nFr nQu eM' eL eC eS eB eE eF eG g1 g2 => ?_)⟩
  refine wp_lf g2 (fun q1 q2 => ?_) (fun q1 q2 => ?_) (fun q => ?_)
  · refine ⟨fun _ => wp_bf g2 q1 (fun i b1 b2 b3 => ⟨g1, ?_⟩), fun z => absurd rfl z⟩
    refine wp_nl hT hM hsh hKn (fun ak s w sn b mo r o g f q ch c1 c2 c3 _ _ => ⟨fun _ => ?_, fun z => absurd rfl z⟩) (fun ak s w sn b mo r o g f q ch c1 c2 c3 _ z => absurd z (by omega)) (fun ak s w sn b mo r o g f q ch c1 c2 c3 z => absurd z (by omega))
    refine wp_cap hT hM hsh (fun _ => c2) (by rw [l_of]; exact q1) (fun r1 ak s w sn b mo r o g f q ch d1 d2 d3 d4 => ?_)
    have e1 : (Int32.toInt64 v0 + 1).toInt = v0.toInt + 1 := by rw [l_add (by rw [l_of, one]; omega) (by rw [l_of, one]; omega), l_of, one]
    refine wp_cap hT hM hsh (fun _ => d2) (by rw [e1]; omega) (fun r2 ak s w sn b mo r o g f q ch f1 f2 f3 f4 => ⟨?_, hP _ _ _ _ _ _ _ _ _ _ _ _ _ _ _ _ _ _ _ _ _ _ _ _ _ _ _ _ _ _ _ _ _ _ _ _ _ _ _ _ hfi g2 (fun _ => f2) (by omega)⟩)
    rw [l_of] at d4
    rw [e1] at f4
    have sl := slope_at g2 (b1 i (Nat.le_refl _)) b2 (by omega) b3 (fun j hj => (b1 j (by omega)).1.2) d4 f4
    have bb := (b1 i (Nat.le_refl _)).2.2.1
    rw [l_eq, l_sub (by omega) (by omega)]
    exact sl
  · refine ⟨fun z => absurd z (by decide), fun _ b eb => ⟨g1, ?_⟩⟩
    refine wp_nl hT hM hsh hKn (fun ak s w sn b mo r o g f q ch c1 c2 c3 _ z => absurd z (by omega)) (fun ak s w sn b mo r o g f q ch c1 c2 c3 _ _ => ⟨fun z => absurd z (by decide), fun _ => ⟨fun z => absurd z (by decide), fun _ m em => ⟨rfl, hP _ _ _ _ _ _ _ _ _ _ _ _ _ _ _ _ _ _ _ _ _ _ _ _ _ _ _ _ _ _ _ _ _ _ _ _ _ _ _ _ (by rw [eb, em, hfi]) g2 (fun _ => c2) (by omega)⟩⟩⟩) (fun ak s w sn b mo r o g f q ch c1 c2 c3 z => absurd z (by omega))
  · refine ⟨fun z => absurd z (by decide), fun _ b eb => ⟨g1, ?_⟩⟩
    refine wp_nl hT hM hsh hKn (fun ak s w sn b mo r o g f q ch c1 c2 c3 _ z => absurd z (by omega)) (fun ak s w sn b mo r o g f q ch c1 c2 c3 _ _ => by omega) (fun ak s w sn b mo r o g f q ch c1 c2 c3 z => ⟨fun z => absurd z (by decide), fun _ => ⟨fun z => absurd z (by decide), fun _ m em => ⟨rfl, hP _ _ _ _ _ _ _ _ _ _ _ _ _ _ _ _ _ _ _ _ _ _ _ _ _ _ _ _ _ _ _ _ _ _ _ _ _ _ _ _ (by rw [eb, em, hfi]) g2 (fun _ => c2) (by omega)⟩⟩⟩)
end STEPQ
