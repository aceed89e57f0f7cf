/-! steps: how many bends, and where -/
section STEPB
variable {n : Nat} {tKi tEa tHa tPr tEx tSt tBe : Nat → Int32} {pT : Int32} {pK pN pF : Nat → Int32} {sh : Int} {bFi mFi mAK mSh : Int32} {mCh : Nat → Int64} {mRw mSn mBg mMo : Nat → Int32} {mRm mOw : Nat → Int64} {mGo mFr mQu : Nat → Int32} {iRo iEa : Nat → Int32} {cC nC nFo nQd : Int32} {nRo nBe nEa nMi nHa nER nMR nTh nPa nOu nFr nQu : Nat → Int32} {eM : Nat} {eL : Nat → Int32} {eC eS : Nat → Int64} {eB eE eF eG : Nat → Nat → Int32}
theorem cat_bd (hT : TB n (nI n) tKi tEa tHa tPr tEx tSt tBe) {T v : Int} (H : CAt n (iT tEa) (iT tHa) (cT tKi tEa tPr tEx tSt) (foC n tBe) T v) : 0 ≤ v ∧ v ≤ 144000000 := by
  obtain ⟨b, f, O, e⟩ := H
  rw [← e]; exact cost_b hT O.1
theorem wp_isb (hT : TB n (nI n) tKi tEa tHa tPr tEx tSt tBe) (hM : MB n tKi tEa tHa tPr tEx tSt tBe pT pK pN pF) (hsh : Sh n (foC n tBe) (iT tHa) sh) (hK : ¬ mAK = 0 → Known n (iT tEa) (iT tHa) (cT tKi tEa tPr tEx tSt) (foC n tBe) mSh mCh) (hak : ¬ mAK = 0) (hs : mSh.toInt = sh) (H : CurveOK n tKi tEa tHa tPr tEx tSt tBe sh cC eM eL eC eS eB eE eF eG) {a1 : Int32} (h1 : sh ≤ a1.toInt) (h2 : a1.toInt ≤ 720) {Q : Int32 → Int32 → Int32 → (Nat → Int32) → (Nat → Int32) → (Nat → Int32) → (Nat → Int32) → (Nat → Int64) → (Nat → Int64) → (Nat → Int32) → (Nat → Int32) → (Nat → Int32) → (Nat → Int64) → Prop} (hQ1 : ∀ (mAK mSh : Int32) (mRw mSn mBg mMo : Nat → Int32) (mRm mOw : Nat → Int64) (mGo mFr mQu : Nat → Int32) (mCh : Nat → Int64), ¬ mAK = 0 → Known n (iT tEa) (iT tHa) (cT tKi tEa tPr tEx tSt) (foC n tBe) mSh mCh → mSh.toInt = sh → IsB n tKi tEa tHa tPr tEx tSt tBe sh a1.toInt → Q 1 mAK mSh mRw mSn mBg mMo mRm mOw mGo mFr mQu mCh) (hQ0 : ∀ (mAK mSh : Int32) (mRw mSn mBg mMo : Nat → Int32) (mRm mOw : Nat → Int64) (mGo mFr mQu : Nat → Int32) (mCh : Nat → Int64), ¬ mAK = 0 → Known n (iT tEa) (iT tHa) (cT tKi tEa tPr tEx tSt) (foC n tBe) mSh mCh → mSh.toInt = sh → ¬ IsB n tKi tEa tHa tPr tEx tSt tBe sh a1.toInt → Q 0 mAK mSh mRw mSn mBg mMo mRm mOw mGo mFr mQu mCh) : wp_X9_isBend (nI n) pK pN pF mAK mSh mRw mSn mBg mMo mRm mOw mGo mFr mQu mCh a1 Q := by
  have s0 : 0 ≤ sh := by obtain ⟨B, _, hB⟩ := hsh; exact hB.1
  have one : (1 : Int64).toInt = 1 := rfl
  refine ⟨fun q => hQ1 _ _ _ _ _ _ _ _ _ _ _ _ hak (hK hak) hs (Or.inl (by rw [q]; exact hs)), fun q => ?_⟩
  have hlt : sh < a1.toInt := by
    rcases Int.lt_or_le sh a1.toInt with z | z
    · exact z
    · exact absurd (i_eq.mpr (by omega)) q
  have em : (Int32.toInt64 a1 - 1).toInt = a1.toInt - 1 := by rw [l_sub (by rw [l_of, one]; omega) (by rw [l_of, one]; omega), l_of, one]
  have ep : (Int32.toInt64 a1 + 1).toInt = a1.toInt + 1 := by rw [l_add (by rw [l_of, one]; omega) (by rw [l_of, one]; omega), l_of, one]
  refine wp_cap hT hM hsh hK (by rw [em]; omega) (fun r1 ak s w sn b mo r o g f q ch x1 x2 x3 x4 => ?_)
  refine wp_cap hT hM hsh (fun _ => x2) (by rw [l_of]; omega) (fun r2 ak s w sn b mo r o g f q ch y1 y2 y3 y4 => ?_)
  refine wp_cap hT hM hsh (fun _ => y2) (by rw [l_of]; omega) (fun r3 ak s w sn b mo r o g f q ch z1 z2 z3 z4 => ?_)
  refine wp_cap hT hM hsh (fun _ => z2) (by rw [ep]; omega) (fun r4 ak s w sn b mo r o g f q ch u1 u2 u3 u4 => ?_)
  rw [em, show min (a1.toInt - 1) 720 = a1.toInt - 1 by omega] at x4
  rw [l_of, show min a1.toInt 720 = a1.toInt by omega] at y4 z4
  rw [ep] at u4
  have u5 := cat_cap H (by omega) u4
  have b1 := cat_bd hT x4
  have b2 := cat_bd hT y4
  have b3 := cat_bd hT z4
  have b4 := cat_bd hT u5
  have e23 := y4.one z4
  rw [cmp_eq0, l_sub (by omega) (by omega), l_sub (by omega) (by omega)]
  refine ⟨fun c => hQ0 _ _ _ _ _ _ _ _ _ _ _ _ u1 u2 u3 (fun hB => ?_), fun c => hQ1 _ _ _ _ _ _ _ _ _ _ _ _ u1 u2 u3 (Or.inr ⟨hlt, _, _, _, x4, y4, u5, by omega⟩)⟩
  rcases hB with z | ⟨_, c0, c1, c2, w1, w2, w3, w4⟩
  · omega
  · have := w1.one x4
    have := w2.one y4
    have := w3.one u5
    omega
theorem bends_loop (hT : TB n (nI n) tKi tEa tHa tPr tEx tSt tBe) (hM : MB n tKi tEa tHa tPr tEx tSt tBe pT pK pN pF) (hsh : Sh n (foC n tBe) (iT tHa) sh) (hK : ¬ mAK = 0 → Known n (iT tEa) (iT tHa) (cT tKi tEa tPr tEx tSt) (foC n tBe) mSh mCh) (hak : ¬ mAK = 0) (hs : mSh.toInt = sh) (H : CurveOK n tKi tEa tHa tPr tEx tSt tBe sh cC eM eL eC eS eB eE eF eG) {Q : Int32 → Int32 → Int32 → (Nat → Int32) → (Nat → Int32) → (Nat → Int32) → (Nat → Int32) → (Nat → Int64) → (Nat → Int64) → (Nat → Int32) → (Nat → Int32) → (Nat → Int32) → (Nat → Int64) → Prop} (hQ : ∀ (mAK mSh : Int32) (mRw mSn mBg mMo : Nat → Int32) (mRm mOw : Nat → Int64) (mGo mFr mQu : Nat → Int32) (mCh : Nat → Int64), ¬ mAK = 0 → Known n (iT tEa) (iT tHa) (cT tKi tEa tPr tEx tSt) (foC n tBe) mSh mCh → mSh.toInt = sh → Q (nI (kS n tKi tEa tHa tPr tEx tSt tBe sh)) mAK mSh mRw mSn mBg mMo mRm mOw mGo mFr mQu mCh) :
    ∀ (m T : Nat) (mAK mSh : Int32) (mRw mSn mBg mMo : Nat → Int32) (mRm mOw : Nat → Int64) (mGo mFr mQu : Nat → Int32) (mCh : Nat → Int64), T + m = 721 → sh ≤ T → ¬ mAK = 0 → Known n (iT tEa) (iT tHa) (cT tKi tEa tPr tEx tSt) (foC n tBe) mSh mCh → mSh.toInt = sh → wp_X9_bends_L11 pF pK pN (nI n) Q (m + 1) (nI (ctB (fun T : Nat => @decide (IsB n tKi tEa tHa tPr tEx tSt tBe sh (T : Int)) (Classical.propDecidable _)) T)) (nI T) mAK mSh mRw mSn mBg mMo mRm mOw mGo mFr mQu mCh := by
  have e7 : (720 : Int32).toInt = 720 := rfl
  have n0 : nI 0 = 0 := rfl
  intro m
  induction m with
  | zero =>
    intro T ak s w sn b mo r o g f q ch hTm hsT g1 g2 g3
    rw [wp_X9_bends_L11, i_lt, nI_toInt (by omega), e7, show T = 721 by omega]
    exact ⟨fun _ => hQ _ _ _ _ _ _ _ _ _ _ _ _ g1 g2 g3, fun z => absurd (by omega) z⟩
  | succ m ih =>
    intro T ak s w sn b mo r o g f q ch hTm hsT g1 g2 g3
    rw [wp_X9_bends_L11, i_lt, nI_toInt (by omega), e7]
    refine ⟨fun z => absurd z (by omega), fun _ => ?_⟩
    have eT : (nI T).toInt = T := nI_toInt (by omega)
    refine wp_isb hT hM hsh (fun _ => g2) g1 g3 H (a1 := nI T) (by rw [eT]; exact hsT) (by rw [eT]; omega) (fun ak s w sn b mo r o g f q ch y1 y2 y3 y4 => ⟨fun z => absurd z (by decide), fun _ x ex z ez => ?_⟩) (fun ak s w sn b mo r o g f q ch y1 y2 y3 y4 => ⟨fun _ x ex z ez => ?_, fun z => absurd rfl z⟩)
    · rw [eT] at y4
      have e : ctB (fun T : Nat => @decide (IsB n tKi tEa tHa tPr tEx tSt tBe sh (T : Int)) (Classical.propDecidable _)) (T + 1) = ctB (fun T : Nat => @decide (IsB n tKi tEa tHa tPr tEx tSt tBe sh (T : Int)) (Classical.propDecidable _)) T + 1 := by
        rw [ctB, if_pos (@decide_eq_true _ (Classical.propDecidable _) y4)]
      rw [ex, ez, nI_1, nI_1, ← e]
      exact ih (T + 1) _ _ _ _ _ _ _ _ _ _ _ _ (by omega) (by omega) y1 y2 y3
    · rw [eT] at y4
      have e : ctB (fun T : Nat => @decide (IsB n tKi tEa tHa tPr tEx tSt tBe sh (T : Int)) (Classical.propDecidable _)) (T + 1) = ctB (fun T : Nat => @decide (IsB n tKi tEa tHa tPr tEx tSt tBe sh (T : Int)) (Classical.propDecidable _)) T := by
        rw [ctB, if_neg (fun z => y4 (@of_decide_eq_true _ (Classical.propDecidable _) z))]
        omega
      rw [ex, ez, nI_1, Int32.add_zero, ← e]
      exact ih (T + 1) _ _ _ _ _ _ _ _ _ _ _ _ (by omega) (by omega) y1 y2 y3
theorem st_bends (hT : TB n (nI n) tKi tEa tHa tPr tEx tSt tBe) (hM : MB n tKi tEa tHa tPr tEx tSt tBe pT pK pN pF) (hsh : Sh n (foC n tBe) (iT tHa) sh) (hC : ¬ cC = 0 → CurveOK n tKi tEa tHa tPr tEx tSt tBe sh cC eM eL eC eS eB eE eF eG) (hKn : ¬ mAK = 0 → Known n (iT tEa) (iT tHa) (cT tKi tEa tPr tEx tSt) (foC n tBe) mSh mCh) (hM7 : eM ≤ 721) {P : (Nat → Int32) → (Nat → Int32) → Int32 → Int32 → Int32 → Int32 → (Nat → Int32) → (Nat → Int32) → (Nat → Int32) → (Nat → Int32) → (Nat → Int32) → (Nat → Int32) → (Nat → Int32) → (Nat → Int32) → (Nat → Int32) → (Nat → Int32) → (Nat → Int32) → (Nat → Int32) → Nat → (Nat → Int32) → (Nat → Int64) → (Nat → Int64) → (Nat → Nat → Int32) → (Nat → Nat → Int32) → (Nat → Nat → Int32) → (Nat → Nat → Int32) → Int32 → Int32 → (Nat → Int32) → (Nat → Int32) → (Nat → Int32) → (Nat → Int32) → (Nat → Int64) → (Nat → Int64) → (Nat → Int32) → (Nat → Int32) → (Nat → Int32) → (Nat → Int64) → Prop} (hP : ∀ (iRo iEa : Nat → Int32) (cC nC nFo nQd : Int32) (nRo nBe nEa nMi nHa nER nMR nTh nPa nOu nFr nQu : Nat → Int32) (eM : Nat) (eL : Nat → Int32) (eC eS : Nat → Int64) (eB eE eF eG : Nat → Nat → Int32) (mAK mSh : Int32) (mRw mSn mBg mMo : Nat → Int32) (mRm mOw : Nat → Int64) (mGo mFr mQu : Nat → Int32) (mCh : Nat → Int64), CurveOK n tKi tEa tHa tPr tEx tSt tBe sh cC eM eL eC eS eB eE eF eG → (¬ mAK = 0 → Known n (iT tEa) (iT tHa) (cT tKi tEa tPr tEx tSt) (foC n tBe) mSh mCh) → eM ≤ 721 → P iRo iEa cC nC nFo nQd nRo nBe nEa nMi nHa nER nMR nTh nPa nOu nFr nQu eM eL eC eS eB eE eF eG mAK mSh mRw mSn mBg mMo mRm mOw mGo mFr mQu mCh) :
    ∃ K : Nat, eM + K ≤ 721 ∧ wp_X7_bends (nI n) tKi tEa tHa tPr tEx tSt tBe iRo iEa cC nC nFo nQd nRo nBe nEa nMi nHa nER nMR nTh nPa nOu nFr nQu eM eL eC eS eB eE eF eG K (fun r iRo_n iEa_n cC_n nC_n nFo_n nQd_n nRo_n nBe_n nEa_n nMi_n nHa_n nER_n nMR_n nTh_n nPa_n nOu_n nFr_n nQu_n eM_n eL_n eC_n eS_n eB_n eE_n eF_n eG_n => eM_n = eM + K ∧ wp_X9_bends (nI n) pK pN pF mAK mSh mRw mSn mBg mMo mRm mOw mGo mFr mQu mCh (fun r2 mAK_n mSh_n mRw_n mSn_n mBg_n mMo_n mRm_n mOw_n mGo_n mFr_n mQu_n mCh_n => r = r2 ∧ P iRo_n iEa_n cC_n nC_n nFo_n nQd_n nRo_n nBe_n nEa_n nMi_n nHa_n nER_n nMR_n nTh_n nPa_n nOu_n nFr_n nQu_n eM_n eL_n eC_n eS_n eB_n eE_n eF_n eG_n mAK_n mSh_n mRw_n mSn_n mBg_n mMo_n mRm_n mOw_n mGo_n mFr_n mQu_n mCh_n)) := by
  obtain ⟨K, k1, k2, k3⟩ := rc_K n tKi tEa tHa tPr tEx tSt tBe sh cC hM7
  have s0 : 0 ≤ sh := by obtain ⟨B, _, hB⟩ := hsh; exact hB.1
  refine ⟨K, k1, wp_rc hT hsh hC k2 k3 (fun iRo iEa cC nC nFo nQd nRo nBe nEa nMi nHa nER nMR nTh nPa nOu nFr nQu eM' eL eC eS eB eE eF eG g1 g2 => ⟨g1, ?_⟩)⟩
  refine wp_kn hT hM hsh hKn (fun ak s w sn b mo r o g f q ch c1 c2 c3 => ?_)
  have hs7 := c2.2.1
  have key := bends_loop hT hM hsh (fun _ => c2) c1 c3 g2 (Q := fun r2 mAK_n mSh_n mRw_n mSn_n mBg_n mMo_n mRm_n mOw_n mGo_n mFr_n mQu_n mCh_n => cC = r2 ∧ P iRo iEa cC nC nFo nQd nRo nBe nEa nMi nHa nER nMR nTh nPa nOu nFr nQu eM' eL eC eS eB eE eF eG mAK_n mSh_n mRw_n mSn_n mBg_n mMo_n mRm_n mOw_n mGo_n mFr_n mQu_n mCh_n) (fun ak s w sn b mo r o g f q ch y1 y2 y3 => ⟨?_, hP _ _ _ _ _ _ _ _ _ _ _ _ _ _ _ _ _ _ _ _ _ _ _ _ _ _ _ _ _ _ _ _ _ _ _ _ _ _ g2 (fun _ => y2) (by omega)⟩) (721 - sh.toNat) sh.toNat ak s w sn b mo r o g f q ch (by omega) (by omega) c1 c2 c3
  · rw [ctB_none (fun T hT => @decide_eq_false _ (Classical.propDecidable _) (fun z => by rcases z with z | ⟨z, _⟩ <;> omega)), nI_0] at key
    have es : s = nI sh.toNat := i_eq.mpr (by rw [nI_toInt (by omega)]; omega)
    rw [← es] at key
    exact ⟨_, key⟩
  · obtain ⟨k, w1, w2, w3, w4, w5, w6⟩ := g2
    rw [bends_count s0 w2 w5 w6]; exact w1
end STEPB
