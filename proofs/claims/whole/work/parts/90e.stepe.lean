/-! steps: where a bend is -/
section STEPE
variable {n : Nat} {tKi tEa tHa tPr tEx tSt tBe : Nat → Int32} {pT : Int32} {pK pN pF : Nat → Int32} {sh : Int} {bFi mFi mAK mSh : Int32} {mCh : Nat → Int64} {mRw mSn mBg mMo : Nat → Int32} {mRm mOw : Nat → Int64} {mGo mFr mQu : Nat → Int32} {iRo iEa : Nat → Int32} {cC nC nFo nQd : Int32} {nRo nBe nEa nMi nHa nER nMR nTh nPa nOu nFr nQu : Nat → Int32} {eM : Nat} {eL : Nat → Int32} {eC eS : Nat → Int64} {eB eE eF eG : Nat → Nat → Int32}
/-- how many bends lie below a bend -/
theorem below_bend {k i : Nat} (s0 : 0 ≤ sh) (hi : i < k) (hb : ∀ i, i < k → BendOK n tKi tEa tHa tPr tEx tSt tBe sh eL eC eS eB eE eF eG i) (hl : ∀ j, j + 1 = k → (eL j).toInt = sh) {T : Nat} (hT : (eL i).toInt = T) : ctB (fun T : Nat => @decide (IsB n tKi tEa tHa tPr tEx tSt tBe sh (T : Int)) (Classical.propDecidable _)) T = k - 1 - i := by
  have t7 := (hb i hi).1
  apply Nat.le_antisymm
  · refine ct_cov (p := fun j => (eL (i + 1 + j)).toInt.toNat) (fun U hU q => ?_)
    obtain ⟨j, j1, j2⟩ := (bends_iff (by omega) hb hl (by omega)).mp (@of_decide_eq_true _ (Classical.propDecidable _) q)
    rcases Nat.lt_or_ge i j with z | z
    · refine ⟨j - (i + 1), by omega, ?_⟩
      rw [show i + 1 + (j - (i + 1)) = j by omega]; omega
    · exfalso
      rcases Nat.lt_or_ge j i with y | y
      · have := len_dec hb j i y hi; omega
      · rw [show j = i by omega] at j2; omega
  · refine ct_inj (p := fun j => (eL (i + 1 + j)).toInt.toNat) (fun a b ha hb2 => ?_) (fun a ha => ?_)
    · have := len_dec hb (i + 1 + a) (i + 1 + b) (by omega) (by omega)
      have := (hb (i + 1 + a) (by omega)).1
      have := (hb (i + 1 + b) (by omega)).1
      omega
    · have q := len_dec hb i (i + 1 + a) (by omega) (by omega)
      have := (hb (i + 1 + a) (by omega)).1
      refine ⟨by omega, @decide_eq_true _ (Classical.propDecidable _) ?_⟩
      rw [show ((eL (i + 1 + a)).toInt.toNat : Int) = (eL (i + 1 + a)).toInt by omega]
      exact (bends_iff (by omega) hb hl (by omega)).mpr ⟨i + 1 + a, by omega, rfl⟩
theorem bend_loop (hT : TB n (nI n) tKi tEa tHa tPr tEx tSt tBe) (hM : MB n tKi tEa tHa tPr tEx tSt tBe pT pK pN pF) (hsh : Sh n (foC n tBe) (iT tHa) sh) (hK : ¬ mAK = 0 → Known n (iT tEa) (iT tHa) (cT tKi tEa tPr tEx tSt) (foC n tBe) mSh mCh) (H : CurveOK n tKi tEa tHa tPr tEx tSt tBe sh cC eM eL eC eS eB eE eF eG) {a : Nat} (ha : a < 2 ^ 31) {Q : Int32 → Int32 → Int32 → Int32 → (Nat → Int32) → (Nat → Int32) → (Nat → Int32) → (Nat → Int32) → (Nat → Int64) → (Nat → Int64) → (Nat → Int32) → (Nat → Int32) → (Nat → Int32) → (Nat → Int64) → Prop} {X : Int32 → Int32 → (Nat → Int32) → (Nat → Int32) → (Nat → Int32) → (Nat → Int32) → (Nat → Int64) → (Nat → Int64) → (Nat → Int32) → (Nat → Int32) → (Nat → Int32) → (Nat → Int64) → Prop} (hQ : ∀ (k : Nat) (T : Int32) (mAK mSh : Int32) (mRw mSn mBg mMo : Nat → Int32) (mRm mOw : Nat → Int64) (mGo mFr mQu : Nat → Int32) (mCh : Nat → Int64), cC = nI k → k ≤ 721 → a < k → T = eL (k - 1 - a) → ¬ mAK = 0 → Known n (iT tEa) (iT tHa) (cT tKi tEa tPr tEx tSt) (foC n tBe) mSh mCh → mSh.toInt = sh → Q T mFi mAK mSh mRw mSn mBg mMo mRm mOw mGo mFr mQu mCh) (hX : ∀ (k : Nat) (mAK mSh : Int32) (mRw mSn mBg mMo : Nat → Int32) (mRm mOw : Nat → Int64) (mGo mFr mQu : Nat → Int32) (mCh : Nat → Int64), cC = nI k → k ≤ 721 → k ≤ a → ¬ mAK = 0 → Known n (iT tEa) (iT tHa) (cT tKi tEa tPr tEx tSt) (foC n tBe) mSh mCh → mSh.toInt = sh → X mAK mSh mRw mSn mBg mMo mRm mOw mGo mFr mQu mCh) :
    ∀ (m T : Nat) (mAK mSh : Int32) (mRw mSn mBg mMo : Nat → Int32) (mRm mOw : Nat → Int64) (mGo mFr mQu : Nat → Int32) (mCh : Nat → Int64), T + m = 721 → sh ≤ T → ctB (fun T : Nat => @decide (IsB n tKi tEa tHa tPr tEx tSt tBe sh (T : Int)) (Classical.propDecidable _)) T ≤ a → ¬ mAK = 0 → Known n (iT tEa) (iT tHa) (cT tKi tEa tPr tEx tSt) (foC n tBe) mSh mCh → mSh.toInt = sh → wp_X9_bend_L11 Q (nI a) mFi pF pK pN (nI n) X (m + 1) (nI (a - ctB (fun T : Nat => @decide (IsB n tKi tEa tHa tPr tEx tSt tBe sh (T : Int)) (Classical.propDecidable _)) T)) (nI T) mAK mSh mRw mSn mBg mMo mRm mOw mGo mFr mQu mCh := by
  have e7 : (720 : Int32).toInt = 720 := rfl
  have s0 : 0 ≤ sh := by obtain ⟨B, _, hB⟩ := hsh; exact hB.1
  obtain ⟨k, w1, w2, w3, w4, w5, w6⟩ := id H
  intro m
  induction m with
  | zero =>
    intro T ak s w sn b mo r o g f q ch hTm hsT hc g1 g2 g3
    rw [wp_X9_bend_L11, i_lt, nI_toInt (by omega), e7]
    refine ⟨fun _ => hX k _ _ _ _ _ _ _ _ _ _ _ _ w1 w3 ?_ g1 g2 g3, fun z => absurd (by omega) z⟩
    have := bends_count s0 w2 w5 w6
    unfold kS at this
    rw [show T = 721 by omega, this] at hc
    exact hc
  | succ m ih =>
    intro T ak s w sn b mo r o g f q ch hTm hsT hc g1 g2 g3
    rw [wp_X9_bend_L11, i_lt, nI_toInt (by omega), e7]
    refine ⟨fun z => absurd z (by omega), fun _ => ⟨fun z => absurd z (nI_pos ha), fun _ => ?_⟩⟩
    have eT : (nI T).toInt = T := nI_toInt (by omega)
    refine wp_isb hT hM hsh (fun _ => g2) g1 g3 H (a1 := nI T) (by rw [eT]; exact hsT) (by rw [eT]; omega) (fun ak s w sn b mo r o g f q ch y1 y2 y3 y4 => ⟨fun _ => ⟨fun z x ex u eu => ?_, fun z => ?_⟩, fun z => absurd z (by decide)⟩) (fun ak s w sn b mo r o g f q ch y1 y2 y3 y4 => ⟨fun z => absurd rfl z, fun _ u eu => ?_⟩)
    · rw [eT] at y4
      have hne : ctB (fun T : Nat => @decide (IsB n tKi tEa tHa tPr tEx tSt tBe sh (T : Int)) (Classical.propDecidable _)) T ≠ a := fun z2 => z (by rw [z2, Nat.sub_self]; rfl)
      have e : ctB (fun T : Nat => @decide (IsB n tKi tEa tHa tPr tEx tSt tBe sh (T : Int)) (Classical.propDecidable _)) (T + 1) = ctB (fun T : Nat => @decide (IsB n tKi tEa tHa tPr tEx tSt tBe sh (T : Int)) (Classical.propDecidable _)) T + 1 := by
        rw [ctB, if_pos (@decide_eq_true _ (Classical.propDecidable _) y4)]
      have ed : nI (a - ctB (fun T : Nat => @decide (IsB n tKi tEa tHa tPr tEx tSt tBe sh (T : Int)) (Classical.propDecidable _)) T) + (-1) = nI (a - ctB (fun T : Nat => @decide (IsB n tKi tEa tHa tPr tEx tSt tBe sh (T : Int)) (Classical.propDecidable _)) (T + 1)) := by
        rw [e, show a - ctB (fun T : Nat => @decide (IsB n tKi tEa tHa tPr tEx tSt tBe sh (T : Int)) (Classical.propDecidable _)) T = (a - (ctB (fun T : Nat => @decide (IsB n tKi tEa tHa tPr tEx tSt tBe sh (T : Int)) (Classical.propDecidable _)) T + 1)) + 1 by omega]
        exact pk_m1 _
      rw [ex, eu, nI_1, ed]
      exact ih (T + 1) _ _ _ _ _ _ _ _ _ _ _ _ (by omega) (by omega) (by omega) y1 y2 y3
    · rw [eT] at y4
      have hz : a - ctB (fun T : Nat => @decide (IsB n tKi tEa tHa tPr tEx tSt tBe sh (T : Int)) (Classical.propDecidable _)) T = 0 := (nI_eq (a := a - ctB (fun T : Nat => @decide (IsB n tKi tEa tHa tPr tEx tSt tBe sh (T : Int)) (Classical.propDecidable _)) T) (b := 0) (by omega) (by omega)).mp z
      obtain ⟨i, i1, i2⟩ := (bends_iff w2 w5 w6 (by omega)).mp y4
      have bb := below_bend s0 i1 w5 w6 i2
      refine hQ k _ _ _ _ _ _ _ _ _ _ _ _ _ w1 w3 (by omega) ?_ y1 y2 y3
      rw [show k - 1 - a = i by omega, i_eq, eT, i2]
    · rw [eT] at y4
      have e : ctB (fun T : Nat => @decide (IsB n tKi tEa tHa tPr tEx tSt tBe sh (T : Int)) (Classical.propDecidable _)) (T + 1) = ctB (fun T : Nat => @decide (IsB n tKi tEa tHa tPr tEx tSt tBe sh (T : Int)) (Classical.propDecidable _)) T := by
        rw [ctB, if_neg (fun z => y4 (@of_decide_eq_true _ (Classical.propDecidable _) z))]
        omega
      rw [eu, nI_1, ← e]
      exact ih (T + 1) _ _ _ _ _ _ _ _ _ _ _ _ (by omega) (by omega) (by omega) y1 y2 y3
theorem st_bend (hT : TB n (nI n) tKi tEa tHa tPr tEx tSt tBe) (hM : MB n tKi tEa tHa tPr tEx tSt tBe pT pK pN pF) (hsh : Sh n (foC n tBe) (iT tHa) sh) (hC : ¬ cC = 0 → CurveOK n tKi tEa tHa tPr tEx tSt tBe sh cC eM eL eC eS eB eE eF eG) (hKn : ¬ mAK = 0 → Known n (iT tEa) (iT tHa) (cT tKi tEa tPr tEx tSt) (foC n tBe) mSh mCh) (hM7 : eM ≤ 721) (hfi : bFi = mFi) {P : Int32 → (Nat → Int32) → (Nat → Int32) → Int32 → Int32 → Int32 → Int32 → (Nat → Int32) → (Nat → Int32) → (Nat → Int32) → (Nat → Int32) → (Nat → Int32) → (Nat → Int32) → (Nat → Int32) → (Nat → Int32) → (Nat → Int32) → (Nat → Int32) → (Nat → Int32) → (Nat → Int32) → Nat → (Nat → Int32) → (Nat → Int64) → (Nat → Int64) → (Nat → Nat → Int32) → (Nat → Nat → Int32) → (Nat → Nat → Int32) → (Nat → Nat → Int32) → Int32 → Int32 → Int32 → (Nat → Int32) → (Nat → Int32) → (Nat → Int32) → (Nat → Int32) → (Nat → Int64) → (Nat → Int64) → (Nat → Int32) → (Nat → Int32) → (Nat → Int32) → (Nat → Int64) → Prop} (hP : ∀ (bFi : Int32) (iRo iEa : Nat → Int32) (cC nC nFo nQd : Int32) (nRo nBe nEa nMi nHa nER nMR nTh nPa nOu nFr nQu : Nat → Int32) (eM : Nat) (eL : Nat → Int32) (eC eS : Nat → Int64) (eB eE eF eG : Nat → Nat → Int32) (mFi : Int32) (mAK mSh : Int32) (mRw mSn mBg mMo : Nat → Int32) (mRm mOw : Nat → Int64) (mGo mFr mQu : Nat → Int32) (mCh : Nat → Int64), bFi = mFi → CurveOK n tKi tEa tHa tPr tEx tSt tBe sh cC eM eL eC eS eB eE eF eG → (¬ mAK = 0 → Known n (iT tEa) (iT tHa) (cT tKi tEa tPr tEx tSt) (foC n tBe) mSh mCh) → eM ≤ 721 → P bFi iRo iEa cC nC nFo nQd nRo nBe nEa nMi nHa nER nMR nTh nPa nOu nFr nQu eM eL eC eS eB eE eF eG mFi mAK mSh mRw mSn mBg mMo mRm mOw mGo mFr mQu mCh) (v0 : Int32) :
    ∃ K : Nat, eM + K ≤ 721 ∧ wp_X7_bend bFi (nI n) tKi tEa tHa tPr tEx tSt tBe iRo iEa cC nC nFo nQd nRo nBe nEa nMi nHa nER nMR nTh nPa nOu nFr nQu eM eL eC eS eB eE eF eG v0 K (fun r bFi_n iRo_n iEa_n cC_n nC_n nFo_n nQd_n nRo_n nBe_n nEa_n nMi_n nHa_n nER_n nMR_n nTh_n nPa_n nOu_n nFr_n nQu_n eM_n eL_n eC_n eS_n eB_n eE_n eF_n eG_n => eM_n = eM + K ∧ wp_X9_bend (nI n) pK pN pF mFi mAK mSh mRw mSn mBg mMo mRm mOw mGo mFr mQu mCh v0 (fun r2 mFi_n mAK_n mSh_n mRw_n mSn_n mBg_n mMo_n mRm_n mOw_n mGo_n mFr_n mQu_n mCh_n => r = r2 ∧ P bFi_n iRo_n iEa_n cC_n nC_n nFo_n nQd_n nRo_n nBe_n nEa_n nMi_n nHa_n nER_n nMR_n nTh_n nPa_n nOu_n nFr_n nQu_n eM_n eL_n eC_n eS_n eB_n eE_n eF_n eG_n mFi_n mAK_n mSh_n mRw_n mSn_n mBg_n mMo_n mRm_n mOw_n mGo_n mFr_n mQu_n mCh_n)) := by
  obtain ⟨K, k1, k2, k3⟩ := rc_K n tKi tEa tHa tPr tEx tSt tBe sh cC hM7
  have s0 : 0 ≤ sh := by obtain ⟨B, _, hB⟩ := hsh; exact hB.1
  have e7 : (720 : Int32).toInt = 720 := rfl
  refine ⟨K, k1, wp_rc hT hsh hC k2 k3 (fun iRo iEa cC nC nFo nQd nRo nBe nEa nMi nHa nER nMR nTh nPa nOu nFr nQu eM' eL eC eS eB eE eF eG g1 g2 => ?_)⟩
  refine ⟨fun q b eb => ⟨g1, ?_⟩, fun q => ?_⟩
  · refine wp_kn hT hM hsh hKn (fun ak s w sn b mo r o g f qq ch c1 c2 c3 => ⟨1, ?_⟩)
    have hs7 := c2.2.1
    rw [wp_X9_bend_L11, i_lt, e7]
    exact ⟨fun z => absurd z (by omega), fun _ => ⟨fun _ => ⟨fun z => absurd z (by decide), fun _ m em => ⟨rfl, hP _ _ _ _ _ _ _ _ _ _ _ _ _ _ _ _ _ _ _ _ _ _ _ _ _ _ _ _ _ _ _ _ _ _ _ _ _ _ _ _ (by rw [eb, em, hfi]) g2 (fun _ => c2) (by omega)⟩⟩, fun z => absurd q z⟩⟩
  · obtain ⟨a, ha, ea⟩ := nI_of q
    subst ea
    obtain ⟨k, w1, w2, w3, w4, w5, w6⟩ := id g2
    have uni : ∀ k' : Nat, cC = nI k' → k' ≤ 721 → k' = k := fun k' h1 h2 => (nI_eq (a := k') (b := k) (by omega) (by omega)).mp (by rw [← h1, w1])
    have ref : ∀ {Q : Int32 → Int32 → Int32 → Int32 → (Nat → Int32) → (Nat → Int32) → (Nat → Int32) → (Nat → Int32) → (Nat → Int64) → (Nat → Int64) → (Nat → Int32) → (Nat → Int32) → (Nat → Int32) → (Nat → Int64) → Prop}, (∀ (T : Int32) (mAK mSh : Int32) (mRw mSn mBg mMo : Nat → Int32) (mRm mOw : Nat → Int64) (mGo mFr mQu : Nat → Int32) (mCh : Nat → Int64), a < k → T = eL (k - 1 - a) → ¬ mAK = 0 → Known n (iT tEa) (iT tHa) (cT tKi tEa tPr tEx tSt) (foC n tBe) mSh mCh → mSh.toInt = sh → Q T mFi mAK mSh mRw mSn mBg mMo mRm mOw mGo mFr mQu mCh) → (∀ (mAK mSh : Int32) (mRw mSn mBg mMo : Nat → Int32) (mRm mOw : Nat → Int64) (mGo mFr mQu : Nat → Int32) (mCh : Nat → Int64), k ≤ a → ¬ mAK = 0 → Known n (iT tEa) (iT tHa) (cT tKi tEa tPr tEx tSt) (foC n tBe) mSh mCh → mSh.toInt = sh → wp_X9_found mFi (-7) (fun (r_74 : Int32) (mFi_75 : Int32) => Q r_74 mFi_75 mAK mSh mRw mSn mBg mMo mRm mOw mGo mFr mQu mCh)) → wp_X9_bend (nI n) pK pN pF mFi mAK mSh mRw mSn mBg mMo mRm mOw mGo mFr mQu mCh (nI a) Q := by
      intro Q hQ hX
      refine wp_kn hT hM hsh hKn (fun ak s w sn b mo r o g f qq ch c1 c2 c3 => ?_)
      have hs7 := c2.2.1
      have es : s = nI sh.toNat := i_eq.mpr (by rw [nI_toInt (by omega)]; omega)
      have cz : ctB (fun T : Nat => @decide (IsB n tKi tEa tHa tPr tEx tSt tBe sh (T : Int)) (Classical.propDecidable _)) sh.toNat = 0 := ctB_none (fun T hT => @decide_eq_false _ (Classical.propDecidable _) (fun z => by rcases z with z | ⟨z, _⟩ <;> omega))
      have key := bend_loop (mFi := mFi) (mAK := ak) hT hM hsh (fun _ => c2) g2 ha (Q := Q) (X := fun mAK_n mSh_n mRw_n mSn_n mBg_n mMo_n mRm_n mOw_n mGo_n mFr_n mQu_n mCh_n => wp_X9_found mFi (-7) (fun (r_74 : Int32) (mFi_75 : Int32) => Q r_74 mFi_75 mAK_n mSh_n mRw_n mSn_n mBg_n mMo_n mRm_n mOw_n mGo_n mFr_n mQu_n mCh_n)) (fun k' T ak s w sn b mo r o g f q ch h1 h2 h3 h4 h5 h6 h7 => by
        have := uni k' h1 h2
        subst this
        exact hQ T _ _ _ _ _ _ _ _ _ _ _ _ h3 h4 h5 h6 h7) (fun k' ak s w sn b mo r o g f q ch h1 h2 h3 h5 h6 h7 => by
        have := uni k' h1 h2
        subst this
        exact hX _ _ _ _ _ _ _ _ _ _ _ _ h3 h5 h6 h7) (721 - sh.toNat) sh.toNat ak s w sn b mo r o g f qq ch (by omega) (by omega) (by omega) c1 c2 c3
      rw [cz, Nat.sub_zero, ← es] at key
      exact ⟨_, key⟩
    rw [w1, i_lt, nI_toInt ha, nI_toInt (show k < 2 ^ 31 by omega)]
    refine ⟨fun q2 => ?_, fun q2 b eb => ⟨g1, ?_⟩⟩
    · have hlt : a < k := by omega
      rw [show k = (k - 1) + 1 by omega, nI_pred, pk_sub (by omega)]
      refine wp_ba (by omega) (by omega) ⟨g1, ?_⟩
      refine ref (fun T ak s w sn b mo r o g f q ch h1 h2 h3 h4 h5 => ⟨h2.symm, ?_⟩) (fun ak s w sn b mo r o g f q ch h1 h3 h4 h5 => absurd h1 (by omega))
      rw [show nI (k - 1 + 1) = cC by rw [w1, show k - 1 + 1 = k by omega]]
      exact hP _ _ _ _ _ _ _ _ _ _ _ _ _ _ _ _ _ _ _ _ _ _ _ _ _ _ _ _ _ _ _ _ _ _ _ _ _ _ _ _ hfi g2 (fun _ => h4) (by omega)
    · refine ref (fun T ak s w sn b mo r o g f q ch h1 h2 h3 h4 h5 => absurd h1 (by omega)) (fun ak s w sn b mo r o g f q ch h1 h3 h4 h5 => ⟨fun z => absurd z (by decide), fun _ m em => ⟨rfl, ?_⟩⟩)
      rw [← w1]
      exact hP _ _ _ _ _ _ _ _ _ _ _ _ _ _ _ _ _ _ _ _ _ _ _ _ _ _ _ _ _ _ _ _ _ _ _ _ _ _ _ _ (by rw [eb, em, hfi]) g2 (fun _ => h4) (by omega)
end STEPE
