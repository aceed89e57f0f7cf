/-! steps: where a bend is -/
section STEPE
variable {n : Nat} {tKi tEa tHa tPr tEx tSt tBe : Nat → Int32} {pT : Int32} {pK pN pF : Nat → Int32} {sh : Int} {bFi mFi mAK mSh : Int32} {mCh : Nat → Int64} {mRw mSn mBg mMo : Nat → Int32} {mRm mOw : Nat → Int64} {mGo mFr mQu : Nat → Int32} {iRo iEa : Nat → Int32} {cC nC nFo nQd : Int32} {nRo nBe nEa nMi nHa nER nMR nTh nPa nOu nFr nQu : Nat → Int32} {eM : Nat} {eL : Nat → Int32} {eC eS : Nat → Int64} {eB eE eF eG : Nat → Nat → Int32}
/-- how many bends lie below a bend -/
theorem below_bend {k i : Nat} (s0 : 0 ≤ sh) (hi : i < k) (hb : ∀ i, i < k → BendOK n tKi tEa tHa tPr tEx tSt tBe sh eL eC eS eB eE eF eG i) (hl : ∀ j, j + 1 = k → (eL j).toInt = sh) {T : Nat} (hT : (eL i).toInt = T) : ctB (fun T : Nat => @decide (IsB n tKi tEa tHa tPr tEx tSt tBe sh (T : Int)) (Classical.propDecidable _)) T = k - 1 - i := by
  have t7 := (hb i hi).1
  apply Nat.le_antisymm
  · refine ct_cov (p := fun j => (eL (i + 1 + j)).toInt.toNat) (fun U hU q => ?_)
    obtain ⟨j, j1, j2⟩ := (bends_iff (by omega) hb hl (by omega)).mp (@of_decide_eq_true _ (Classical.propDecidable _) q)
    rcases Nat.lt_or_ge i j with z | z
    · refine ⟨j - (i + 1), by omega, ?_⟩
      rw [show i + 1 + (j - (i + 1)) = j by omega]; omega
    · exfalso
      rcases Nat.lt_or_ge j i with y | y
      · have := len_dec hb j i y hi; omega
      · rw [show j = i by omega] at j2; omega
  · refine ct_inj (p := fun j => (eL (i + 1 + j)).toInt.toNat) (fun a b ha hb2 => ?_) (fun a ha => ?_)
    · have := len_dec hb (i + 1 + a) (i + 1 + b) (by omega) (by omega)
      have := (hb (i + 1 + a) (by omega)).1
      have := (hb (i + 1 + b) (by omega)).1
      omega
    · have q := len_dec hb i (i + 1 + a) (by omega) (by omega)
      have := (hb (i + 1 + a) (by omega)).1
      refine ⟨by omega, @decide_eq_true _ (Classical.propDecidable _) ?_⟩
      rw [show ((eL (i + 1 + a)).toInt.toNat : Int) = (eL (i + 1 + a)).toInt by omega]
      exact (bends_iff (by omega) hb hl (by omega)).mpr ⟨i + 1 + a, by omega, rfl⟩
theorem bend_loop (hT : TB n (nI n) tKi tEa tHa tPr tEx tSt tBe) (hM : MB n tKi tEa tHa tPr tEx tSt tBe pT pK pN pF) (hsh : Sh n (foC n tBe) (iT tHa) sh) (hK : ¬ mAK = 0 → Known n (iT tEa) (iT tHa) (cT tKi tEa tPr tEx tSt) (foC n tBe) mSh mCh) (H : CurveOK n tKi tEa tHa tPr tEx tSt tBe sh cC eM eL eC eS eB eE eF eG) {a : Nat} (ha : a < 2 ^ 31) {Q : Int32 → Int32 → Int32 → Int32 → (Nat → Int32) → (Nat → Int32) → (Nat → Int32) → (Nat → Int32) → (Nat → Int64) → (Nat → Int64) → (Nat → Int32) → (Nat → Int32) → (Nat → Int32) → (Nat → Int64) → Prop} {X : Int32 → Int32 → (Nat → Int32) → (Nat → Int32) → (Nat → Int32) → (Nat → Int32) → (Nat → Int64) → (Nat → Int64) → (Nat → Int32) → (Nat → Int32) → (Nat → Int32) → (Nat → Int64) → Prop} (hQ : ∀ (k : Nat) (T : Int32) (mAK mSh : Int32) (mRw mSn mBg mMo : Nat → Int32) (mRm mOw : Nat → Int64) (mGo mFr mQu : Nat → Int32) (mCh : Nat → Int64), cC = nI k → k ≤ 721 → a < k → T = eL (k - 1 - a) → ¬ mAK = 0 → Known n (iT tEa) (iT tHa) (cT tKi tEa tPr tEx tSt) (foC n tBe) mSh mCh → mSh.toInt = sh → Q T mFi mAK mSh mRw mSn mBg mMo mRm mOw mGo mFr mQu mCh) (hX : ∀ (k : Nat) (mAK mSh : Int32) (mRw mSn mBg mMo : Nat → Int32) (mRm mOw : Nat → Int64) (mGo mFr mQu : Nat → Int32) (mCh : Nat → Int64), cC = nI k → k ≤ 721 → k ≤ a → ¬ mAK = 0 → Known n (iT tEa) (iT tHa) (cT tKi tEa tPr tEx tSt) (foC n tBe) mSh mCh → mSh.toInt = sh → X mAK mSh mRw mSn mBg mMo mRm mOw mGo mFr mQu mCh) :
    ∀ (m T : Nat) (mAK mSh : Int32) (mRw mSn mBg mMo : Nat → Int32) (mRm mOw : Nat → Int64) (mGo mFr mQu : Nat → Int32) (mCh : Nat → Int64), T + m = 721 → sh ≤ T → ctB (fun T : Nat => @decide (IsB n tKi tEa tHa tPr tEx tSt tBe sh (T : Int)) (Classical.propDecidable _)) T ≤ a → ¬ mAK = 0 → Known n (iT tEa) (iT tHa) (cT tKi tEa tPr tEx tSt) (foC n tBe) mSh mCh → mSh.toInt = sh → wp_X9_bend_L11 Q (nI a) mFi pF pK pN (nI n) X (m + 1) (nI (a - ctB (fun T : Nat => @decide (IsB n tKi tEa tHa tPr tEx tSt tBe sh (T : Int)) (Classical.propDecidable _)) T)) (nI T) mAK mSh mRw mSn mBg mMo mRm mOw mGo mFr mQu mCh := by
  have e7 : (720 : Int32).toInt = 720 := rfl
  have s0 : 0 ≤ sh := by obtain ⟨B, _, hB⟩ := hsh; exact hB.1
  obtain ⟨k, w1, w2, w3, w4, w5, w6⟩ := id H
  intro m
  induction m with
  | zero =>
    intro T ak s w sn b mo r o g f q ch hTm hsT hc g1 g2 g3
    rw [wp_X9_bend_L11, i_lt, nI_toInt (by omega), e7]
    refine ⟨fun _ => hX k _ _ _ _ _ _ _ _ _ _ _ _ w1 w3 ?_ g1 g2 g3, fun z => absurd (by omega) z⟩
    have := bends_count s0 w2 w5 w6
    unfold kS at this
    rw [show T = 721 by omega, this] at hc
    exact hc
  | succ m ih =>
    intro T ak s w sn b mo r o g f q ch hTm hsT hc g1 g2 g3
    rw [wp_X9_bend_L11, i_lt, nI_toInt (by omega), e7]
    refine ⟨fun z => absurd z (by omega), fun _ => ⟨fun z => absurd z (nI_pos ha), fun _ => ?_⟩⟩
    have eT : (nI T).toInt = T := nI_toInt (by omega)
    refine wp_isb hT hM hsh (fun _ => g2) g1 g3 H (a1 := nI T) (by rw [eT]; exact hsT) (by rw [eT]; omega) (fun ak s w sn b mo r o g f q ch y1 y2 y3 y4 => ⟨fun _ => ⟨fun z x ex u eu => ?_, fun z => ?_⟩, fun z => absurd z (by decide)⟩) (fun ak s w sn b mo r o g f q ch y1 y2 y3 y4 => ⟨fun z => absurd rfl z, fun _ u eu => ?_⟩)
    · rw [eT] at y4
      have hne : ctB (fun T : Nat => @decide (IsB n tKi tEa tHa tPr tEx tSt tBe sh (T : Int)) (Classical.propDecidable _)) T ≠ a := fun z2 => z (by rw [z2, Nat.sub_self]; rfl)
      have e : ctB (fun T : Nat => @decide (IsB n tKi tEa tHa tPr tEx tSt tBe sh (T : Int)) (Classical.propDecidable _)) (T + 1) = ctB (fun T : Nat => @decide (IsB n tKi tEa tHa tPr tEx tSt tBe sh (T : Int)) (Classical.propDecidable _)) T + 1 := by
        rw [ctB, if_pos (@decide_eq_true _ (Classical.propDecidable _) y4)]
      have ed : nI (a - ctB (fun T : Nat => @decide (IsB n tKi tEa tHa tPr tEx tSt tBe sh (T : Int)) (Classical.propDecidable _)) T) + (-1) = nI (a - ctB (fun T : Nat => @decide (IsB n tKi tEa tHa tPr tEx tSt tBe sh (T : Int)) (Classical.propDecidable _)) (T + 1)) := by
        rw [e, show a - ctB (fun T : Nat => @decide (IsB n tKi tEa tHa tPr tEx tSt tBe sh (T : Int)) (Classical.propDecidable _)) T = (a - (ctB (fun T : Nat => @decide (IsB n tKi tEa tHa tPr tEx tSt tBe sh (T : Int)) (Classical.propDecidable _)) T + 1)) + 1 by omega]
        exact pk_m1 _
      rw [ex, eu, nI_1, ed]
      exact ih (T + 1) _ _ _ _ _ _ _ _ _ _ _ _ (by omega) (by omega) (by omega) y1 y2 y3
    · rw [eT] at y4
      have hz : a - ctB (fun T : Nat => @decide (IsB n tKi tEa tHa tPr tEx tSt tBe sh (T : Int)) (Classical.propDecidable _)) T = 0 := (nI_eq (a := a - ctB (fun T : Nat => @decide (IsB n tKi tEa tHa tPr tEx tSt tBe sh (T : Int)) (Classical.propDecidable _)) T) (b := 0) (by omega) (by omega)).mp z
      obtain ⟨i, i1, i2⟩ := (bends_iff w2 w5 w6 (by omega)).mp y4
      have bb := below_bend s0 i1 w5 w6 i2
      refine hQ k _ _ _ _ _ _ _ _ _ _ _ _ _ w1 w3 (by omega) ?_ y1 y2 y3
      rw [show k - 1 - a = i by omega, i_eq, eT, i2]
    · rw [eT] at y4
      have e : ctB (fun T : Nat => @decide (IsB n tKi tEa tHa tPr tEx tSt tBe sh (T : Int)) (Classical.propDecidable _)) (T + 1) = ctB (fun T : Nat => @decide (IsB n tKi tEa tHa tPr tEx tSt tBe sh (T : Int)) (Classical.propDecidable _)) T := by
        rw [ctB, if_neg (fun z => y4 (@of_decide_eq_true _ (Classical.propDecidable _) z))]
        omega
      rw [eu, nI_1, ← e]
      exact ih (T + 1) _ _ _ _ _ _ _ _ _ _ _ _ (by omega) (by omega) (by omega) y1 y2 y3
end STEPE
