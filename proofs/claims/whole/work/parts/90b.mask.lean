/-! the reference: asking what it knows -/
section ASKM
variable {n : Nat} {tKi tEa tHa tPr tEx tSt tBe : Nat → Int32} {pT : Int32} {pK pN pF : Nat → Int32} {sh : Int} {mAK mSh : Int32} {mCh : Nat → Int64} {mRw mSn mBg mMo : Nat → Int32} {mRm mOw : Nat → Int64} {mGo mFr mQu : Nat → Int32}
theorem wp_kn (hT : TB n (nI n) tKi tEa tHa tPr tEx tSt tBe) (hM : MB n tKi tEa tHa tPr tEx tSt tBe pT pK pN pF) (hsh : Sh n (foC n tBe) (iT tHa) sh) (hK : ¬ mAK = 0 → Known n (iT tEa) (iT tHa) (cT tKi tEa tPr tEx tSt) (foC n tBe) mSh mCh) {Q : Int32 → Int32 → (Nat → Int32) → (Nat → Int32) → (Nat → Int32) → (Nat → Int32) → (Nat → Int64) → (Nat → Int64) → (Nat → Int32) → (Nat → Int32) → (Nat → Int32) → (Nat → Int64) → Prop} (hQ : ∀ (mAK mSh : Int32) (mRw mSn mBg mMo : Nat → Int32) (mRm mOw : Nat → Int64) (mGo mFr mQu : Nat → Int32) (mCh : Nat → Int64), ¬ mAK = 0 → Known n (iT tEa) (iT tHa) (cT tKi tEa tPr tEx tSt) (foC n tBe) mSh mCh → mSh.toInt = sh → Q mAK mSh mRw mSn mBg mMo mRm mOw mGo mFr mQu mCh) : wp_X9_know (nI n) pK pN pF mAK mSh mRw mSn mBg mMo mRm mOw mGo mFr mQu mCh Q :=
  wp_mknow hT hM hK (fun ak s w sn b mo r o g f q ch h1 h2 => hQ ak s w sn b mo r o g f q ch h1 h2 (Sh.one hT h2.1 hsh))
theorem wp_cap (hT : TB n (nI n) tKi tEa tHa tPr tEx tSt tBe) (hM : MB n tKi tEa tHa tPr tEx tSt tBe pT pK pN pF) (hsh : Sh n (foC n tBe) (iT tHa) sh) (hK : ¬ mAK = 0 → Known n (iT tEa) (iT tHa) (cT tKi tEa tPr tEx tSt) (foC n tBe) mSh mCh) {a1 : Int64} (h1 : sh ≤ a1.toInt) {Q : Int64 → Int32 → Int32 → (Nat → Int32) → (Nat → Int32) → (Nat → Int32) → (Nat → Int32) → (Nat → Int64) → (Nat → Int64) → (Nat → Int32) → (Nat → Int32) → (Nat → Int32) → (Nat → Int64) → Prop} (hQ : ∀ (r : Int64) (mAK mSh : Int32) (mRw mSn mBg mMo : Nat → Int32) (mRm mOw : Nat → Int64) (mGo mFr mQu : Nat → Int32) (mCh : Nat → Int64), ¬ mAK = 0 → Known n (iT tEa) (iT tHa) (cT tKi tEa tPr tEx tSt) (foC n tBe) mSh mCh → mSh.toInt = sh → CAt n (iT tEa) (iT tHa) (cT tKi tEa tPr tEx tSt) (foC n tBe) (min a1.toInt 720) r.toInt → Q r mAK mSh mRw mSn mBg mMo mRm mOw mGo mFr mQu mCh) : wp_X9_cheapAt (nI n) pK pN pF mAK mSh mRw mSn mBg mMo mRm mOw mGo mFr mQu mCh a1 Q := by
  have s0 : 0 ≤ sh := by obtain ⟨B, _, hB⟩ := hsh; exact hB.1
  refine wp_kn hT hM hsh hK (fun ak s w sn b mo r o g f q ch g1 g2 g3 => ?_)
  have e0 : (720 : Int64).toInt = 720 := rfl
  have e1 : (if 720 < a1 then (720 : Int64) else a1).toInt = min 720 a1.toInt := by rw [ifl_min, e0]
  have e2 : (Int64.toInt32 (if 720 < a1 then (720 : Int64) else a1)).toInt = min 720 a1.toInt := by rw [i_of (by rw [e1]; omega) (by rw [e1]; omega), e1]
  have s7 := g2.2.1
  refine ⟨vp_in_iff.mpr (by rw [e2]; omega), ?_⟩
  rw [show Int32.toNatClampNeg (Int64.toInt32 (if 720 < a1 then (720 : Int64) else a1)) = (min a1.toInt 720).toNat by
    show (Int64.toInt32 (if 720 < a1 then (720 : Int64) else a1)).toInt.toNat = _
    rw [e2]; omega]
  refine hQ _ _ _ _ _ _ _ _ _ _ _ _ _ g1 g2 g3 ?_
  have k := g2.2.2 (min a1.toInt 720).toNat (by omega) (by omega)
  rw [show (((min a1.toInt 720).toNat : Nat) : Int) = min a1.toInt 720 by omega] at k
  exact k
theorem wp_nl (hT : TB n (nI n) tKi tEa tHa tPr tEx tSt tBe) (hM : MB n tKi tEa tHa tPr tEx tSt tBe pT pK pN pF) (hsh : Sh n (foC n tBe) (iT tHa) sh) (hK : ¬ mAK = 0 → Known n (iT tEa) (iT tHa) (cT tKi tEa tPr tEx tSt) (foC n tBe) mSh mCh) {a1 : Int32} {Q : Int32 → Int32 → Int32 → (Nat → Int32) → (Nat → Int32) → (Nat → Int32) → (Nat → Int32) → (Nat → Int64) → (Nat → Int64) → (Nat → Int32) → (Nat → Int32) → (Nat → Int32) → (Nat → Int64) → Prop} (hQ0 : ∀ (mAK mSh : Int32) (mRw mSn mBg mMo : Nat → Int32) (mRm mOw : Nat → Int64) (mGo mFr mQu : Nat → Int32) (mCh : Nat → Int64), ¬ mAK = 0 → Known n (iT tEa) (iT tHa) (cT tKi tEa tPr tEx tSt) (foC n tBe) mSh mCh → mSh.toInt = sh → sh ≤ a1.toInt → a1.toInt ≤ 1000 → Q 0 mAK mSh mRw mSn mBg mMo mRm mOw mGo mFr mQu mCh) (hQ1 : ∀ (mAK mSh : Int32) (mRw mSn mBg mMo : Nat → Int32) (mRm mOw : Nat → Int64) (mGo mFr mQu : Nat → Int32) (mCh : Nat → Int64), ¬ mAK = 0 → Known n (iT tEa) (iT tHa) (cT tKi tEa tPr tEx tSt) (foC n tBe) mSh mCh → mSh.toInt = sh → sh ≤ a1.toInt → 1000 < a1.toInt → Q (-1) mAK mSh mRw mSn mBg mMo mRm mOw mGo mFr mQu mCh) (hQ8 : ∀ (mAK mSh : Int32) (mRw mSn mBg mMo : Nat → Int32) (mRm mOw : Nat → Int64) (mGo mFr mQu : Nat → Int32) (mCh : Nat → Int64), ¬ mAK = 0 → Known n (iT tEa) (iT tHa) (cT tKi tEa tPr tEx tSt) (foC n tBe) mSh mCh → mSh.toInt = sh → a1.toInt < sh → Q (-8) mAK mSh mRw mSn mBg mMo mRm mOw mGo mFr mQu mCh) : wp_X9_noLength (nI n) pK pN pF mAK mSh mRw mSn mBg mMo mRm mOw mGo mFr mQu mCh a1 Q := by
  refine wp_kn hT hM hsh hK (fun ak s w sn b mo r o g f q ch g1 g2 g3 => ?_)
  have e1 : (1000 : Int32).toInt = 1000 := rfl
  rw [i_le, i_le, g3, e1]
  exact ⟨fun q => ⟨fun q2 => hQ0 _ _ _ _ _ _ _ _ _ _ _ _ g1 g2 g3 q q2, fun q2 => hQ1 _ _ _ _ _ _ _ _ _ _ _ _ g1 g2 g3 q (by omega)⟩, fun q => hQ8 _ _ _ _ _ _ _ _ _ _ _ _ g1 g2 g3 (by omega)⟩
/-- costs stay beyond 720 -/
theorem cat_cap {cC : Int32} {eM : Nat} {eL : Nat → Int32} {eC eS : Nat → Int64} {eB eE eF eG : Nat → Nat → Int32} (H : CurveOK n tKi tEa tHa tPr tEx tSt tBe sh cC eM eL eC eS eB eE eF eG) {T v : Int} (h2 : T ≤ 1001) (h : CAt n (iT tEa) (iT tHa) (cT tKi tEa tPr tEx tSt) (foC n tBe) (min T 720) v) : CAt n (iT tEa) (iT tHa) (cT tKi tEa tPr tEx tSt) (foC n tBe) T v := by
  rcases Int.lt_or_le 720 T with q | q
  · obtain ⟨k, g1, g2, g3, g4, g5, g6⟩ := H
    have b0 := g5 0 g2
    have l0 := b0.1.2
    have e0 := b0.2.2.2.1 rfl
    have k1 := bend_cat b0 (T := T) (by omega) h2 (fun j hj => absurd hj (by omega))
    have k2 := bend_cat b0 (T := min T 720) (by omega) (by omega) (fun j hj => absurd hj (by omega))
    rw [e0, Int.zero_mul] at k1 k2
    rw [h.one k2]; exact k1
  · rw [show T = min T 720 by omega]; exact h
end ASKM
