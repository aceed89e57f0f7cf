/-! steps: boards -/
section STEPP
variable {dB dS mWi mSi : Nat → Int32} {dN : Nat → Nat → Int64} {mRo : Nat → Int64}
theorem ix24 (k o : Nat) : (24 * nI k) + nI o = nI (24 * k + o) := by
  have h : (24 : Int32) * nI k = nI (24 * k) := pk_mul 24 k
  rw [h, nI_add]
theorem wp_bd7 {v : Int32} {Q : Int32 → Prop} (h1 : ∀ k, k < 4 → v = nI k → Q 1) (h0 : ¬ (0 ≤ v.toInt ∧ v.toInt < 4) → Q 0) : wp_X7_isBoard v Q := by
  have e0 : (0 : Int32).toInt = 0 := rfl
  have e4 : (4 : Int32).toInt = 4 := rfl
  unfold wp_X7_isBoard
  rw [i_lt, i_le, e0, e4]
  exact ⟨fun q => h0 (by omega), fun q => ⟨fun q2 => h0 (by omega), fun q2 => h1 v.toInt.toNat (by omega) (of_toInt (by omega))⟩⟩
theorem wp_bd9 {v : Int32} {Q : Int32 → Prop} (h1 : ∀ k, k < 4 → v = nI k → Q 1) (h0 : ¬ (0 ≤ v.toInt ∧ v.toInt < 4) → Q 0) : wp_X9_isBoard v Q := by
  have e0 : (0 : Int64).toInt = 0 := rfl
  have e3 : (3 : Int64).toInt = 3 := rfl
  refine wp_in (fun q => ⟨Or.inr rfl, ?_⟩) (fun q => ⟨Or.inl rfl, h0 ?_⟩)
  · rw [l_of, e0, e3] at q
    exact h1 v.toInt.toNat (by omega) (of_toInt (by omega))
  · rw [l_of, e0, e3] at q
    omega
theorem nI_b {k : Nat} {v : Int32} (hk : k < 4) (e : v = nI k) : 0 ≤ v.toInt ∧ v.toInt < 4 := by
  rw [e, nI_toInt (by omega)]; omega
theorem RelB.put (h : RelB dB dS dN mWi mSi mRo) {k : Nat} {f : Nat → Int64} {mRo' : Nat → Int64} (h1 : ∀ i, i < 24 → f i = mRo' (24 * k + i)) (h2 : ∀ j, j < 4 → j ≠ k → ∀ i, i < 24 → mRo' (24 * j + i) = mRo (24 * j + i)) : RelB dB dS (va_up dN k f) mWi mSi mRo' := fun j hj => by
  obtain ⟨a1, a2, a3, a4, a5, a6⟩ := h j hj
  refine ⟨a1, a2, a3, a4, a5, fun i hi => ?_⟩
  by_cases z : j = k
  · rw [z, va_up_at]; exact h1 i hi
  · rw [va_up_of _ _ _ z, h2 j hj z i hi]; exact a6 i hi
theorem RelB.lay (h : RelB dB dS dN mWi mSi mRo) {k : Nat} {b s : Int32} {f : Nat → Int64} {mRo' : Nat → Int64} (hb : b = 0 ∨ b = 32 ∨ b = 64) (hs : 0 ≤ s.toInt ∧ s.toInt ≤ 24) (h1 : ∀ i, i < 24 → f i = mRo' (24 * k + i)) (h2 : ∀ j, j < 4 → j ≠ k → ∀ i, i < 24 → mRo' (24 * j + i) = mRo (24 * j + i)) : RelB (va_up dB k b) (va_up dS k s) (va_up dN k f) (upd mWi k b) (upd mSi k s) mRo' := fun j hj => by
  obtain ⟨a1, a2, a3, a4, a5, a6⟩ := h j hj
  by_cases z : j = k
  · rw [z, va_up_at, va_up_at, va_up_at, upd_at, upd_at]
    exact ⟨rfl, rfl, hb, hs.1, hs.2, h1⟩
  · rw [va_up_of _ _ _ z, va_up_of _ _ _ z, va_up_of _ _ _ z, upd_ne z, upd_ne z]
    exact ⟨a1, a2, a3, a4, a5, fun i hi => by rw [h2 j hj z i hi]; exact a6 i hi⟩
theorem lay_loop {k : Nat} (hk : k < 4) {X : (Nat → Int64) → Prop} (hX : ∀ f : Nat → Int64, (∀ u, u < 24 → f (24 * k + u) = 0) → (∀ j, (j < 24 * k ∨ 24 * k + 24 ≤ j) → f j = mRo j) → X f) :
    ∀ (m i : Nat) (f : Nat → Int64), i + m = 24 → (∀ u, u < i → f (24 * k + u) = 0) → (∀ j, (j < 24 * k ∨ 24 * k + 24 ≤ j) → f j = mRo j) → wp_X9_board_L77 (nI k) X (m + 1) (nI i) f := by
  intro m
  induction m with
  | zero =>
    intro i f hi h1 h2
    rw [wp_X9_board_L77]
    rw [show i = 24 by omega] at h1 ⊢
    exact pk_le 24 24 (fun _ => hX f h1 h2) (fun q => absurd q (by omega))
  | succ m ih =>
    intro i f hi h1 h2
    rw [wp_X9_board_L77]
    refine pk_le 24 i (fun q => absurd q (by omega)) (fun q => ?_)
    rw [ix24, cl_nI (by omega)]
    refine ⟨pk_in (24 * k + i) 96 (by omega), fun g eg y ey => ?_⟩
    rw [ey, nI_1, eg]
    refine ih (i + 1) _ (by omega) (fun u hu => ?_) (fun j hj => ?_)
    · by_cases z : u = i
      · rw [z, updL_at]
      · rw [updL_ne (by omega)]; exact h1 u (by omega)
    · rw [updL_ne (by omega)]; exact h2 j hj
theorem shl_32 (v : Int64) : (v <<< (Int32.toInt64 (64 - 32) &&& 63)) >>> (Int32.toInt64 (64 - 32) &&& 63) = Int32.toInt64 (Int64.toInt32 v) := by
  have e : (Int32.toInt64 (64 - 32) &&& 63 : Int64) = 32 := by decide
  rw [e]
  apply Int64.toBitVec_inj.mp
  rw [Int64.toBitVec_shiftRight, Int64.toBitVec_shiftLeft, Int32.toBitVec_toInt64, Int64.toBitVec_toInt32]
  have sm : ((32 : Int64).toBitVec.smod 64).toNat = 32 := by decide
  show (v.toBitVec <<< ((32 : Int64).toBitVec.smod 64).toNat).sshiftRight ((32 : Int64).toBitVec.smod 64).toNat = (v.toBitVec.signExtend 32).signExtend 64
  rw [sm]
  apply BitVec.eq_of_getLsbD_eq
  intro i hi
  rw [BitVec.getLsbD_sshiftRight, BitVec.msb_eq_getLsbD_last, BitVec.getLsbD_shiftLeft, BitVec.getLsbD_shiftLeft, BitVec.getLsbD_signExtend, BitVec.msb_eq_getLsbD_last, BitVec.getLsbD_signExtend, BitVec.getLsbD_signExtend]
  rcases Nat.lt_or_ge i 32 with z | z
  · simp [show ¬ 64 ≤ i by omega, show 32 + i < 64 by omega, z, hi]
  · simp [show ¬ 64 ≤ i by omega, show ¬ 32 + i < 64 by omega, show ¬ i < 32 by omega, hi]
theorem shl_64 (v : Int64) : (v <<< (Int32.toInt64 (64 - 64) &&& 63)) >>> (Int32.toInt64 (64 - 64) &&& 63) = v := by
  have e : (Int32.toInt64 (64 - 64) &&& 63 : Int64) = 0 := by decide
  rw [e]
  apply Int64.toBitVec_inj.mp
  rw [Int64.toBitVec_shiftRight, Int64.toBitVec_shiftLeft]
  have sm : ((0 : Int64).toBitVec.smod 64).toNat = 0 := by decide
  show (v.toBitVec <<< ((0 : Int64).toBitVec.smod 64).toNat).sshiftRight ((0 : Int64).toBitVec.smod 64).toNat = v.toBitVec
  rw [sm]
  simp
theorem wp_has2 {s a b : Int32} (hs : 0 ≤ s.toInt ∧ s.toInt ≤ 24) {Q : Int32 → Prop} (h1 : 0 ≤ a.toInt → 0 ≤ b.toInt → a.toInt + b.toInt ≤ s.toInt → Q 1) (h0 : ¬ (0 ≤ a.toInt ∧ 0 ≤ b.toInt ∧ a.toInt + b.toInt ≤ s.toInt) → Q 0) : wp_X2_has s a b Q := by
  have e0 : (0 : Int32).toInt = 0 := rfl
  have rb := i_rng b
  refine ⟨fun q => h0 ?_, fun q => ⟨fun q2 => h0 ?_, fun q2 => ⟨fun q3 => h0 ?_, fun q3 => h1 ?_ ?_ ?_⟩⟩⟩
  · rw [i_lt, e0] at q; omega
  · rw [i_lt, e0] at q2; omega
  · rw [i_lt, e0] at q q2; rw [i_lt, i_sub (by omega) (by omega)] at q3; omega
  · rw [i_lt, e0] at q; omega
  · rw [i_lt, e0] at q2; omega
  · rw [i_lt, e0] at q q2; rw [i_lt, i_sub (by omega) (by omega)] at q3; omega
end STEPP
theorem step_0 : STEP_0 RelS := by
  intro bHK bHP bPF bWC bRi bBe bFi bWa dB dS dN tC tKi tEa tHa tPr tEx tSt tTo tBe kC kKi kEa kHa kPr kEx kSt kTo kBe aC aWh aTa aWa iRo iEa iLa cC nC nFo nQd nRo nBe nEa nMi nHa nER nMR nTh nPa nOu nFr nQu eM eL eC eS eB eE eF eG pT pK pN pF pS qT qK qN qF qS mKe mUn mFi mRi mBe mWc mAK mSh mIP mUS mWa mWi mSi mRo mSp mRw mSn mBg mLa mMo mRm mOw mGo mFr mQu mCh mPB mPS mFs ub uT uK uN uF uS H v0 v1 v2
  have e0 : (0 : Int32).toInt = 0 := rfl
  have e24 : (24 : Int32).toInt = 24 := rfl
  refine wp_bd7 (fun k hk ek => ⟨fun z => absurd z (by decide), fun _ => ?_⟩) (fun y => ⟨fun _ b eb => wp_bd9 (fun k hk ek => absurd (nI_b hk ek) y) (fun _ => ⟨fun _ => ⟨fun z => absurd z (by decide), fun _ m em => ⟨rfl, ⟨(by rw [eb, em, H.fi]), H.ri, H.be, H.wt, H.bd, H.tk, H.hk, H.ui, H.m7⟩⟩⟩, fun z => absurd rfl z⟩), fun z => absurd rfl z⟩)
  subst ek
  have ref : (v1 = 0 ∨ v1 = 32 ∨ v1 = 64) → ∀ {Q : Int32 → Int32 → (Nat → Int32) → (Nat → Int32) → (Nat → Int64) → Prop}, wp_X9_board_b29 Q (nI k) v1 v2 mFi mWi mSi mRo → wp_X9_board mFi mWi mSi mRo (nI k) v1 v2 Q := fun hv {Q} h => wp_bd9 (fun u hu eu => ⟨fun z => absurd z (by decide), fun _ => ⟨fun _ => h, fun n0 => ⟨fun _ => h, fun n1 => ⟨fun _ => h, fun n2 => by rcases hv with z | z | z; exact absurd z n0; exact absurd z n1; exact absurd z n2⟩⟩⟩⟩) (fun y => absurd (nI_b hk rfl) y)
  have lay : ∀ s : Int32, 0 ≤ s.toInt → s.toInt ≤ 24 → (v1 = 0 ∨ v1 = 32 ∨ v1 = 64) → (∀ {Q : Int32 → Int32 → (Nat → Int32) → (Nat → Int32) → (Nat → Int64) → Prop}, wp_X9_board_b73 Q (nI k) (nI k) s mFi (upd mWi k v1) mSi mRo → wp_X9_board_b29 Q (nI k) v1 v2 mFi mWi mSi mRo) → wp_X2_lay (dB k) (dN k) (dS k) v1 s (fun dB_9 dN_10 dS_11 => vp_in (nI k) 4 ∧ wp_X9_board mFi mWi mSi mRo (nI k) v1 v2 (fun r2 mFi mWi mSi mRo => (va_up dS k dS_11) k = r2 ∧ RelS bHK bHP bPF bWC bRi bBe bFi bWa (va_up dB k dB_9) (va_up dS k dS_11) (va_up dN k dN_10) tC tKi tEa tHa tPr tEx tSt tTo tBe kC kKi kEa kHa kPr kEx kSt kTo kBe aC aWh aTa aWa iRo iEa iLa cC nC nFo nQd nRo nBe nEa nMi nHa nER nMR nTh nPa nOu nFr nQu eM eL eC eS eB eE eF eG pT pK pN pF pS qT qK qN qF qS mKe mUn mFi mRi mBe mWc mAK mSh mIP mUS mWa mWi mSi mRo mSp mRw mSn mBg mLa mMo mRm mOw mGo mFr mQu mCh mPB mPS mFs ub uT uK uN uF uS)) := fun s s1 s2 hv h b eb z ez f ef => ⟨pk_in k 4 hk, ref hv (h ⟨pk_in k 4 hk, fun si esi => ⟨_, lay_loop hk (mRo := mRo) (fun g g1 g2 => ⟨pk_in k 4 hk, (by rw [esi, cl_nI (by omega), va_up_at, upd_at, ez]), (by
      have e : RelB (va_up dB k b) (va_up dS k z) (va_up dN k f) (upd mWi k v1) si g := by
        rw [esi, cl_nI (by omega), eb, ez]
        exact H.bd.lay hv ⟨s1, s2⟩ (fun i hi => by rw [ef, g1 i hi]; unfold jFillL; rw [if_pos hi]) (fun j hj hjk i hi => g2 _ (by omega))
      exact ⟨H.fi, H.ri, H.be, H.wt, e, H.tk, H.hk, H.ui, H.m7⟩)⟩) 24 0 mRo (by omega) (fun u hu => absurd hu (by omega)) (fun _ _ => rfl)⟩⟩)⟩
  have main : (v1 = 0 ∨ v1 = 32 ∨ v1 = 64) → wp_X7_board_b29 (fun r bFi dB dS dN => wp_X9_board mFi mWi mSi mRo (nI k) v1 v2 (fun r2 mFi mWi mSi mRo => r = r2 ∧ RelS bHK bHP bPF bWC bRi bBe bFi bWa dB dS dN tC tKi tEa tHa tPr tEx tSt tTo tBe kC kKi kEa kHa kPr kEx kSt kTo kBe aC aWh aTa aWa iRo iEa iLa cC nC nFo nQd nRo nBe nEa nMi nHa nER nMR nTh nPa nOu nFr nQu eM eL eC eS eB eE eF eG pT pK pN pF pS qT qK qN qF qS mKe mUn mFi mRi mBe mWc mAK mSh mIP mUS mWa mWi mSi mRo mSp mRw mSn mBg mLa mMo mRm mOw mGo mFr mQu mCh mPB mPS mFs ub uT uK uN uF uS)) (nI k) v1 v2 bFi dB dS dN := fun hv => by
    unfold wp_X7_board_b29
    rw [i_le, i_le, e0, e24, cl_nI (by omega)]
    refine ⟨fun q1 => ⟨fun q2 => ⟨pk_in k 4 hk, fun nz => lay v2 q1 q2 hv (fun {Q} h => ?_), fun z => lay 0 (by omega) (by omega) hv (fun {Q} h => ?_)⟩, fun q2 b eb => ref hv ?_⟩, fun q1 b eb => ref hv ?_⟩
    · unfold wp_X9_board_b29
      rw [i_le, i_le, e0, e24, cl_nI (by omega)]
      exact ⟨fun _ => ⟨fun _ => ⟨pk_in k 4 hk, fun wi ewi => ⟨fun _ => by rw [ewi]; exact h, fun z => absurd z nz⟩⟩, fun z => absurd q2 z⟩, fun z => absurd q1 z⟩
    · unfold wp_X9_board_b29
      rw [i_le, i_le, e0, e24, cl_nI (by omega)]
      exact ⟨fun _ => ⟨fun _ => ⟨pk_in k 4 hk, fun wi ewi => ⟨fun nz => absurd z nz, fun _ => by rw [ewi]; exact h⟩⟩, fun z => absurd q2 z⟩, fun z => absurd q1 z⟩
    · unfold wp_X9_board_b29
      rw [i_le, i_le, e0, e24]
      exact ⟨fun _ => ⟨fun z => absurd z q2, fun _ => ⟨fun z => absurd z (by decide), fun _ m em => ⟨rfl, ⟨(by rw [eb, em, H.fi]), H.ri, H.be, H.wt, H.bd, H.tk, H.hk, H.ui, H.m7⟩⟩⟩⟩, fun z => absurd q1 z⟩
    · unfold wp_X9_board_b29
      rw [i_le, i_le, e0, e24]
      exact ⟨fun z => absurd z q1, fun _ => ⟨fun z => absurd z (by decide), fun _ m em => ⟨rfl, ⟨(by rw [eb, em, H.fi]), H.ri, H.be, H.wt, H.bd, H.tk, H.hk, H.ui, H.m7⟩⟩⟩⟩
  refine ⟨fun z => main (Or.inl z), fun n0 => ⟨fun z => main (Or.inr (Or.inl z)), fun n1 => ⟨fun z => main (Or.inr (Or.inr z)), fun n2 b eb => wp_bd9 (fun u hu eu => ⟨fun z => absurd z (by decide), fun _ => ⟨fun z => absurd z n0, fun _ => ⟨fun z => absurd z n1, fun _ => ⟨fun z => absurd z n2, fun _ => ⟨fun z => absurd z (by decide), fun _ m em => ⟨rfl, ⟨(by rw [eb, em, H.fi]), H.ri, H.be, H.wt, H.bd, H.tk, H.hk, H.ui, H.m7⟩⟩⟩⟩⟩⟩⟩) (fun y => absurd (nI_b hk rfl) y)⟩⟩⟩
theorem step_1 : STEP_1 RelS := by
  intro bHK bHP bPF bWC bRi bBe bFi bWa dB dS dN tC tKi tEa tHa tPr tEx tSt tTo tBe kC kKi kEa kHa kPr kEx kSt kTo kBe aC aWh aTa aWa iRo iEa iLa cC nC nFo nQd nRo nBe nEa nMi nHa nER nMR nTh nPa nOu nFr nQu eM eL eC eS eB eE eF eG pT pK pN pF pS qT qK qN qF qS mKe mUn mFi mRi mBe mWc mAK mSh mIP mUS mWa mWi mSi mRo mSp mRw mSn mBg mLa mMo mRm mOw mGo mFr mQu mCh mPB mPS mFs ub uT uK uN uF uS H v0 v1 v2
  have e1 : (1 : Int32).toInt = 1 := rfl
  have f0 : (0 : Int64).toInt = 0 := rfl
  refine wp_bd7 (fun k hk ek => ⟨fun _ => ⟨by rw [ek]; exact pk_in k 4 hk, ?_⟩, fun z => absurd z (by decide)⟩) (fun y => ⟨fun z => absurd rfl z, fun _ b eb => wp_bd9 (fun k hk ek => absurd (nI_b hk ek) y) (fun _ => ⟨fun z => absurd rfl z, fun _ => ⟨fun z => absurd z (by decide), fun _ m em => ⟨rfl, ⟨(by rw [eb, em, H.fi]), H.ri, H.be, H.wt, H.bd, H.tk, H.hk, H.ui, H.m7⟩⟩⟩⟩)⟩)
  subst ek
  rw [cl_nI (by omega)]
  obtain ⟨a1, a2, a3, a4, a5, a6⟩ := H.bd k hk
  have es : (mSi k - 1).toInt = (dS k).toInt - 1 := by rw [← a2, i_sub (by omega) (by omega), e1]
  refine ⟨fun nz => ⟨fun _ => ?_, fun z => absurd rfl z⟩, fun z => ⟨fun z => absurd z (by decide), fun _ b eb => wp_bd9 (fun u hu eu => ⟨fun _ => ⟨pk_in k 4 hk, fun nz => absurd (by rw [cl_nI (by omega), ← a1]; exact z) nz, fun _ => ⟨fun z => absurd z (by decide), fun _ m em => ⟨rfl, ⟨(by rw [eb, em, H.fi]), H.ri, H.be, H.wt, H.bd, H.tk, H.hk, H.ui, H.m7⟩⟩⟩⟩, fun z => absurd z (by decide)⟩) (fun y => absurd (nI_b hk rfl) y)⟩⟩
  have ref : ∀ {Q : Int32 → Int32 → (Nat → Int64) → Prop}, (0 ≤ v1.toInt ∧ v1.toInt < (dS k).toInt → vp_in ((24 * nI k) + v1) 96 ∧ ∀ mRo_6 : Nat → Int64, mRo_6 = vp_updL mRo (Int32.toNatClampNeg ((24 * nI k) + v1)) ((v2 <<< (Int32.toInt64 (64 - (mWi k)) &&& 63)) >>> (Int32.toInt64 (64 - (mWi k)) &&& 63)) → Q 0 mFi mRo_6) → (¬ (0 ≤ v1.toInt ∧ v1.toInt < (dS k).toInt) → ∀ m : Int32, m = mFi + 1 → Q (-1) m mRo) → wp_X9_put mFi mWi mSi mRo (nI k) v1 v2 Q := fun {Q} h1 h0 => wp_bd9 (fun u hu eu => ⟨fun _ => ⟨pk_in k 4 hk, by
    rw [cl_nI (by omega)]
    exact ⟨fun _ => ⟨pk_in k 4 hk, wp_in (fun q => ⟨fun _ => ⟨pk_in k 4 hk, pk_in k 4 hk, h1 (by rw [l_of, l_of, f0, es] at q; omega)⟩, fun z => absurd z (by decide)⟩) (fun q => ⟨fun z => absurd rfl z, fun _ => ⟨fun z => absurd z (by decide), fun _ m em => h0 (by rw [l_of, l_of, f0, es] at q; omega) m em⟩⟩)⟩, fun z => absurd (by rw [a1]; exact z) nz⟩⟩, fun z => absurd z (by decide)⟩) (fun y => absurd (nI_b hk rfl) y)
  refine wp_has2 ⟨a4, a5⟩ (fun q1 q2 q3 => ⟨fun _ => ?_, fun z => absurd z (by decide)⟩) (fun q => ⟨fun z => absurd rfl z, fun _ b eb => ref (fun q2 => absurd ⟨q2.1, by omega, by omega⟩ q) (fun _ m em => ⟨rfl, ⟨(by rw [eb, em, H.fi]), H.ri, H.be, H.wt, H.bd, H.tk, H.hk, H.ui, H.m7⟩⟩)⟩)
  rw [e1] at q3
  obtain ⟨i, hi, ei⟩ : ∃ i : Nat, (i : Int) < (dS k).toInt ∧ v1 = nI i := ⟨v1.toInt.toNat, by omega, of_toInt (by omega)⟩
  subst ei
  have wr : ∀ (x : Int64), ((v2 <<< (Int32.toInt64 (64 - (mWi k)) &&& 63)) >>> (Int32.toInt64 (64 - (mWi k)) &&& 63)) = x → wp_X2_write_b21 (fun dN_8 => wp_X9_put mFi mWi mSi mRo (nI k) (nI i) v2 (fun r2 mFi mRo => 0 = r2 ∧ RelS bHK bHP bPF bWC bRi bBe bFi bWa dB dS (va_up dN k dN_8) tC tKi tEa tHa tPr tEx tSt tTo tBe kC kKi kEa kHa kPr kEx kSt kTo kBe aC aWh aTa aWa iRo iEa iLa cC nC nFo nQd nRo nBe nEa nMi nHa nER nMR nTh nPa nOu nFr nQu eM eL eC eS eB eE eF eG pT pK pN pF pS qT qK qN qF qS mKe mUn mFi mRi mBe mWc mAK mSh mIP mUS mWa mWi mSi mRo mSp mRw mSn mBg mLa mMo mRm mOw mGo mFr mQu mCh mPB mPS mFs ub uT uK uN uF uS)) (nI i) x (dN k) := fun x hx => by
    refine ⟨pk_in i 24 (by omega), fun f ef => ref (fun _ => ?_) (fun q => absurd ⟨q1, by omega⟩ q)⟩
    rw [ix24, cl_nI (by omega), hx]
    refine ⟨pk_in (24 * k + i) 96 (by omega), fun g eg => ⟨rfl, ?_⟩⟩
    rw [cl_nI (by omega)] at ef
    have e : RelB dB dS (va_up dN k f) mWi mSi g := by
      refine H.bd.put (fun j hj => ?_) (fun j hj hjk u hu => ?_)
      · rw [ef, eg]
        by_cases z : j = i
        · rw [z, updL_at, updL_at]
        · rw [updL_ne z, updL_ne (by omega)]; exact a6 j hj
      · rw [eg, updL_ne (by omega)]
    exact ⟨H.fi, H.ri, H.be, H.wt, e, H.tk, H.hk, H.ui, H.m7⟩
  rw [← a1] at wr
  refine ⟨fun z => wr v2 ?_, fun z => wr _ ?_⟩
  · rcases a3 with y | y | y
    · exact absurd y nz
    · exact absurd y z
    · rw [y]; exact shl_64 v2
  · rw [z]; exact shl_32 v2
