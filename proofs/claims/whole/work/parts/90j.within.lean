/-! steps: within -/
section STEPJ
variable {n : Nat} {tKi tEa tHa tPr tEx tSt tBe : Nat → Int32} {pT : Int32} {pK pN pF : Nat → Int32} {sh : Int} {bFi mFi mAK mSh : Int32} {mCh : Nat → Int64} {mRw mSn mBg mMo : Nat → Int32} {mRm mOw : Nat → Int64} {mGo mFr mQu : Nat → Int32} {iRo iEa : Nat → Int32} {cC nC nFo nQd : Int32} {nRo nBe nEa nMi nHa nER nMR nTh nPa nOu nFr nQu : Nat → Int32} {eM : Nat} {eL : Nat → Int32} {eC eS : Nat → Int64} {eB eE eF eG : Nat → Nat → Int32}
theorem cat_mono {T T' v w : Int} (h : T ≤ T') (H : CAt n (iT tEa) (iT tHa) (cT tKi tEa tPr tEx tSt) (foC n tBe) T v) (H' : CAt n (iT tEa) (iT tHa) (cT tKi tEa tPr tEx tSt) (foC n tBe) T' w) : w ≤ v := by
  obtain ⟨b, f, O, e⟩ := H
  obtain ⟨b', f', O', e'⟩ := H'
  rw [← e, ← e']
  exact O'.2.2 b f O.1 (fun t ht => Int.le_trans (O.2.1 t ht) h)
theorem l_mod {a b : Int64} (ha : 0 ≤ a.toInt) (hb : 0 < b.toInt) : (a - a / b * b).toInt = a.toInt % b.toInt := by
  have d : (a / b).toInt = a.toInt / b.toInt := by rw [l_div (by omega), Int.tdiv_eq_ediv_of_nonneg ha]
  have t1 : a.toInt / b.toInt * b.toInt ≤ a.toInt := Int.ediv_mul_le _ (by omega)
  have t0 : 0 ≤ a.toInt / b.toInt * b.toInt := Int.mul_nonneg (Int.ediv_nonneg ha (by omega)) (by omega)
  have r := l_rng a
  have m : (a / b * b).toInt = a.toInt / b.toInt * b.toInt := by rw [l_mul (by rw [d]; omega) (by rw [d]; omega), d]
  rw [l_sub (by rw [m]; omega) (by rw [m]; omega), m]
  have e := Int.mul_ediv_add_emod a.toInt b.toInt
  have c : b.toInt * (a.toInt / b.toInt) = a.toInt / b.toInt * b.toInt := Int.mul_comm _ _
  omega
theorem half_mod {a b : Int} (ha : 0 < a) (h : a < b) : b % a * 2 < b := by
  have h1 := Int.emod_lt_of_pos b ha
  have h2 := Int.mul_ediv_add_emod b a
  have h3 : 1 ≤ b / a := Int.le_ediv_of_mul_le ha (by omega)
  have h4 : a * 1 ≤ a * (b / a) := Int.mul_le_mul_of_nonneg_left h3 (by omega)
  omega
theorem euclid : ∀ (m : Nat) (a b : Int64), 0 < a.toInt → 0 ≤ b.toInt → b.toInt < 2 ^ m → ∃ g : Int64, 0 < g.toInt ∧ (∀ (Q : Int64 → Prop) (x8 : Nat), x8 + 2 * m ≤ 90 → Q g → wp_X7_commonDivisor_L9 Q (2 * m + 1) a b (nI x8)) ∧ ∀ Q : Int64 → Prop, Q g → wp_X9_common_L6 Q (2 * m + 1) a b := by
  have z0 : (0 : Int64).toInt = 0 := rfl
  have e100 : (100 : Int32).toInt = 100 := rfl
  intro m
  induction m with
  | zero =>
    intro a b ha hb hm
    have b0 : b.toInt = 0 := by simp at hm; omega
    refine ⟨a, ha, fun Q x8 hx hq => ?_, fun Q hq => ?_⟩
    · rw [wp_X7_commonDivisor_L9, i_le, e100, nI_toInt (by omega), cmp_eq0, z0]
      exact ⟨fun _ => hq, fun _ => ⟨fun _ => hq, fun z => absurd b0 z⟩⟩
    · rw [wp_X9_common_L6, cmp_le0, z0]
      exact ⟨fun _ => hq, fun z => absurd (by omega) z⟩
  | succ m ih =>
    intro a b ha hb hm
    rcases Int.lt_or_le 0 b.toInt with p | p
    · have er := l_mod (a := a) (b := b) (by omega) p
      have r0 := Int.emod_nonneg a.toInt (show b.toInt ≠ 0 by omega)
      have r1 := Int.emod_lt_of_pos a.toInt p
      have bz : ¬ b = 0 := fun e => by rw [e, z0] at p; omega
      obtain ⟨r, hr⟩ : ∃ r : Int64, r = a - a / b * b := ⟨_, rfl⟩
      rw [← hr] at er
      rcases Int.lt_or_le 0 r.toInt with p2 | p2
      · have es := l_mod (a := b) (b := r) (by omega) p2
        have hm2 := half_mod p2 (show r.toInt < b.toInt by omega)
        have rz : ¬ r = 0 := fun e => by rw [e, z0] at p2; omega
        obtain ⟨u, hu⟩ : ∃ u : Int64, u = b - b / r * r := ⟨_, rfl⟩
        rw [← hu] at es
        have u0 := Int.emod_nonneg b.toInt (show r.toInt ≠ 0 by omega)
        obtain ⟨g, g1, g2, g3⟩ := ih r u p2 (by omega) (by rw [Int.pow_succ] at hm; omega)
        refine ⟨g, g1, fun Q x8 hx hq => ?_, fun Q hq => ?_⟩
        · rw [show 2 * (m + 1) + 1 = (2 * m + 1) + 1 + 1 by omega, wp_X7_commonDivisor_L9, i_le, e100, nI_toInt (by omega), cmp_eq0, z0]
          refine ⟨fun z => absurd z (by omega), fun _ => ⟨fun z => absurd z (by omega), fun _ => ⟨bz, fun x9 e9 y8 f8 => ?_⟩⟩⟩
          rw [e9, ← hr, f8, nI_1, wp_X7_commonDivisor_L9, i_le, e100, nI_toInt (by omega), cmp_eq0, z0]
          refine ⟨fun z => absurd z (by omega), fun _ => ⟨fun z => absurd z (by omega), fun _ => ⟨rz, fun x9 e9 y8 f8 => ?_⟩⟩⟩
          rw [e9, ← hu, f8, nI_1]
          exact g2 Q (x8 + 1 + 1) (by omega) hq
        · rw [show 2 * (m + 1) + 1 = (2 * m + 1) + 1 + 1 by omega, wp_X9_common_L6, cmp_le0, z0]
          refine ⟨fun z => absurd z (by omega), fun _ => ⟨bz, fun x9 e9 => ?_⟩⟩
          rw [e9, ← hr, wp_X9_common_L6, cmp_le0, z0]
          refine ⟨fun z => absurd z (by omega), fun _ => ⟨rz, fun x9 e9 => ?_⟩⟩
          rw [e9, ← hu]
          exact g3 Q hq
      · refine ⟨b, p, fun Q x8 hx hq => ?_, fun Q hq => ?_⟩
        · rw [show 2 * (m + 1) + 1 = (2 * m + 1) + 1 + 1 by omega, wp_X7_commonDivisor_L9, i_le, e100, nI_toInt (by omega), cmp_eq0, z0]
          refine ⟨fun z => absurd z (by omega), fun _ => ⟨fun z => absurd z (by omega), fun _ => ⟨bz, fun x9 e9 y8 f8 => ?_⟩⟩⟩
          rw [e9, ← hr, f8, nI_1, wp_X7_commonDivisor_L9, i_le, e100, nI_toInt (by omega), cmp_eq0, z0]
          exact ⟨fun _ => hq, fun _ => ⟨fun _ => hq, fun z => absurd (by omega) z⟩⟩
        · rw [show 2 * (m + 1) + 1 = (2 * m + 1) + 1 + 1 by omega, wp_X9_common_L6, cmp_le0, z0]
          refine ⟨fun z => absurd z (by omega), fun _ => ⟨bz, fun x9 e9 => ?_⟩⟩
          rw [e9, ← hr, wp_X9_common_L6, cmp_le0, z0]
          exact ⟨fun _ => hq, fun z => absurd (by omega) z⟩
    · refine ⟨a, ha, fun Q x8 hx hq => ?_, fun Q hq => ?_⟩
      · rw [show 2 * (m + 1) + 1 = (2 * m + 2) + 1 by omega, wp_X7_commonDivisor_L9, i_le, e100, nI_toInt (by omega), cmp_eq0, z0]
        exact ⟨fun _ => hq, fun _ => ⟨fun _ => hq, fun z => absurd (by omega) z⟩⟩
      · rw [show 2 * (m + 1) + 1 = (2 * m + 2) + 1 by omega, wp_X9_common_L6, cmp_le0, z0]
        exact ⟨fun _ => hq, fun z => absurd (by omega) z⟩
theorem wp_cd {a b : Int64} (ha : 0 < a.toInt) (hb : 0 ≤ b.toInt) (hm : b.toInt ≤ 144000000) : ∃ g : Int64, ¬ g = 0 ∧ (∀ Q : Int64 → Prop, Q g → wp_X7_commonDivisor a b Q) ∧ ∀ Q : Int64 → Prop, Q g → wp_X9_common a b Q := by
  have z0 : (0 : Int64).toInt = 0 := rfl
  obtain ⟨g, g1, g2, g3⟩ := euclid 28 a b ha hb (by omega)
  refine ⟨g, fun e => by rw [e, z0] at g1; omega, fun Q hq => ?_, fun Q hq => ⟨_, g3 Q hq⟩⟩
  have key := g2 (fun x4 => ((¬ (lg_cmp x4 0) = 0 → Q x4) ∧ ((lg_cmp x4 0) = 0 → Q 1))) 0 (by omega) ⟨fun _ => hq, fun z => by rw [cmp_eq0, z0] at z; omega⟩
  rw [nI_0] at key
  exact ⟨_, key⟩
theorem within_loop (hT : TB n (nI n) tKi tEa tHa tPr tEx tSt tBe) (hM : MB n tKi tEa tHa tPr tEx tSt tBe pT pK pN pF) (hsh : Sh n (foC n tBe) (iT tHa) sh) {a1 : Int64} {w0 : Int} (hw : CAt n (iT tEa) (iT tHa) (cT tKi tEa tPr tEx tSt) (foC n tBe) 720 w0) (hw1 : w0 ≤ a1.toInt) {X : Int32 → Int32 → Int32 → (Nat → Int32) → (Nat → Int32) → (Nat → Int32) → (Nat → Int32) → (Nat → Int64) → (Nat → Int64) → (Nat → Int32) → (Nat → Int32) → (Nat → Int32) → (Nat → Int64) → Prop} (hX : ∀ (x : Int32) (mAK mSh : Int32) (mRw mSn mBg mMo : Nat → Int32) (mRm mOw : Nat → Int64) (mGo mFr mQu : Nat → Int32) (mCh : Nat → Int64), ¬ mAK = 0 → Known n (iT tEa) (iT tHa) (cT tKi tEa tPr tEx tSt) (foC n tBe) mSh mCh → mSh.toInt = sh → sh ≤ x.toInt → x.toInt ≤ 720 → (∃ v, CAt n (iT tEa) (iT tHa) (cT tKi tEa tPr tEx tSt) (foC n tBe) x.toInt v ∧ v ≤ a1.toInt) → (sh < x.toInt → ∃ v, CAt n (iT tEa) (iT tHa) (cT tKi tEa tPr tEx tSt) (foC n tBe) (x.toInt - 1) v ∧ a1.toInt < v) → X x mAK mSh mRw mSn mBg mMo mRm mOw mGo mFr mQu mCh) :
    ∀ (m T : Nat) (mAK mSh : Int32) (mRw mSn mBg mMo : Nat → Int32) (mRm mOw : Nat → Int64) (mGo mFr mQu : Nat → Int32) (mCh : Nat → Int64), T + m = 720 → sh ≤ T → (sh < T → ∃ v, CAt n (iT tEa) (iT tHa) (cT tKi tEa tPr tEx tSt) (foC n tBe) ((T : Int) - 1) v ∧ a1.toInt < v) → ¬ mAK = 0 → Known n (iT tEa) (iT tHa) (cT tKi tEa tPr tEx tSt) (foC n tBe) mSh mCh → mSh.toInt = sh → wp_X9_within_L29 a1 pF pK pN (nI n) X (m + 1) (nI T) mAK mSh mRw mSn mBg mMo mRm mOw mGo mFr mQu mCh := by
  intro m
  induction m with
  | zero =>
    intro T ak s w sn b mo r o g f q ch hTm hsT hp g1 g2 g3
    have eT : (nI T).toInt = T := nI_toInt (by omega)
    rw [wp_X9_within_L29]
    refine wp_cap hT hM hsh (mAK := ak) (fun _ => g2) (by rw [l_of, eT]; exact hsT) (fun r1 ak s w sn b mo r o g f q ch d1 d2 d3 d4 => ?_)
    rw [l_of, eT, show min (T : Int) 720 = 720 by omega] at d4
    have e := d4.one hw
    rw [cmp_le0]
    refine ⟨fun z => hX _ _ _ _ _ _ _ _ _ _ _ _ _ d1 d2 d3 (by rw [eT]; exact hsT) (by rw [eT]; omega) ⟨_, by rw [eT, show (T : Int) = 720 by omega]; exact d4, z⟩ (by rw [eT]; exact hp), fun z => absurd (by omega) z⟩
  | succ m ih =>
    intro T ak s w sn b mo r o g f q ch hTm hsT hp g1 g2 g3
    have eT : (nI T).toInt = T := nI_toInt (by omega)
    rw [wp_X9_within_L29]
    refine wp_cap hT hM hsh (mAK := ak) (fun _ => g2) (by rw [l_of, eT]; exact hsT) (fun r1 ak s w sn b mo r o g f q ch d1 d2 d3 d4 => ?_)
    rw [l_of, eT, show min (T : Int) 720 = T by omega] at d4
    rw [cmp_le0]
    refine ⟨fun z => hX _ _ _ _ _ _ _ _ _ _ _ _ _ d1 d2 d3 (by rw [eT]; exact hsT) (by rw [eT]; omega) ⟨_, by rw [eT]; exact d4, z⟩ (by rw [eT]; exact hp), fun z x ex => ?_⟩
    rw [ex, nI_1]
    exact ih (T + 1) _ _ _ _ _ _ _ _ _ _ _ _ (by omega) (by omega) (fun _ => ⟨_, by rw [show ((T + 1 : Nat) : Int) - 1 = T by omega]; exact d4, by omega⟩) d1 d2 d3
theorem wp_ba0 {eM : Nat} (h : 0 < eM) {Q : Nat → Prop} (hQ : Q 0) : wp_X3_bendAt eM 0 Q := by
  have k := wp_ba (i := 0) (by omega) h hQ
  rw [nI_0] at k
  exact k
theorem within_eq {s T L0 L1 c0 c1 A x : Int} (h1 : c1 = c0 + s * (L0 - L1)) (h2 : x = T * s + (c1 - s * (T - L1)) - A) : x = L0 * s - (A - c0) := by
  have a1 : s * (L0 - L1) = s * L0 - s * L1 := Int.mul_sub _ _ _
  have a2 : s * (T - L1) = s * T - s * L1 := Int.mul_sub _ _ _
  have a3 : T * s = s * T := Int.mul_comm _ _
  have a4 : L0 * s = s * L0 := Int.mul_comm _ _
  omega
end STEPJ
theorem step_20 : STEP_20 RelS := by
  intro bHK bHP bPF bWC bRi bBe bFi bWa dB dS dN tC tKi tEa tHa tPr tEx tSt tTo tBe kC kKi kEa kHa kPr kEx kSt kTo kBe aC aWh aTa aWa iRo iEa iLa cC nC nFo nQd nRo nBe nEa nMi nHa nER nMR nTh nPa nOu nFr nQu eM eL eC eS eB eE eF eG pT pK pN pF pS qT qK qN qF qS mKe mUn mFi mRi mBe mWc mAK mSh mIP mUS mWa mWi mSi mRo mSp mRw mSn mBg mLa mMo mRm mOw mGo mFr mQu mCh mPB mPS mFs ub uT uK uN uF uS H v0
  obtain ⟨n, a, sh, hk⟩ := H.tk
  have hT := hk.bk.1
  obtain rfl := hT.1
  have hM := hk.bk.2.1
  obtain rfl := hM.1
  have hsh := hk.hsh
  obtain ⟨K, k1, k2, k3⟩ := rc_K n tKi tEa tHa tPr tEx tSt tBe sh cC H.m7
  have s0 : 0 ≤ sh := by obtain ⟨B, _, hB⟩ := hsh; exact hB.1
  have one : (1 : Int64).toInt = 1 := rfl
  refine ⟨K, k1, wp_rc hT hsh hk.hC k2 k3 (fun iRo iEa cC nC nFo nQd nRo nBe nEa nMi nHa nER nMR nTh nPa nOu nFr nQu eM' eL eC eS eB eE eF eG g1 g2 => ?_)⟩
  obtain ⟨k, w1, w2, w3, w4, w5, w6⟩ := id g2
  have b0 := w5 0 w2
  have c720 := bend_cat b0 (T := 720) b0.1.2 (by omega) (fun j hj => absurd hj (by omega))
  rw [b0.2.2.2.1 rfl, Int.zero_mul, Int.sub_zero] at c720
  have ek : cC - 1 = nI (k - 1) := by
    have q := nI_pred (k - 1)
    rw [show k - 1 + 1 = k by omega] at q
    rw [w1]; exact q
  have s7 := g2.s7
  refine wp_ba0 (by omega) ?_
  rw [cmp_le0]
  refine ⟨fun q => wp_lw g2 (fun k' i i1 i2 i3 i4 i5 i6 => ?_), fun q bb eb => ⟨g1, ?_⟩⟩
  · have hk' : k' = k := (nI_eq (a := k') (b := k) (by omega) (by omega)).mp (by rw [← i1, w1])
    rw [hk'] at i2 i3 i4 i6
    clear hk' i1
    have ci : (eC i).toInt ≤ v0.toInt := by
      rcases Nat.eq_zero_or_pos i with z | z
      · rw [z]; exact q
      · exact i5 i z (Nat.le_refl _)
    have bi := w5 i i4
    have cLi := bend_cat bi (T := (eL i).toInt) (Int.le_refl _) (by have := bi.1; omega) (fun j hj => by have := (bi.2.2.2.2.1 j hj).1; omega)
    rw [Int.sub_self, Int.mul_zero, Int.sub_zero] at cLi
    refine wp_ba (by omega) (by omega) ?_
    rw [ek]
    have ref : ∀ {Q : Int64 → Int32 → Int64 → Int32 → Int32 → (Nat → Int32) → (Nat → Int32) → (Nat → Int32) → (Nat → Int32) → (Nat → Int64) → (Nat → Int64) → (Nat → Int32) → (Nat → Int32) → (Nat → Int32) → (Nat → Int64) → Prop}, (∀ (x : Int32) (mAK mSh : Int32) (mRw mSn mBg mMo : Nat → Int32) (mRm mOw : Nat → Int64) (mGo mFr mQu : Nat → Int32) (mCh : Nat → Int64), ¬ mAK = 0 → Known n (iT tEa) (iT tHa) (cT tKi tEa tPr tEx tSt) (foC n tBe) mSh mCh → mSh.toInt = sh → sh ≤ x.toInt → x.toInt ≤ 720 → (∃ v, CAt n (iT tEa) (iT tHa) (cT tKi tEa tPr tEx tSt) (foC n tBe) x.toInt v ∧ v ≤ v0.toInt) → (sh < x.toInt → ∃ v, CAt n (iT tEa) (iT tHa) (cT tKi tEa tPr tEx tSt) (foC n tBe) (x.toInt - 1) v ∧ v0.toInt < v) → ((¬ x = mSh → wp_X9_cheapAt (nI n) pK pN pF mAK mSh mRw mSn mBg mMo mRm mOw mGo mFr mQu mCh ((Int32.toInt64 x) - 1) (fun r_70 mAK mSh mRw mSn mBg mMo mRm mOw mGo mFr mQu mCh => wp_X9_cheapAt (nI n) pK pN pF mAK mSh mRw mSn mBg mMo mRm mOw mGo mFr mQu mCh (Int32.toInt64 x) (fun r_83 mAK mSh mRw mSn mBg mMo mRm mOw mGo mFr mQu mCh => ∀ x4_96 : Int64, x4_96 = (r_70 - r_83) → wp_X9_cheapAt (nI n) pK pN pF mAK mSh mRw mSn mBg mMo mRm mOw mGo mFr mQu mCh ((Int32.toInt64 x) - 1) (fun r_98 mAK mSh mRw mSn mBg mMo mRm mOw mGo mFr mQu mCh => ∀ x6_111 : Int64, x6_111 = (((((Int32.toInt64 x) - 1) * x4_96) + r_98) - v0) → wp_X9_common x6_111 x4_96 (fun r_113 => ¬ r_113 = 0 ∧ ∀ mBe_114 : Int64, mBe_114 = (x4_96 / r_113) → ¬ r_113 = 0 ∧ Q (x6_111 / r_113) mFi mBe_114 mAK mSh mRw mSn mBg mMo mRm mOw mGo mFr mQu mCh))))) ∧ (x = mSh → ∀ mBe_116 : Int64, mBe_116 = 1 → Q (Int32.toInt64 x) mFi mBe_116 mAK mSh mRw mSn mBg mMo mRm mOw mGo mFr mQu mCh))) → wp_X9_within (nI n) pK pN pF mFi mBe mAK mSh mRw mSn mBg mMo mRm mOw mGo mFr mQu mCh v0 Q := by
      intro Q hX
      refine wp_kn hT hM hsh hk.hK (fun ak s w sn b mo rr o gg f qq ch c1 c2 c3 => ?_)
      have e720 : (720 : Int64).toInt = 720 := rfl
      refine wp_cap hT hM hsh (mAK := ak) (fun _ => c2) (by rw [e720]; omega) (fun r13 ak s w sn b mo rr o gg f qq ch d1 d2 d3 d4 => ?_)
      rw [e720, show min (720 : Int) 720 = 720 by omega] at d4
      rw [cmp_le0]
      refine ⟨fun _ => ?_, fun z => absurd (by rw [d4.one c720]; exact q) z⟩
      have es : s = nI sh.toNat := i_eq.mpr (by rw [nI_toInt (by omega)]; omega)
      have key := within_loop hT hM hsh (a1 := v0) c720 (by omega) (X := _) hX (720 - sh.toNat) sh.toNat ak s w sn b mo rr o gg f qq ch (by omega) (by omega) (fun z => absurd z (by omega)) d1 d2 d3
      rw [← es] at key
      exact ⟨_, key⟩
    refine ⟨fun z => ?_, fun z bb eb => ⟨g1, ?_⟩⟩
    · have ik : i + 1 < k := by
        rcases Nat.lt_or_ge (i + 1) k with y | y
        · exact y
        · exact absurd (by rw [show i = k - 1 by omega]) z
      have c2i := i6 ik
      have bj := w5 (i + 1) ik
      obtain ⟨j1, j2, j3⟩ := bj.2.2.2.2.1 i rfl
      have sb := bj.2.2.1
      have lb := bj.1
      have lb0 := bi.1
      have cb := bi.2.1
      have cb1 := bj.2.1
      have p1 := mul_bd (a := (eS (i + 1)).toInt) (b := (eL i).toInt) (A := 144000000) (B := 720) sb.1 sb.2 (by omega) lb0.2
      have p2 := mul_bd (a := (eS (i + 1)).toInt) (b := (eL (i + 1)).toInt) (A := 144000000) (B := 720) sb.1 sb.2 (by omega) lb.2
      have m1 : (eS (i + 1)).toInt * ((eL i).toInt - (eL (i + 1)).toInt) = (eS (i + 1)).toInt * (eL i).toInt - (eS (i + 1)).toInt * (eL (i + 1)).toInt := Int.mul_sub _ _ _
      have m2 : (eL i).toInt * (eS (i + 1)).toInt = (eS (i + 1)).toInt * (eL i).toInt := Int.mul_comm _ _
      rw [nI_1]
      refine wp_ba (by omega) (by omega) (fun x5 e5 x7 e7 => ?_)
      have E5 : x5.toInt = (eS (i + 1)).toInt := by rw [e5]
      have M7 : ((Int32.toInt64 (eL i)) * x5).toInt = (eL i).toInt * (eS (i + 1)).toInt := by rw [l_mul (by rw [l_of, E5]; omega) (by rw [l_of, E5]; omega), l_of, E5]
      have N7 : (v0 - eC i).toInt = v0.toInt - (eC i).toInt := l_sub (by omega) (by omega)
      have E7 : x7.toInt = (eL i).toInt * (eS (i + 1)).toInt - (v0.toInt - (eC i).toInt) := by rw [e7, l_sub (by rw [M7, N7]; omega) (by rw [M7, N7]; omega), M7, N7]
      have s1 : 0 < x7.toInt := by omega
      obtain ⟨g, gz, gc, gm⟩ := wp_cd (a := x7) (b := x5) s1 (by omega) (by omega)
      refine gc _ ⟨gz, fun bb eb => ⟨gz, g1, ?_⟩⟩
      refine ref (fun x ak s w sn b mo rr o gg f qq ch c1 c2 c3 h1 h2 h3 h4 => ?_)
      obtain ⟨v, hv1, hv2⟩ := h3
      have cLj := bend_cat bj (T := (eL (i + 1)).toInt) (Int.le_refl _) (by omega) (fun j hj => by rw [show j = i by omega]; omega)
      rw [Int.sub_self, Int.mul_zero, Int.sub_zero] at cLj
      have x1 : (eL (i + 1)).toInt < x.toInt := by
        rcases Int.lt_or_le (eL (i + 1)).toInt x.toInt with y | y
        · exact y
        · have := cat_mono y hv1 cLj; omega
      obtain ⟨u, hu1, hu2⟩ := h4 (by omega)
      have x2 : x.toInt ≤ (eL i).toInt := by
        rcases Int.lt_or_le (eL i).toInt x.toInt with y | y
        · have := cat_mono (show (eL i).toInt ≤ x.toInt - 1 by omega) cLi hu1; omega
        · exact y
      have f1 := bend_cat bj (T := x.toInt - 1) (by omega) (by omega) (fun j hj => by rw [show j = i by omega]; omega)
      have f2 := bend_cat bj (T := x.toInt) (by omega) (by omega) (fun j hj => by rw [show j = i by omega]; omega)
      have X1 : (Int32.toInt64 x - 1).toInt = x.toInt - 1 := by rw [l_sub (by rw [l_of, one]; omega) (by rw [l_of, one]; omega), l_of, one]
      refine ⟨fun _ => ?_, fun y => absurd (by rw [y, c3]) (show ¬ x.toInt = sh by omega)⟩
      refine wp_cap hT hM hsh (mAK := ak) (fun _ => c2) (by rw [X1]; omega) (fun r70 ak s w sn b mo rr o gg f qq ch d1 d2 d3 d4 => ?_)
      refine wp_cap hT hM hsh (mAK := ak) (fun _ => d2) (by rw [l_of]; omega) (fun r83 ak s w sn b mo rr o gg f qq ch y1 y2 y3 y4 x4 ex4 => ?_)
      refine wp_cap hT hM hsh (mAK := ak) (fun _ => y2) (by rw [X1]; omega) (fun r98 ak s w sn b mo rr o gg f qq ch z1 z2 z3 z4 x6 ex6 => ?_)
      rw [X1, show min (x.toInt - 1) 720 = x.toInt - 1 by omega] at d4 z4
      rw [l_of, show min x.toInt 720 = x.toInt by omega] at y4
      have q1 := d4.one f1
      have q2 := y4.one f2
      have q3 := z4.one f1
      have q4 := cat_bd hT d4
      have q5 := cat_bd hT y4
      have a1 : (eS (i + 1)).toInt * (x.toInt - (eL (i + 1)).toInt) = (eS (i + 1)).toInt * (x.toInt - 1 - (eL (i + 1)).toInt) + (eS (i + 1)).toInt := by
        rw [show x.toInt - (eL (i + 1)).toInt = (x.toInt - 1 - (eL (i + 1)).toInt) + 1 by omega, Int.mul_add, Int.mul_one]
      have E4 : x4 = x5 := by
        rw [l_eq, ex4, l_sub (by omega) (by omega), E5]; omega
      have p3 := mul_bd (a := x.toInt - 1) (b := (eS (i + 1)).toInt) (A := 720) (B := 144000000) (by omega) (by omega) sb.1 sb.2
      have M6 : ((Int32.toInt64 x - 1) * x4).toInt = (x.toInt - 1) * (eS (i + 1)).toInt := by rw [E4, l_mul (by rw [X1, E5]; omega) (by rw [X1, E5]; omega), X1, E5]
      have N6 : ((Int32.toInt64 x - 1) * x4 + r98).toInt = (x.toInt - 1) * (eS (i + 1)).toInt + r98.toInt := by rw [l_add (by rw [M6]; omega) (by rw [M6]; omega), M6]
      have E6 : x6 = x7 := by
        rw [l_eq, E7, ex6, l_sub (by rw [N6]; omega) (by rw [N6]; omega), N6]
        exact within_eq j3 (by rw [q3])
      rw [E4, E6]
      refine gm _ ⟨gz, fun mb emb => ⟨gz, rfl, ?_⟩⟩
      exact ⟨H.fi, H.ri, (by rw [eb, emb]), H.wt, H.bd, ⟨n, a, sh, ⟨hk.bk, hk.hsh, (fun _ => g2), (fun _ => z2), hk.pl, hk.ha, hk.hac, hk.hmu, hk.ul⟩⟩, H.hk, H.ui, (by omega)⟩
    · have ik : i = k - 1 := (nI_eq (a := i) (b := k - 1) (by omega) (by omega)).mp z
      have li := w6 i (by omega)
      refine ref (fun x ak s w sn b mo rr o gg f qq ch c1 c2 c3 h1 h2 h3 h4 => ?_)
      have xs : x.toInt = sh := by
        rcases Int.lt_or_le sh x.toInt with y | y
        · obtain ⟨u, hu1, hu2⟩ := h4 y
          have := cat_mono (show (eL i).toInt ≤ x.toInt - 1 by omega) cLi hu1
          omega
        · omega
      refine ⟨fun y => absurd (i_eq.mpr (by rw [xs, c3])) y, fun y mb emb => ⟨by rw [show eL i = x from i_eq.mpr (by rw [li, xs])], ?_⟩⟩
      exact ⟨H.fi, H.ri, (by rw [eb, emb]; rfl), H.wt, H.bd, ⟨n, a, sh, ⟨hk.bk, hk.hsh, (fun _ => g2), (fun _ => c2), hk.pl, hk.ha, hk.hac, hk.hmu, hk.ul⟩⟩, H.hk, H.ui, (by omega)⟩
  · refine wp_kn hT hM hsh hk.hK (fun ak s w sn b mo rr o gg f qq ch c1 c2 c3 => ?_)
    have e720 : (720 : Int64).toInt = 720 := rfl
    refine wp_cap hT hM hsh (mAK := ak) (fun _ => c2) (by rw [e720]; omega) (fun r13 ak s w sn b mo rr o gg f qq ch d1 d2 d3 d4 => ?_)
    rw [e720, show min (720 : Int) 720 = 720 by omega] at d4
    rw [cmp_le0]
    refine ⟨fun z => absurd (by rw [← d4.one c720]; exact z) q, fun _ => ⟨fun z => absurd z (by decide), fun _ m em => ⟨rfl, ?_⟩⟩⟩
    exact ⟨(by rw [eb, em, H.fi]), H.ri, H.be, H.wt, H.bd, ⟨n, a, sh, ⟨hk.bk, hk.hsh, (fun _ => g2), (fun _ => d2), hk.pl, hk.ha, hk.hac, hk.hmu, hk.ul⟩⟩, H.hk, H.ui, (by omega)⟩
