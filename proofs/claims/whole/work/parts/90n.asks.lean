/-! steps: asking of tasks, and moments -/
section STEPN
variable {n : Nat} {tKi tEa tHa tPr tEx tSt tBe : Nat → Int32} {pT : Int32} {pK pN pF : Nat → Int32} {sh : Int} {bFi mFi mAK mSh : Int32} {mCh : Nat → Int64} {mRw mSn mBg mMo : Nat → Int32} {mRm mOw : Nat → Int64} {mGo mFr mQu : Nat → Int32} {iRo iEa : Nat → Int32} {cC nC nFo nQd : Int32} {nRo nBe nEa nMi nHa nER nMR nTh nPa nOu nFr nQu : Nat → Int32} {eM : Nat} {eL : Nat → Int32} {eC eS : Nat → Int64} {eB eE eF eG : Nat → Nat → Int32}
theorem wp_in1 (hn : n ≤ 12) {v : Int32} {Q : Int32 → Prop} (h1 : ∀ t, t < n → v = nI t → Q 1) (h0 : ¬ (0 ≤ v.toInt ∧ v.toInt < n) → Q 0) : wp_X9_in (Int32.toInt64 v) 0 (Int32.toInt64 (nI n - 1)) Q := by
  have e0 : (0 : Int64).toInt = 0 := rfl
  have e1 : (1 : Int32).toInt = 1 := rfl
  have e2 : (nI n - 1).toInt = (n : Int) - 1 := by rw [i_sub (by rw [nI_toInt (by omega), e1]; omega) (by rw [nI_toInt (by omega), e1]; omega), nI_toInt (by omega), e1]
  refine wp_in (fun q => ?_) (fun q => h0 ?_)
  · rw [l_of, l_of, e0, e2] at q
    exact h1 v.toInt.toNat (by omega) (of_toInt (by omega))
  · rw [l_of, l_of, e0, e2] at q
    omega
theorem wp_und {k : Nat} (hk : k < 5) {o : Int32} {Q : Int32 → Prop} (h : Q (jUnder (nI k) o)) : wp_X7_isUnder (nI k) o Q := by
  have z0 : ∀ m j, j < 5 → Q 0 → wp_X7_isUnder_L4 Q o (Q 0) (m + 1) (-1) (nI j) := fun m j hj h => by
    rw [wp_X7_isUnder_L4]
    refine ⟨fun _ => h, fun _ => ⟨fun _ => ⟨fun _ => h, fun z => absurd rfl z⟩, fun z => absurd (by decide) z⟩⟩
  have st : ∀ m j k, k < 5 → j < 5 → (nI k = o → Q 1) → (¬ nI k = o → wp_X7_isUnder_L4 Q o (Q 0) m (am_under k) (nI (j + 1))) → wp_X7_isUnder_L4 Q o (Q 0) (m + 1) (nI k) (nI j) := fun m j k hk hj h1 h2 => by
    have e0 : (0 : Int32).toInt = 0 := rfl
    have e5 : (5 : Int32).toInt = 5 := rfl
    rw [wp_X7_isUnder_L4, i_le, e5, nI_toInt (show j < 2 ^ 31 by omega)]
    refine ⟨fun z => absurd z (by omega), fun _ => ?_⟩
    unfold wp_X7_isKind
    rw [i_lt, i_le, e0, e5, nI_toInt (show k < 2 ^ 31 by omega), cl_nI (by omega)]
    refine ⟨fun z => absurd z (by omega), fun _ => ⟨fun z => absurd z (by omega), fun _ => ⟨fun z => absurd z (by decide), fun _ => ⟨fun z => ⟨pk_in k 5 hk, fun x ex y ey => ?_⟩, h1⟩⟩⟩⟩
    rw [ex, ey, nI_1]
    exact h2 z
  have g0 : ∀ m j, j < 4 → ((nI 0 = o → Q 1) ∧ (¬ nI 0 = o → Q 0)) → wp_X7_isUnder_L4 Q o (Q 0) (m + 1 + 1) (nI 0) (nI j) := fun m j hj h => st (m + 1) j 0 (by omega) (by omega) h.1 (fun e => z0 m (j + 1) (by omega) (h.2 e))
  have J : ∀ k, jUnder (nI k) o = if nI k = o then 1 else if nI k ≤ 0 then 0 else if nI k = 3 then (if (1 : Int32) = o then 1 else if (0 : Int32) = o then 1 else 0) else (if (0 : Int32) = o then 1 else 0) := fun k => rfl
  rw [J] at h
  have two : ∀ k, k < 5 → ¬ nI k ≤ 0 → ¬ nI k = 3 → am_under k = nI 0 → Q (if nI k = o then 1 else if nI k ≤ 0 then 0 else if nI k = 3 then (if (1 : Int32) = o then 1 else if (0 : Int32) = o then 1 else 0) else (if (0 : Int32) = o then 1 else 0)) → wp_X7_isUnder (nI k) o Q := fun k hk a1 a2 a3 h => by
    refine ⟨3, ?_⟩
    have key := st 2 0 k hk (by omega) (fun e => by rw [if_pos e] at h; exact h) (fun e => by
      rw [if_neg e, if_neg a1, if_neg a2] at h
      rw [a3]
      exact g0 0 1 (by omega) ⟨fun e2 => by rw [if_pos (show (0 : Int32) = o from e2)] at h; exact h, fun e2 => by rw [if_neg (show ¬ (0 : Int32) = o from e2)] at h; exact h⟩)
    rw [nI_0] at key
    exact key
  match k, hk, h with
  | 0, _, h =>
    refine ⟨2, ?_⟩
    have key := g0 0 0 (by omega) ⟨fun e => by rw [if_pos e] at h; exact h, fun e => by rw [if_neg e, if_pos (by decide)] at h; exact h⟩
    exact key
  | 1, _, h => exact two 1 (by omega) (by decide) (by decide) rfl h
  | 2, _, h => exact two 2 (by omega) (by decide) (by decide) rfl h
  | 4, _, h => exact two 4 (by omega) (by decide) (by decide) rfl h
  | 3, _, h =>
    refine ⟨4, ?_⟩
    have key := st 3 0 3 (by omega) (by omega) (fun e => by rw [if_pos e] at h; exact h) (fun e => by
      rw [if_neg e, if_neg (by decide), if_pos (by decide)] at h
      exact st 2 1 1 (by omega) (by omega) (fun e2 => by rw [if_pos (show (1 : Int32) = o from e2)] at h; exact h) (fun e2 => by
        rw [if_neg (show ¬ (1 : Int32) = o from e2)] at h
        exact g0 0 2 (by omega) ⟨fun e3 => by rw [if_pos (show (0 : Int32) = o from e3)] at h; exact h, fun e3 => by rw [if_neg (show ¬ (0 : Int32) = o from e3)] at h; exact h⟩))
    rw [nI_0] at key
    exact key
end STEPN
theorem step_6 : STEP_6 RelS := by
  intro bHK bHP bPF bWC bRi bBe bFi bWa dB dS dN tC tKi tEa tHa tPr tEx tSt tTo tBe kC kKi kEa kHa kPr kEx kSt kTo kBe aC aWh aTa aWa iRo iEa iLa cC nC nFo nQd nRo nBe nEa nMi nHa nER nMR nTh nPa nOu nFr nQu eM eL eC eS eB eE eF eG pT pK pN pF pS qT qK qN qF qS mKe mUn mFi mRi mBe mWc mAK mSh mIP mUS mWa mWi mSi mRo mSp mRw mSn mBg mLa mMo mRm mOw mGo mFr mQu mCh mPB mPS mFs ub uT uK uN uF uS H v0 v1
  obtain ⟨n, a, sh, hk⟩ := H.tk
  have hT := hk.bk.1
  obtain rfl := hT.1
  have hM := hk.bk.2.1
  obtain rfl := hM.1
  have hn := hT.2.1
  have e0 : (0 : Int32).toInt = 0 := rfl
  have e5 : (5 : Int32).toInt = 5 := rfl
  have f0 : (0 : Int64).toInt = 0 := rfl
  have f4 : (4 : Int64).toInt = 4 := rfl
  refine wp_has5 hn (fun t ht et => ⟨fun z => absurd z (by decide), fun _ => ?_⟩) (fun y => ⟨fun _ b eb => wp_ist hn (fun t ht et => absurd (nI_ne hn ht et) y) (fun _ => ⟨fun _ => ⟨fun z => absurd z (by decide), fun _ m em => ⟨rfl, ⟨(by rw [eb, em, H.fi]), H.ri, H.be, H.wt, H.bd, H.tk, H.hk, H.ui, H.m7⟩⟩⟩, fun z => absurd rfl z⟩), fun z => absurd rfl z⟩)
  subst et
  have m := (hM.2.1 t ht).1
  have bad : ¬ (0 ≤ v1.toInt ∧ v1.toInt ≤ 4) → ∀ b : Int32, b = bFi + 1 → wp_X9_as (nI n) pK mFi (nI t) v1 (fun r2 mFi_n => -1 = r2 ∧ RelS bHK bHP bPF bWC bRi bBe b bWa dB dS dN (nI n) tKi tEa tHa tPr tEx tSt tTo tBe kC kKi kEa kHa kPr kEx kSt kTo kBe aC aWh aTa aWa iRo iEa iLa cC nC nFo nQd nRo nBe nEa nMi nHa nER nMR nTh nPa nOu nFr nQu eM eL eC eS eB eE eF eG (nI n) pK pN pF pS qT qK qN qF qS mKe mUn mFi_n mRi mBe mWc mAK mSh mIP mUS mWa mWi mSi mRo mSp mRw mSn mBg mLa mMo mRm mOw mGo mFr mQu mCh mPB mPS mFs ub uT uK uN uF uS) := fun y b eb => wp_ist hn (fun u hu eu => ⟨fun z => absurd z (by decide), fun _ => wp_in (fun z => absurd (by rw [l_of, f0, f4] at z; exact z) y) (fun _ => ⟨fun z => absurd rfl z, fun _ => ⟨fun z => absurd z (by decide), fun _ m em => ⟨rfl, ⟨(by rw [eb, em, H.fi]), H.ri, H.be, H.wt, H.bd, H.tk, H.hk, H.ui, H.m7⟩⟩⟩⟩)⟩) (fun y => absurd (nI_ne hn ht rfl) y)
  unfold wp_X7_isKind
  rw [i_lt, i_le, e0, e5]
  refine ⟨fun y => ⟨fun z => absurd rfl z, fun _ b eb => bad (by omega) b eb⟩, fun y1 => ⟨fun y => ⟨fun z => absurd rfl z, fun _ b eb => bad (by omega) b eb⟩, fun y2 => ⟨fun _ => ⟨pk_in t 12 (by omega), ?_⟩, fun z => absurd z (by decide)⟩⟩⟩
  rw [cl_nI (by omega)]
  obtain ⟨n1, n2, _⟩ := hT.2.2.1 t ht
  obtain ⟨k, hk5, ek⟩ : ∃ k : Nat, k < 5 ∧ tKi t = nI k := ⟨(tKi t).toInt.toNat, by omega, of_toInt (by omega)⟩
  have ref : ∀ {Q : Int32 → Int32 → Prop}, ((jUnder (nI k) v1 = 0 → wp_X9_found mFi (-4) (fun r_10 mFi_11 => Q r_10 mFi_11)) ∧ (¬ jUnder (nI k) v1 = 0 → Q (nI t) mFi)) → wp_X9_as (nI n) pK mFi (nI t) v1 Q := fun {Q} h => wp_ist hn (fun u hu eu => ⟨fun z => absurd z (by decide), fun _ => wp_in (fun _ => ⟨fun _ => ⟨pk_in t 12 (by omega), by rw [cl_nI (by omega), m, ek]; exact h⟩, fun z => absurd z (by decide)⟩) (fun z => absurd (by rw [l_of, f0, f4]; omega) z)⟩) (fun y => absurd (nI_ne hn ht rfl) y)
  rw [ek]
  refine wp_und hk5 ⟨fun z b eb => ref ⟨fun _ => ⟨fun z => absurd z (by decide), fun _ m em => ⟨rfl, ⟨(by rw [eb, em, H.fi]), H.ri, H.be, H.wt, H.bd, H.tk, H.hk, H.ui, H.m7⟩⟩⟩, fun z2 => absurd z z2⟩, fun z => ref ⟨fun z2 => absurd z2 z, fun _ => ⟨rfl, H⟩⟩⟩
theorem step_7 : STEP_7 RelS := by
  intro bHK bHP bPF bWC bRi bBe bFi bWa dB dS dN tC tKi tEa tHa tPr tEx tSt tTo tBe kC kKi kEa kHa kPr kEx kSt kTo kBe aC aWh aTa aWa iRo iEa iLa cC nC nFo nQd nRo nBe nEa nMi nHa nER nMR nTh nPa nOu nFr nQu eM eL eC eS eB eE eF eG pT pK pN pF pS qT qK qN qF qS mKe mUn mFi mRi mBe mWc mAK mSh mIP mUS mWa mWi mSi mRo mSp mRw mSn mBg mLa mMo mRm mOw mGo mFr mQu mCh mPB mPS mFs ub uT uK uN uF uS H v0 v1
  obtain ⟨n, a, sh, hk⟩ := H.tk
  have hT := hk.bk.1
  obtain rfl := hT.1
  have hM := hk.bk.2.1
  obtain rfl := hM.1
  have hn := hT.2.1
  have f0 : (0 : Int64).toInt = 0 := rfl
  have f5 : (5 : Int64).toInt = 5 := rfl
  by_cases z0 : v1 = 0
  · subst z0
    refine wp_has5 hn (fun t ht et => ⟨fun _ => ?_, fun z => absurd z (by decide)⟩) (fun y => ⟨fun z => absurd rfl z, fun _ b eb => wp_ist hn (fun t ht et => absurd (nI_ne hn ht et) y) (fun y => ⟨fun _ => ⟨fun z => absurd z (by decide), fun _ m em => ⟨rfl, ⟨(by rw [eb, em, H.fi]), H.ri, H.be, H.wt, H.bd, H.tk, H.hk, H.ui, H.m7⟩⟩⟩, fun z => absurd rfl z⟩)⟩)
    subst et
    have m := hM.2.1 t ht
    refine ⟨fun _ => ⟨pk_in t 12 (by omega), ?_⟩, fun z => absurd rfl z⟩
    rw [cl_nI (by omega)]
    refine wp_ist hn (fun u hu eu => ⟨fun z => absurd z (by decide), fun _ => wp_in (fun _ => ⟨fun _ => ⟨fun z => absurd rfl z, fun _ => ⟨pk_in t 12 (by omega), by rw [cl_nI (by omega)]; exact m.1.symm, H⟩⟩, fun z => absurd z (by decide)⟩) (fun z => absurd (by decide) z)⟩) (fun y => absurd (nI_ne hn ht rfl) y)
  by_cases z1 : v1 = 1
  · subst z1
    refine wp_has5 hn (fun t ht et => ⟨fun _ => ?_, fun z => absurd z (by decide)⟩) (fun y => ⟨fun z => absurd rfl z, fun _ b eb => wp_ist hn (fun t ht et => absurd (nI_ne hn ht et) y) (fun y => ⟨fun _ => ⟨fun z => absurd z (by decide), fun _ m em => ⟨rfl, ⟨(by rw [eb, em, H.fi]), H.ri, H.be, H.wt, H.bd, H.tk, H.hk, H.ui, H.m7⟩⟩⟩, fun z => absurd rfl z⟩)⟩)
    subst et
    have m := hM.2.1 t ht
    refine ⟨fun z => absurd z (by decide), fun _ => ⟨fun _ => ⟨pk_in t 12 (by omega), ?_⟩, fun z => absurd rfl z⟩⟩
    rw [cl_nI (by omega)]
    refine wp_ist hn (fun u hu eu => ⟨fun z => absurd z (by decide), fun _ => wp_in (fun _ => ⟨fun _ => ⟨fun _ => wp_num (k := 0) (by omega) (by omega) ⟨m.2.1.symm, H⟩, fun z => absurd z (by decide)⟩, fun z => absurd z (by decide)⟩) (fun z => absurd (by decide) z)⟩) (fun y => absurd (nI_ne hn ht rfl) y)
  by_cases z2 : v1 = 2
  · subst z2
    refine wp_has5 hn (fun t ht et => ⟨fun _ => ?_, fun z => absurd z (by decide)⟩) (fun y => ⟨fun z => absurd rfl z, fun _ b eb => wp_ist hn (fun t ht et => absurd (nI_ne hn ht et) y) (fun y => ⟨fun _ => ⟨fun z => absurd z (by decide), fun _ m em => ⟨rfl, ⟨(by rw [eb, em, H.fi]), H.ri, H.be, H.wt, H.bd, H.tk, H.hk, H.ui, H.m7⟩⟩⟩, fun z => absurd rfl z⟩)⟩)
    subst et
    have m := hM.2.1 t ht
    refine ⟨fun z => absurd z (by decide), fun _ => ⟨fun z => absurd z (by decide), fun _ => ⟨fun _ => ⟨pk_in t 12 (by omega), ?_⟩, fun z => absurd rfl z⟩⟩⟩
    rw [cl_nI (by omega)]
    refine wp_ist hn (fun u hu eu => ⟨fun z => absurd z (by decide), fun _ => wp_in (fun _ => ⟨fun _ => ⟨fun _ => wp_num (k := 1) (by omega) (by omega) ⟨m.2.2.1.symm, H⟩, fun z => absurd z (by decide)⟩, fun z => absurd z (by decide)⟩) (fun z => absurd (by decide) z)⟩) (fun y => absurd (nI_ne hn ht rfl) y)
  by_cases z3 : v1 = 3
  · subst z3
    refine wp_has5 hn (fun t ht et => ⟨fun _ => ?_, fun z => absurd z (by decide)⟩) (fun y => ⟨fun z => absurd rfl z, fun _ b eb => wp_ist hn (fun t ht et => absurd (nI_ne hn ht et) y) (fun y => ⟨fun _ => ⟨fun z => absurd z (by decide), fun _ m em => ⟨rfl, ⟨(by rw [eb, em, H.fi]), H.ri, H.be, H.wt, H.bd, H.tk, H.hk, H.ui, H.m7⟩⟩⟩, fun z => absurd rfl z⟩)⟩)
    subst et
    have m := hM.2.1 t ht
    refine ⟨fun z => absurd z (by decide), fun _ => ⟨fun z => absurd z (by decide), fun _ => ⟨fun z => absurd z (by decide), fun _ => ⟨fun _ => ⟨pk_in t 12 (by omega), ?_⟩, fun z => absurd rfl z⟩⟩⟩⟩
    rw [cl_nI (by omega)]
    refine wp_ist hn (fun u hu eu => ⟨fun z => absurd z (by decide), fun _ => wp_in (fun _ => ⟨fun _ => ⟨fun _ => wp_num (k := 2) (by omega) (by omega) ⟨m.2.2.2.1.symm, H⟩, fun z => absurd z (by decide)⟩, fun z => absurd z (by decide)⟩) (fun z => absurd (by decide) z)⟩) (fun y => absurd (nI_ne hn ht rfl) y)
  by_cases z4 : v1 = 4
  · subst z4
    refine wp_has5 hn (fun t ht et => ⟨fun _ => ?_, fun z => absurd z (by decide)⟩) (fun y => ⟨fun z => absurd rfl z, fun _ b eb => wp_ist hn (fun t ht et => absurd (nI_ne hn ht et) y) (fun y => ⟨fun _ => ⟨fun z => absurd z (by decide), fun _ m em => ⟨rfl, ⟨(by rw [eb, em, H.fi]), H.ri, H.be, H.wt, H.bd, H.tk, H.hk, H.ui, H.m7⟩⟩⟩, fun z => absurd rfl z⟩)⟩)
    subst et
    have m := hM.2.1 t ht
    refine ⟨fun z => absurd z (by decide), fun _ => ⟨fun z => absurd z (by decide), fun _ => ⟨fun z => absurd z (by decide), fun _ => ⟨fun z => absurd z (by decide), fun _ => ⟨fun _ => ⟨pk_in t 12 (by omega), ?_⟩, fun z => absurd rfl z⟩⟩⟩⟩⟩
    rw [cl_nI (by omega)]
    refine wp_ist hn (fun u hu eu => ⟨fun z => absurd z (by decide), fun _ => wp_in (fun _ => ⟨fun _ => ⟨fun _ => wp_num (k := 3) (by omega) (by omega) ⟨m.2.2.2.2.1.symm, H⟩, fun z => absurd z (by decide)⟩, fun z => absurd z (by decide)⟩) (fun z => absurd (by decide) z)⟩) (fun y => absurd (nI_ne hn ht rfl) y)
  by_cases z5 : v1 = 5
  · subst z5
    refine wp_has5 hn (fun t ht et => ⟨fun _ => ?_, fun z => absurd z (by decide)⟩) (fun y => ⟨fun z => absurd rfl z, fun _ b eb => wp_ist hn (fun t ht et => absurd (nI_ne hn ht et) y) (fun y => ⟨fun _ => ⟨fun z => absurd z (by decide), fun _ m em => ⟨rfl, ⟨(by rw [eb, em, H.fi]), H.ri, H.be, H.wt, H.bd, H.tk, H.hk, H.ui, H.m7⟩⟩⟩, fun z => absurd rfl z⟩)⟩)
    subst et
    have m := hM.2.1 t ht
    refine ⟨fun z => absurd z (by decide), fun _ => ⟨fun z => absurd z (by decide), fun _ => ⟨fun z => absurd z (by decide), fun _ => ⟨fun z => absurd z (by decide), fun _ => ⟨fun z => absurd z (by decide), fun _ => ⟨fun _ => ⟨pk_in t 12 (by omega), ?_⟩, fun z => absurd rfl z⟩⟩⟩⟩⟩⟩
    rw [cl_nI (by omega)]
    refine wp_ist hn (fun u hu eu => ⟨fun z => absurd z (by decide), fun _ => wp_in (fun _ => ⟨fun _ => ⟨fun _ => wp_num (k := 4) (by omega) (by omega) ⟨m.2.2.2.2.2.symm, H⟩, fun z => absurd z (by decide)⟩, fun z => absurd z (by decide)⟩) (fun z => absurd (by decide) z)⟩) (fun y => absurd (nI_ne hn ht rfl) y)
  have out : ¬ (0 ≤ v1.toInt ∧ v1.toInt ≤ 5) := fun q => by
    have : v1 = nI v1.toInt.toNat := of_toInt (by omega)
    have h6 : v1.toInt.toNat = 0 ∨ v1.toInt.toNat = 1 ∨ v1.toInt.toNat = 2 ∨ v1.toInt.toNat = 3 ∨ v1.toInt.toNat = 4 ∨ v1.toInt.toNat = 5 := by omega
    rcases h6 with h | h | h | h | h | h <;> rw [h] at this
    · exact z0 this
    · exact z1 this
    · exact z2 this
    · exact z3 this
    · exact z4 this
    · exact z5 this
  refine wp_has5 hn (fun t ht et => ⟨fun _ => ⟨fun z => absurd z z0, fun _ => ⟨fun z => absurd z z1, fun _ => ⟨fun z => absurd z z2, fun _ => ⟨fun z => absurd z z3, fun _ => ⟨fun z => absurd z z4, fun _ => ⟨fun z => absurd z z5, fun _ b eb => ?_⟩⟩⟩⟩⟩⟩, fun z => absurd z (by decide)⟩) (fun y => ⟨fun z => absurd rfl z, fun _ b eb => wp_ist hn (fun t ht et => absurd (nI_ne hn ht et) y) (fun y => ⟨fun _ => ⟨fun z => absurd z (by decide), fun _ m em => ⟨rfl, ⟨(by rw [eb, em, H.fi]), H.ri, H.be, H.wt, H.bd, H.tk, H.hk, H.ui, H.m7⟩⟩⟩, fun z => absurd rfl z⟩)⟩)
  subst et
  exact wp_ist hn (fun u hu eu => ⟨fun z => absurd z (by decide), fun _ => wp_in (fun z => absurd (by rw [l_of, f0, f5] at z; exact z) out) (fun _ => ⟨fun z => absurd rfl z, fun _ => ⟨fun z => absurd z (by decide), fun _ m em => ⟨rfl, ⟨(by rw [eb, em, H.fi]), H.ri, H.be, H.wt, H.bd, H.tk, H.hk, H.ui, H.m7⟩⟩⟩⟩)⟩) (fun y => absurd (nI_ne hn ht rfl) y)
theorem step_8 : STEP_8 RelS := by
  intro bHK bHP bPF bWC bRi bBe bFi bWa dB dS dN tC tKi tEa tHa tPr tEx tSt tTo tBe kC kKi kEa kHa kPr kEx kSt kTo kBe aC aWh aTa aWa iRo iEa iLa cC nC nFo nQd nRo nBe nEa nMi nHa nER nMR nTh nPa nOu nFr nQu eM eL eC eS eB eE eF eG pT pK pN pF pS qT qK qN qF qS mKe mUn mFi mRi mBe mWc mAK mSh mIP mUS mWa mWi mSi mRo mSp mRw mSn mBg mLa mMo mRm mOw mGo mFr mQu mCh mPB mPS mFs ub uT uK uN uF uS H v0 v1
  obtain ⟨n, a, sh, hk⟩ := H.tk
  have hT := hk.bk.1
  obtain rfl := hT.1
  have hM := hk.bk.2.1
  obtain rfl := hM.1
  have hn := hT.2.1
  have mf := foMC hM
  refine wp_has5 hn (fun t ht et => ⟨fun z => absurd z (by decide), fun _ => wp_has5 hn (fun o ho eo => ⟨fun _ => ⟨?_, ?_⟩, fun z => absurd z (by decide)⟩) (fun y => ⟨fun z => absurd rfl z, fun _ b eb => wp_ist hn (fun u hu eu => ⟨fun z => absurd z (by decide), fun _ => wp_ist hn (fun t ht et => absurd (nI_ne hn ht et) y) (fun _ => ⟨fun z => absurd rfl z, fun _ => ⟨fun z => absurd z (by decide), fun _ m em => ⟨rfl, ⟨(by rw [eb, em, H.fi]), H.ri, H.be, H.wt, H.bd, H.tk, H.hk, H.ui, H.m7⟩⟩⟩⟩)⟩) (fun y => absurd (nI_ne hn ht et) y)⟩)⟩) (fun y => ⟨fun _ b eb => wp_ist hn (fun t ht et => absurd (nI_ne hn ht et) y) (fun _ => ⟨fun _ => ⟨fun z => absurd z (by decide), fun _ m em => ⟨rfl, ⟨(by rw [eb, em, H.fi]), H.ri, H.be, H.wt, H.bd, H.tk, H.hk, H.ui, H.m7⟩⟩⟩, fun z => absurd rfl z⟩), fun z => absurd rfl z⟩)
  · rw [et]; exact pk_in t 12 (by omega)
  · subst et
    subst eo
    rw [cl_nI (by omega)]
    have pf := hM.2.2.1 t o ht ho
    have ref : ∀ {Q : Int32 → Int32 → Prop}, ((pF (12 * t + o) = 0 → wp_X9_all (nI n) pF (nI t) (fun r_9 => ((¬ ((r_9 >>> (nI o &&& 31)) &&& 1) = 1 → Q 0 mFi) ∧ (((r_9 >>> (nI o &&& 31)) &&& 1) = 1 → Q 2 mFi)))) ∧ (¬ pF (12 * t + o) = 0 → Q 1 mFi)) → wp_X9_follows (nI n) pF mFi (nI t) (nI o) Q := fun {Q} h => wp_ist hn (fun u hu eu => ⟨fun z => absurd z (by decide), fun _ => wp_ist hn (fun w hw ew => ⟨fun _ => ⟨by rw [ix12]; exact pk_in (12 * t + o) 144 (by omega), by rw [ix12, cl_nI (by omega)]; exact h⟩, fun z => absurd z (by decide)⟩) (fun y => absurd (nI_ne hn ho rfl) y)⟩) (fun y => absurd (nI_ne hn ht rfl) y)
    refine wp_bit (by omega) (fun b0 => ?_) (fun b1 => ref ⟨fun z => absurd (pf.mp z) (by rw [b1]; decide), fun _ => ⟨rfl, H⟩⟩)
    refine wp_allB hn hT.2.2.2.1 ht (fun y hy => wp_bit (by omega) (fun c0 => ?_) (fun c1 => ?_))
    · refine ref ⟨fun _ => wp_mall hn ht (fun x hx => ?_), fun z => absurd (pf.mpr b0) z⟩
      rw [b_get1 (by omega)]
      exact ⟨fun _ => ⟨rfl, H⟩, fun z => by rw [hx, mf, ← hy, c0] at z; exact absurd z (by decide)⟩
    · refine ref ⟨fun _ => wp_mall hn ht (fun x hx => ?_), fun z => absurd (pf.mpr b0) z⟩
      rw [b_get1 (by omega)]
      exact ⟨fun z => absurd (by rw [hx, mf, ← hy]; exact c1) z, fun _ => ⟨rfl, H⟩⟩
theorem step_9 : STEP_9 RelS := by
  intro bHK bHP bPF bWC bRi bBe bFi bWa dB dS dN tC tKi tEa tHa tPr tEx tSt tTo tBe kC kKi kEa kHa kPr kEx kSt kTo kBe aC aWh aTa aWa iRo iEa iLa cC nC nFo nQd nRo nBe nEa nMi nHa nER nMR nTh nPa nOu nFr nQu eM eL eC eS eB eE eF eG pT pK pN pF pS qT qK qN qF qS mKe mUn mFi mRi mBe mWc mAK mSh mIP mUS mWa mWi mSi mRo mSp mRw mSn mBg mLa mMo mRm mOw mGo mFr mQu mCh mPB mPS mFs ub uT uK uN uF uS H v0
  obtain ⟨n, a, sh, hk⟩ := H.tk
  have hT := hk.bk.1
  obtain rfl := hT.1
  have hM := hk.bk.2.1
  obtain rfl := hM.1
  have hn := hT.2.1
  have mf := foMC hM
  have acM : Acy (foM n pF) := by rw [mf]; exact hT.2.2.2.2
  refine wp_has5 hn (fun t ht et => ⟨fun _ => wp_arr hn hT.2.2.2.1 hT.2.2.2.2 (fun f' h1 => ⟨by rw [et]; exact pk_in t 12 (by omega), ?_⟩), fun z => absurd z (by decide)⟩) (fun y => ⟨fun z => absurd rfl z, fun _ b eb => wp_in1 hn (fun t ht et => absurd (nI_ne hn ht et) y) (fun _ => ⟨fun z => absurd rfl z, fun _ => ⟨fun z => absurd z (by decide), fun _ m em => ⟨rfl, ⟨(by rw [eb, em, H.fi]), H.ri, H.be, H.wt, H.bd, H.tk, H.hk, H.ui, H.m7⟩⟩⟩⟩)⟩)
  subst et
  refine wp_in1 hn (fun u hu eu => ⟨fun _ => wp_srt hn acM (fun f2 h2 => ⟨pk_in t 12 (by omega), ?_, ⟨H.fi, H.ri, H.be, H.wt, H.bd, H.tk, H.hk, H.ui, H.m7⟩⟩), fun z => absurd z (by decide)⟩) (fun y => absurd (nI_ne hn ht rfl) y)
  rw [mf] at h2
  rw [cl_nI (by omega), h1.1 t ht, h2.1 t ht, h1.2.one h2.2 t ht]
