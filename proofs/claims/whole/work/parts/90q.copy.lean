/-! steps: copy -/
section STEPQQ
variable {mRo : Nat → Int64}
theorem cp1 {k p m : Nat} (hk : k < 4) (hp : p + m ≤ 24) {X : (Nat → Int64) → Prop} (hX : ∀ sp : Nat → Int64, (∀ i, i < m → sp i = mRo (24 * k + p + i)) → X sp) : ∀ (j i : Nat) (sp : Nat → Int64), i + j = m → (∀ u, u < i → sp u = mRo (24 * k + p + u)) → wp_X9_copy_L125 (nI k) (nI p) (nI m) mRo X (j + 1) (nI i) sp := by
  intro j
  induction j with
  | zero =>
    intro i sp hi h
    rw [wp_X9_copy_L125]
    rw [show i = m by omega] at h ⊢
    exact pk_le m m (fun _ => hX sp h) (fun q => absurd q (by omega))
  | succ j ih =>
    intro i sp hi h
    rw [wp_X9_copy_L125]
    refine pk_le m i (fun q => absurd q (by omega)) (fun q => ?_)
    rw [ix24, nI_add, cl_nI (by omega), cl_nI (by omega)]
    refine ⟨pk_in (24 * k + p + i) 96 (by omega), pk_in i 24 (by omega), fun g eg y ey => ?_⟩
    rw [ey, nI_1]
    refine ih (i + 1) g (by omega) (fun u hu => ?_)
    rw [eg]
    by_cases z : u = i
    · rw [z, updL_at]
    · rw [updL_ne z]; exact h u (by omega)
theorem cp2 {c q m : Nat} (hc : c < 4) (hq : q + m ≤ 24) {sp : Nat → Int64} {X : (Nat → Int64) → Prop} (hX : ∀ f : Nat → Int64, (∀ u, u < m → f (24 * c + q + u) = sp u) → (∀ x, (x < 24 * c + q ∨ 24 * c + q + m ≤ x) → f x = mRo x) → X f) : ∀ (j i : Nat) (f : Nat → Int64), i + j = m → (∀ u, u < i → f (24 * c + q + u) = sp u) → (∀ x, (x < 24 * c + q ∨ 24 * c + q + i ≤ x) → f x = mRo x) → wp_X9_copy_L162 (nI c) (nI q) (nI m) sp X (j + 1) (nI i) f := by
  intro j
  induction j with
  | zero =>
    intro i f hi h h2
    rw [wp_X9_copy_L162]
    rw [show i = m by omega] at h h2 ⊢
    exact pk_le m m (fun _ => hX f h h2) (fun q => absurd q (by omega))
  | succ j ih =>
    intro i f hi h h2
    rw [wp_X9_copy_L162]
    refine pk_le m i (fun q => absurd q (by omega)) (fun z => ?_)
    rw [ix24, nI_add, cl_nI (by omega), cl_nI (by omega)]
    refine ⟨pk_in i 24 (by omega), pk_in (24 * c + q + i) 96 (by omega), fun g eg y ey => ?_⟩
    rw [ey, nI_1]
    refine ih (i + 1) g (by omega) (fun u hu => ?_) (fun x hx => ?_)
    · rw [eg]
      by_cases z : u = i
      · rw [z, updL_at]
      · rw [updL_ne (by omega)]; exact h u (by omega)
    · rw [eg, updL_ne (by omega)]; exact h2 x (by omega)
end STEPQQ
theorem step_2 : STEP_2 RelS := by
  intro bHK bHP bPF bWC bRi bBe bFi bWa dB dS dN tC tKi tEa tHa tPr tEx tSt tTo tBe kC kKi kEa kHa kPr kEx kSt kTo kBe aC aWh aTa aWa iRo iEa iLa cC nC nFo nQd nRo nBe nEa nMi nHa nER nMR nTh nPa nOu nFr nQu eM eL eC eS eB eE eF eG pT pK pN pF pS qT qK qN qF qS mKe mUn mFi mRi mBe mWc mAK mSh mIP mUS mWa mWi mSi mRo mSp mRw mSn mBg mLa mMo mRm mOw mGo mFr mQu mCh mPB mPS mFs ub uT uK uN uF uS H v0 v1 v2 v3 v4
  have e0 : (0 : Int32).toInt = 0 := rfl
  refine wp_bd7 (fun k hk ek => ⟨fun z => absurd z (by decide), fun _ => wp_bd7 (fun c hc ec => ⟨fun _ => ⟨by rw [ek]; exact pk_in k 4 hk, by rw [ec]; exact pk_in c 4 hc, ?_⟩, fun z => absurd z (by decide)⟩) (fun y => ⟨fun z => absurd rfl z, fun _ b eb => wp_bd9 (fun u hu eu => ⟨fun z => absurd z (by decide), fun _ => wp_bd9 (fun k hk ek => absurd (nI_b hk ek) y) (fun _ => ⟨fun z => absurd rfl z, fun _ => ⟨fun z => absurd z (by decide), fun _ m em => ⟨rfl, ⟨(by rw [eb, em, H.fi]), H.ri, H.be, H.wt, H.bd, H.tk, H.hk, H.ui, H.m7⟩⟩⟩⟩)⟩) (fun y => absurd (nI_b hk ek) y)⟩)⟩) (fun y => ⟨fun _ b eb => wp_bd9 (fun k hk ek => absurd (nI_b hk ek) y) (fun _ => ⟨fun _ => ⟨fun z => absurd z (by decide), fun _ m em => ⟨rfl, ⟨(by rw [eb, em, H.fi]), H.ri, H.be, H.wt, H.bd, H.tk, H.hk, H.ui, H.m7⟩⟩⟩, fun z => absurd rfl z⟩), fun z => absurd rfl z⟩)
  subst ek
  subst ec
  rw [cl_nI (k := k) (by omega), cl_nI (k := c) (by omega)]
  obtain ⟨a1, a2, a3, a4, a5, a6⟩ := H.bd k hk
  obtain ⟨c1, c2, c3, c4, c5, c6⟩ := H.bd c hc
  have r1 := i_rng v1
  have r3 := i_rng v3
  have r4 := i_rng v4
  have L1 : (Int32.toInt64 v1 + Int32.toInt64 v4).toInt = v1.toInt + v4.toInt := by rw [l_add (by rw [l_of, l_of]; omega) (by rw [l_of, l_of]; omega), l_of, l_of]
  have L3 : (Int32.toInt64 v3 + Int32.toInt64 v4).toInt = v3.toInt + v4.toInt := by rw [l_add (by rw [l_of, l_of]; omega) (by rw [l_of, l_of]; omega), l_of, l_of]
  have ref : ∀ {Q : Int32 → Int32 → (Nat → Int64) → (Nat → Int64) → Prop}, ((dB k = 0 ∨ dB c = 0) → ∀ m, m = mFi + 1 → Q (-2) m mRo mSp) → (¬ dB k = 0 → ¬ dB c = 0 → ¬ dB k = dB c → ∀ m, m = mFi + 1 → Q (-4) m mRo mSp) → (¬ dB k = 0 → ¬ dB c = 0 → dB k = dB c → ¬ (0 ≤ v1.toInt ∧ 0 ≤ v3.toInt ∧ 0 ≤ v4.toInt ∧ v1.toInt + v4.toInt ≤ (dS k).toInt ∧ v3.toInt + v4.toInt ≤ (dS c).toInt) → ∀ m, m = mFi + 1 → Q (-1) m mRo mSp) → (¬ dB k = 0 → ¬ dB c = 0 → dB k = dB c → (0 ≤ v1.toInt ∧ 0 ≤ v3.toInt ∧ 0 ≤ v4.toInt ∧ v1.toInt + v4.toInt ≤ (dS k).toInt ∧ v3.toInt + v4.toInt ≤ (dS c).toInt) → (∃ n125 : Nat, wp_X9_copy_L125 (nI k) v1 v4 mRo (fun mSp_30 => (∃ n162 : Nat, wp_X9_copy_L162 (nI c) v3 v4 mSp_30 (fun mRo_38 => Q v4 mFi mRo_38 mSp_30) n162 0 mRo)) n125 0 mSp)) → wp_X9_copy mFi mWi mSi mRo mSp (nI k) v1 (nI c) v3 v4 Q := fun {Q} hm hkd hb hg => wp_bd9 (fun u hu eu => ⟨fun z => absurd z (by decide), fun _ => wp_bd9 (fun w hw ew => ⟨fun _ => ⟨pk_in k 4 hk, by
    rw [cl_nI (k := k) (by omega), cl_nI (k := c) (by omega), ← a1, ← c1, ← a2, ← c2, cmp_gt0, cmp_le0, L1, L3, l_of, l_of, i_lt (a := v1), i_lt (a := v3), i_lt (a := v4), e0]
    exact ⟨fun z => ⟨fun z => absurd z (by decide), fun _ m em => hm (Or.inl z) m em⟩, fun nk => ⟨pk_in c 4 hc, fun nc => ⟨pk_in k 4 hk, pk_in c 4 hc, fun eq => ⟨fun y => ⟨fun z => absurd z (by decide), fun _ m em => hb nk nc eq (fun C => by omega) m em⟩, fun y1 => ⟨fun y => ⟨fun z => absurd z (by decide), fun _ m em => hb nk nc eq (fun C => by omega) m em⟩, fun y2 => ⟨fun y => ⟨fun z => absurd z (by decide), fun _ m em => hb nk nc eq (fun C => by omega) m em⟩, fun y3 => ⟨pk_in k 4 hk, fun y => ⟨fun z => absurd z (by decide), fun _ m em => hb nk nc eq (fun C => by omega) m em⟩, fun y4 => ⟨pk_in c 4 hc, fun y5 => hg nk nc eq ⟨by omega, by omega, by omega, by omega, by omega⟩, fun y => ⟨fun z => absurd z (by decide), fun _ m em => hb nk nc eq (fun C => by omega) m em⟩⟩⟩⟩⟩⟩, fun ne => ⟨fun z => absurd z (by decide), fun _ m em => hkd nk nc ne m em⟩⟩, fun z => ⟨fun z => absurd z (by decide), fun _ m em => hm (Or.inr z) m em⟩⟩⟩⟩, fun z => absurd z (by decide)⟩) (fun y => absurd (nI_b hc rfl) y)⟩) (fun y => absurd (nI_b hk rfl) y)
  refine ⟨fun nk => ⟨fun z => absurd rfl z, fun _ => ⟨fun nc => ⟨fun _ => ⟨fun eq => wp_has2 ⟨a4, a5⟩ (fun p1 p2 p3 => ⟨fun z => absurd z (by decide), fun _ => wp_has2 ⟨c4, c5⟩ (fun q1 q2 q3 => ⟨fun _ => ?_, fun z => absurd z (by decide)⟩) (fun y => ⟨fun z => absurd rfl z, fun _ b eb => ref (fun h => by rcases h with h | h; exact absurd h nk; exact absurd h nc) (fun _ _ h => absurd eq h) (fun _ _ _ _ m em => ⟨rfl, ⟨(by rw [eb, em, H.fi]), H.ri, H.be, H.wt, H.bd, H.tk, H.hk, H.ui, H.m7⟩⟩) (fun _ _ _ C => absurd ⟨C.2.1, C.2.2.1, C.2.2.2.2⟩ y)⟩)⟩) (fun y => ⟨fun _ b eb => ref (fun h => by rcases h with h | h; exact absurd h nk; exact absurd h nc) (fun _ _ h => absurd eq h) (fun _ _ _ _ m em => ⟨rfl, ⟨(by rw [eb, em, H.fi]), H.ri, H.be, H.wt, H.bd, H.tk, H.hk, H.ui, H.m7⟩⟩) (fun _ _ _ C => absurd ⟨C.1, C.2.2.1, C.2.2.2.1⟩ y), fun z => absurd rfl z⟩), fun ne b eb => ref (fun h => by rcases h with h | h; exact absurd h nk; exact absurd h nc) (fun _ _ _ m em => ⟨rfl, ⟨(by rw [eb, em, H.fi]), H.ri, H.be, H.wt, H.bd, H.tk, H.hk, H.ui, H.m7⟩⟩) (fun _ _ h => absurd h ne) (fun _ _ h => absurd h ne)⟩, fun z => absurd rfl z⟩, fun zc => ⟨fun z => absurd z (by decide), fun _ b eb => ref (fun _ m em => ⟨rfl, ⟨(by rw [eb, em, H.fi]), H.ri, H.be, H.wt, H.bd, H.tk, H.hk, H.ui, H.m7⟩⟩) (fun _ h => absurd zc h) (fun _ h => absurd zc h) (fun _ h => absurd zc h)⟩⟩⟩, fun zk => ⟨fun _ b eb => ref (fun _ m em => ⟨rfl, ⟨(by rw [eb, em, H.fi]), H.ri, H.be, H.wt, H.bd, H.tk, H.hk, H.ui, H.m7⟩⟩) (fun h => absurd zk h) (fun h => absurd zk h) (fun h => absurd zk h), fun z => absurd z (by decide)⟩⟩
  obtain ⟨p, hp, ep⟩ : ∃ p : Nat, (p : Int) = v1.toInt ∧ v1 = nI p := ⟨v1.toInt.toNat, by omega, of_toInt (by omega)⟩
  obtain ⟨q, hq, eq'⟩ : ∃ q : Nat, (q : Int) = v3.toInt ∧ v3 = nI q := ⟨v3.toInt.toNat, by omega, of_toInt (by omega)⟩
  obtain ⟨m, hm, em⟩ : ∃ m : Nat, (m : Int) = v4.toInt ∧ v4 = nI m := ⟨v4.toInt.toNat, by omega, of_toInt (by omega)⟩
  rw [i_lt, i_lt, i_lt, e0]
  refine ⟨by omega, by omega, by omega, by rw [ep, em, cl_nI (by omega), cl_nI (by omega)]; omega, by rw [eq', em, cl_nI (by omega), cl_nI (by omega)]; omega, fun f ef => ref (fun h => by rcases h with h | h; exact absurd h nk; exact absurd h nc) (fun _ _ h => absurd eq h) (fun _ _ _ h => absurd ⟨p1, q1, p2, p3, q3⟩ h) (fun _ _ _ _ => ?_)⟩
  rw [ep, eq', em, cl_nI (by omega), cl_nI (by omega), cl_nI (by omega)] at ef
  rw [ep, eq', em]
  refine ⟨_, cp1 hk (by omega) (fun sp hsp => ⟨_, cp2 hc (by omega) (fun g g1 g2 => ⟨rfl, ?_⟩) m 0 mRo (by omega) (fun u hu => absurd hu (by omega)) (fun _ _ => rfl)⟩) m 0 mSp (by omega) (fun u hu => absurd hu (by omega))⟩
  have e : RelB dB dS (va_up dN c f) mWi mSi g := by
    refine H.bd.put (fun i hi => ?_) (fun j hj hjk i hi => g2 _ (by omega))
    rw [ef]
    unfold va_cpy
    by_cases z : q ≤ i ∧ i < q + m
    · rw [if_pos z, a6 _ (by omega)]
      have h1 := g1 (i - q) (by omega)
      rw [show 24 * c + q + (i - q) = 24 * c + i by omega, hsp (i - q) (by omega), show 24 * k + p + (i - q) = 24 * k + (p + (i - q)) by omega] at h1
      exact h1.symm
    · rw [if_neg z, g2 _ (by omega)]; exact c6 i hi
  exact ⟨H.fi, H.ri, H.be, H.wt, e, H.tk, H.hk, H.ui, H.m7⟩
