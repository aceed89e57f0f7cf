/-! steps: hurried -/
section STEPL
variable {n : Nat} {tKi tEa tHa tPr tEx tSt tBe : Nat → Int32} {pT : Int32} {pK pN pF : Nat → Int32} {sh : Int} {bFi mFi mAK mSh : Int32} {mCh : Nat → Int64} {mRw mSn mBg mMo : Nat → Int32} {mRm mOw : Nat → Int64} {mGo mFr mQu : Nat → Int32} {iRo iEa : Nat → Int32} {cC nC nFo nQd : Int32} {nRo nBe nEa nMi nHa nER nMR nTh nPa nOu nFr nQu : Nat → Int32} {eM : Nat} {eL : Nat → Int32} {eC eS : Nat → Int64} {eB eE eF eG : Nat → Nat → Int32}
theorem bt_one {x y : Int32} {A : Nat → Prop} (h1 : ∀ u, bt x u = true ↔ A u) (h2 : ∀ u, bt y u = true ↔ A u) : x = y := b_ext (fun i _ => Bool.eq_iff_iff.mpr ((h1 i).trans (h2 i).symm))
theorem bt_no {x : Int32} {k : Nat} {P : Nat → Prop} (h : ∀ u, bt x u = true ↔ u < k ∧ P u) (hp : ¬ P k) : ∀ u, bt x u = true ↔ u < k + 1 ∧ P u := fun u => by
  rw [h u]
  constructor
  · rintro ⟨a, b⟩; exact ⟨by omega, b⟩
  · rintro ⟨a, b⟩
    refine ⟨?_, b⟩
    rcases Nat.lt_or_ge u k with z | z
    · exact z
    · rw [show u = k by omega] at b; exact absurd b hp
theorem bt_ye {x : Int32} {k : Nat} {P : Nat → Prop} (hk : k < 32) (h : ∀ u, bt x u = true ↔ u < k ∧ P u) (hp : P k) : ∀ u, bt (x ||| (1 <<< (nI k &&& 31))) u = true ↔ u < k + 1 ∧ P u := fun u => by
  rw [b_set hk, Bool.or_eq_true, h u, decide_eq_true_iff]
  constructor
  · rintro (⟨a, b⟩ | a)
    · exact ⟨by omega, b⟩
    · rw [a]; exact ⟨by omega, hp⟩
  · rintro ⟨a, b⟩
    rcases Nat.lt_or_ge u k with z | z
    · exact Or.inl ⟨z, b⟩
    · exact Or.inr (by omega)
theorem or_0 (x : Int32) : x ||| 0 = x := b_ext (fun i _ => by rw [b_or, b_0]; simp)
theorem bt_0 {P : Nat → Prop} : ∀ u, bt 0 u = true ↔ u < 0 ∧ P u := fun u => by
  rw [b_0]
  exact ⟨fun h => absurd h (by decide), fun h => absurd h.1 (by omega)⟩
theorem hur_loop {i j : Nat} (bi : BendOK n tKi tEa tHa tPr tEx tSt tBe sh eL eC eS eB eE eF eG i) (bj : BendOK n tKi tEa tHa tPr tEx tSt tBe sh eL eC eS eB eE eF eG j) (hn : n ≤ 12) {a a2 : Int32} (h0 : 0 ≤ a.toInt) (h1 : a.toInt ≤ 1000) {P : Nat → Prop} (hP0 : a2 = 0 → ∀ t, t < n → (P t ↔ max (iT (eE i) t) (a.toInt + iT (eG i) t) - max (iT (eB i) t) (a.toInt + iT (eF i) t) < max (iT (eE j) t) ((a.toInt + 1) + iT (eG j) t) - max (iT (eB j) t) ((a.toInt + 1) + iT (eF j) t))) (hP1 : ¬ a2 = 0 → ∀ t, t < n → (P t ↔ max (iT (eE j) t) ((a.toInt + 1) + iT (eG j) t) - max (iT (eB j) t) ((a.toInt + 1) + iT (eF j) t) < max (iT (eE i) t) (a.toInt + iT (eG i) t) - max (iT (eB i) t) (a.toInt + iT (eF i) t))) {X : Int32 → Prop} (hX : ∀ r : Int32, (∀ u, bt r u = true ↔ u < n ∧ P u) → X r) :
    ∀ (m k : Nat) (x : Int32), k + m = n → (∀ u, bt x u = true ↔ u < k ∧ P u) → wp_X7_hurried_L48 a a2 (nI n) eB eE eF eG i j X (m + 1) x (nI k) := by
  have e1 : (1 : Int32).toInt = 1 := rfl
  have e0 : (0 : Int32).toInt = 0 := rfl
  have ea : (a + 1).toInt = a.toInt + 1 := by rw [i_add (by omega) (by omega), e1]
  intro m
  induction m with
  | zero =>
    intro k x hk h
    rw [wp_X7_hurried_L48]
    rw [show k = n by omega] at h ⊢
    exact pk_le n n (fun _ => hX x h) (fun q => absurd q (by omega))
  | succ m ih =>
    intro k x hk h
    rw [wp_X7_hurried_L48]
    refine pk_le n k (fun q => absurd q (by omega)) (fun q => ?_)
    have c1 := bi.2.2.2.2.2.1 k (by omega)
    have c2 := bj.2.2.2.2.2.1 k (by omega)
    refine bk_spn bj hn (by omega) (a := a + 1) (by omega) (by omega) (fun r45 e45 => bk_spn bi hn (by omega) h0 (by omega) (fun r46 e46 x8 e8 => ?_))
    rw [ea] at e45
    have E8 : x8.toInt = r45.toInt - r46.toInt := by rw [e8, i_sub (by omega) (by omega)]
    have no : ¬ P k → wp_X7_hurried_b107 (wp_X7_hurried_L48 a a2 (nI n) eB eE eF eG i j X (m + 1)) x (nI k) := fun hp z ez => by
      rw [ez, nI_1]; exact ih (k + 1) x (by omega) (bt_no h hp)
    have ye : P k → wp_X7_hurried_b98 (wp_X7_hurried_L48 a a2 (nI n) eB eE eF eG i j X (m + 1)) x (nI k) := fun hp y ey z ez => by
      rw [ez, nI_1, ey]; exact ih (k + 1) _ (by omega) (bt_ye (by omega) h hp)
    refine ⟨fun q2 => ?_, fun q2 => ?_⟩
    · rw [i_le, e0]
      exact ⟨fun q3 => no (fun hp => by have := (hP0 q2 k (by omega)).mp hp; omega), fun q3 => ye ((hP0 q2 k (by omega)).mpr (by omega))⟩
    · rw [i_le, e0]
      exact ⟨fun q3 => no (fun hp => by have := (hP1 q2 k (by omega)).mp hp; omega), fun q3 => ye ((hP1 q2 k (by omega)).mpr (by omega))⟩
theorem mhur_loop (hn : n ≤ 12) {a2 : Int32} {mFs : Nat → Int32} {P : Nat → Prop} (hP0 : a2 = 0 → ∀ t, t < n → (P t ↔ (mFs t).toInt < (mMo (12 + t) - mMo t).toInt)) (hP1 : ¬ a2 = 0 → ∀ t, t < n → (P t ↔ (mMo (12 + t) - mMo t).toInt < (mFs t).toInt)) {X : Int32 → Prop} (hX : ∀ r : Int32, (∀ u, bt r u = true ↔ u < n ∧ P u) → X r) :
    ∀ (m k : Nat) (x : Int32), k + m = n → (∀ u, bt x u = true ↔ u < k ∧ P u) → wp_X9_hurried_L80 a2 (nI n) mFs mMo X (m + 1) x (nI k) := by
  intro m
  induction m with
  | zero =>
    intro k x hk h
    rw [wp_X9_hurried_L80]
    rw [show k = n by omega] at h ⊢
    exact pk_le n n (fun _ => hX x h) (fun q => absurd q (by omega))
  | succ m ih =>
    intro k x hk h
    rw [wp_X9_hurried_L80]
    have e12 : (12 : Int32) + nI k = nI (12 + k) := nI_add 12 k
    refine pk_le n k (fun q => absurd q (by omega)) (fun q => ?_)
    rw [e12, cl_nI (by omega), cl_nI (by omega)]
    refine ⟨pk_in (12 + k) 24 (by omega), pk_in k 24 (by omega), fun x6 e6 => ?_⟩
    have no : ¬ P k → wp_X9_hurried_b152 (wp_X9_hurried_L80 a2 (nI n) mFs mMo X (m + 1)) x (nI k) := fun hp y ey z ez => by
      rw [ez, nI_1, ey, or_0]; exact ih (k + 1) x (by omega) (bt_no h hp)
    have ye : P k → wp_X9_hurried_b145 (wp_X9_hurried_L80 a2 (nI n) mFs mMo X (m + 1)) x (nI k) := fun hp y ey z ez => by
      rw [ez, nI_1, ey]; exact ih (k + 1) _ (by omega) (bt_ye (by omega) h hp)
    refine ⟨fun q2 => ⟨pk_in k 12 (by omega), ?_⟩, fun q2 => ⟨pk_in k 12 (by omega), ?_⟩⟩
    · have := hP0 q2 k (by omega)
      rw [← e6] at this
      rw [i_le]
      exact ⟨fun q3 => no (fun hp => by have := this.mp hp; omega), fun q3 => ye (this.mpr (by omega))⟩
    · have := hP1 q2 k (by omega)
      rw [← e6] at this
      rw [i_le]
      exact ⟨fun q3 => no (fun hp => by have := this.mp hp; omega), fun q3 => ye (this.mpr (by omega))⟩
end STEPL
theorem step_24 : STEP_24 RelS := by
  intro bHK bHP bPF bWC bRi bBe bFi bWa dB dS dN tC tKi tEa tHa tPr tEx tSt tTo tBe kC kKi kEa kHa kPr kEx kSt kTo kBe aC aWh aTa aWa iRo iEa iLa cC nC nFo nQd nRo nBe nEa nMi nHa nER nMR nTh nPa nOu nFr nQu eM eL eC eS eB eE eF eG pT pK pN pF pS qT qK qN qF qS mKe mUn mFi mRi mBe mWc mAK mSh mIP mUS mWa mWi mSi mRo mSp mRw mSn mBg mLa mMo mRm mOw mGo mFr mQu mCh mPB mPS mFs ub uT uK uN uF uS H v0 v1 hv1
  obtain ⟨n, a, sh, hk⟩ := H.tk
  have hT := hk.bk.1
  obtain rfl := hT.1
  have hM := hk.bk.2.1
  obtain rfl := hM.1
  have hsh := hk.hsh
  have hn := hT.2.1
  obtain ⟨K, k1, k2, k3⟩ := rc_K n tKi tEa tHa tPr tEx tSt tBe sh cC H.m7
  have s0 : 0 ≤ sh := by obtain ⟨B, _, hB⟩ := hsh; exact hB.1
  have e1 : (1 : Int32).toInt = 1 := rfl
  refine ⟨K, k1, wp_rc hT hsh hk.hC k2 k3 (fun iRo iEa cC nC nFo nQd nRo nBe nEa nMi nHa nER nMR nTh nPa nOu nFr nQu eM' eL eC eS eB eE eF eG g1 g2 => ?_)⟩
  refine wp_lf g2 (fun q1 q2 => ?_) (fun q1 q2 => ?_) (fun q => ?_)
  · have ea : (v0 + 1).toInt = v0.toInt + 1 := by rw [i_add (by omega) (by omega), e1]
    refine ⟨fun _ => wp_bf g2 q1 (fun i b1 b2 b3 => wp_bf g2 (a1 := v0 + 1) (by omega) (fun j d1 d2 d3 => ?_)), fun z => absurd rfl z⟩
    rw [ea] at d2 d3
    obtain ⟨P1, P2⟩ := bk_plan b1 (T := v0.toInt) (by omega) b2 b3
    obtain ⟨P3, P4⟩ := bk_plan d1 (T := v0.toInt + 1) (by omega) d2 d3
    obtain ⟨P, hP⟩ : ∃ P : Nat → Prop, P = fun t => (v1 = 0 ∧ max (iT (eE i) t) (v0.toInt + iT (eG i) t) - max (iT (eB i) t) (v0.toInt + iT (eF i) t) < max (iT (eE j) t) ((v0.toInt + 1) + iT (eG j) t) - max (iT (eB j) t) ((v0.toInt + 1) + iT (eF j) t)) ∨ (¬ v1 = 0 ∧ max (iT (eE j) t) ((v0.toInt + 1) + iT (eG j) t) - max (iT (eB j) t) ((v0.toInt + 1) + iT (eF j) t) < max (iT (eE i) t) (v0.toInt + iT (eG i) t) - max (iT (eB i) t) (v0.toInt + iT (eF i) t)) := ⟨_, rfl⟩
    have hP0 : v1 = 0 → ∀ t, t < n → (P t ↔ max (iT (eE i) t) (v0.toInt + iT (eG i) t) - max (iT (eB i) t) (v0.toInt + iT (eF i) t) < max (iT (eE j) t) ((v0.toInt + 1) + iT (eG j) t) - max (iT (eB j) t) ((v0.toInt + 1) + iT (eF j) t)) := fun z t _ => by
      rw [hP]
      exact ⟨fun h => by rcases h with h | h; exact h.2; exact absurd z h.1, fun h => Or.inl ⟨z, h⟩⟩
    have hP1 : ¬ v1 = 0 → ∀ t, t < n → (P t ↔ max (iT (eE j) t) ((v0.toInt + 1) + iT (eG j) t) - max (iT (eB j) t) ((v0.toInt + 1) + iT (eF j) t) < max (iT (eE i) t) (v0.toInt + iT (eG i) t) - max (iT (eB i) t) (v0.toInt + iT (eF i) t)) := fun z t _ => by
      rw [hP]
      exact ⟨fun h => by rcases h with h | h; exact absurd h.1 z; exact h.2, fun h => Or.inr ⟨z, h⟩⟩
    have key := hur_loop (b1 i (Nat.le_refl _)) (d1 j (Nat.le_refl _)) hn (by omega) q2 hP0 hP1 (X := fun x6 => eM' = eM + K ∧ wp_X9_hurried (nI n) pK pN pF mFi mAK mSh mRw mSn mBg mMo mRm mOw mGo mFr mQu mCh mFs v0 v1 (fun r2 mFi mAK mSh mRw mSn mBg mMo mRm mOw mGo mFr mQu mCh mFs => x6 = r2 ∧ RelS bHK bHP bPF bWC bRi bBe bFi bWa dB dS dN (nI n) tKi tEa tHa tPr tEx tSt tTo tBe kC kKi kEa kHa kPr kEx kSt kTo kBe aC aWh aTa aWa iRo iEa iLa cC nC nFo nQd nRo nBe nEa nMi nHa nER nMR nTh nPa nOu nFr nQu eM' eL eC eS eB eE eF eG (nI n) pK pN pF pS qT qK qN qF qS mKe mUn mFi mRi mBe mWc mAK mSh mIP mUS mWa mWi mSi mRo mSp mRw mSn mBg mLa mMo mRm mOw mGo mFr mQu mCh mPB mPS mFs ub uT uK uN uF uS)) (fun r hr => ⟨g1, ?_⟩) n 0 0 (by omega) bt_0
    · exact ⟨_, key⟩
    · refine wp_nl hT hM hsh hk.hK (fun ak s w sn b mo rr o g f q ch c1 c2 c3 _ _ => ⟨fun _ => ?_, fun z => absurd rfl z⟩) (fun ak s w sn b mo r o g f q ch c1 c2 c3 _ z => absurd z (by omega)) (fun ak s w sn b mo r o g f q ch c1 c2 c3 z => absurd z (by omega))
      refine wp_mrise hT hM (by omega) hsh q1 (fun w sn b mo rr o g f q hP => ?_)
      have on := hP.one P1
      refine ⟨_, mfirst_loop (mMo := mo) hn (fun S hS => ?_) n 0 mFs (by omega) (fun t ht => absurd ht (by omega))⟩
      refine wp_mrise hT hM (T := v0 + 1) (by omega) hsh (by omega) (fun w sn b mo2 rr o g f q hP2 => ?_)
      rw [ea] at hP2
      have on2 := hP2.one P3
      have sH : ∀ t, t < n → (S t).toInt = max (iT (eE i) t) (v0.toInt + iT (eG i) t) - max (iT (eB i) t) (v0.toInt + iT (eF i) t) := fun t ht => by
        rw [hS t ht]; exact pl_spans hT P1 (by omega) (fun u hu => (on u hu).1) (fun u hu => (on u hu).2) ht
      have sN : ∀ t, t < n → (mo2 (12 + t) - mo2 t).toInt = max (iT (eE j) t) ((v0.toInt + 1) + iT (eG j) t) - max (iT (eB j) t) ((v0.toInt + 1) + iT (eF j) t) := fun t ht => pl_spans hT P3 (by omega) (fun u hu => (on2 u hu).1) (fun u hu => (on2 u hu).2) ht
      refine ⟨_, mhur_loop (mMo := mo2) hn (fun z t ht => by rw [hP0 z t ht, sH t ht, sN t ht]) (fun z t ht => by rw [hP1 z t ht, sH t ht, sN t ht]) (fun r2 hr2 => ⟨bt_one hr hr2, ?_⟩) n 0 0 (by omega) bt_0⟩
      exact ⟨H.fi, H.ri, H.be, H.wt, H.bd, ⟨n, a, sh, ⟨hk.bk, hk.hsh, (fun _ => g2), (fun _ => c2), hk.pl, hk.ha, hk.hac, hk.hmu, hk.ul⟩⟩, H.hk, H.ui, (by omega)⟩
  · refine ⟨fun z => absurd z (by decide), fun _ b eb => ⟨g1, ?_⟩⟩
    refine wp_nl hT hM hsh hk.hK (fun ak s w sn b mo r o g f q ch c1 c2 c3 _ z => absurd z (by omega)) (fun ak s w sn b mo r o g f q ch c1 c2 c3 _ _ => ⟨fun z => absurd z (by decide), fun _ => ⟨fun z => absurd z (by decide), fun _ m em => ⟨rfl, ⟨(by rw [eb, em, H.fi]), H.ri, H.be, H.wt, H.bd, ⟨n, a, sh, ⟨hk.bk, hk.hsh, (fun _ => g2), (fun _ => c2), hk.pl, hk.ha, hk.hac, hk.hmu, hk.ul⟩⟩, H.hk, H.ui, (by omega)⟩⟩⟩⟩) (fun ak s w sn b mo r o g f q ch c1 c2 c3 z => absurd z (by omega))
  · refine ⟨fun z => absurd z (by decide), fun _ b eb => ⟨g1, ?_⟩⟩
    refine wp_nl hT hM hsh hk.hK (fun ak s w sn b mo r o g f q ch c1 c2 c3 _ z => absurd z (by omega)) (fun ak s w sn b mo r o g f q ch c1 c2 c3 _ _ => by omega) (fun ak s w sn b mo r o g f q ch c1 c2 c3 z => ⟨fun z => absurd z (by decide), fun _ => ⟨fun z => absurd z (by decide), fun _ m em => ⟨rfl, ⟨(by rw [eb, em, H.fi]), H.ri, H.be, H.wt, H.bd, ⟨n, a, sh, ⟨hk.bk, hk.hsh, (fun _ => g2), (fun _ => c2), hk.pl, hk.ha, hk.hac, hk.hmu, hk.ul⟩⟩, H.hk, H.ui, (by omega)⟩⟩⟩⟩)
