/-! steps: moments of told spans, sums, told -/
section STEPO
variable {n : Nat} {tKi tEa tHa tPr tEx tSt tBe : Nat → Int32} {pT : Int32} {pK pN pF : Nat → Int32} {sh : Int} {bFi mFi mAK mSh : Int32} {mCh : Nat → Int64} {mRw mSn mBg mMo : Nat → Int32} {mRm mOw : Nat → Int64} {mGo mFr mQu : Nat → Int32} {iRo iEa : Nat → Int32} {cC nC nFo nQd : Int32} {nRo nBe nEa nMi nHa nER nMR nTh nPa nOu nFr nQu : Nat → Int32} {eM : Nat} {eL : Nat → Int32} {eC eS : Nat → Int64} {eB eE eF eG : Nat → Nat → Int32}
theorem told_sp {tTo pS : Nat → Int32} (hT : TB n (nI n) tKi tEa tHa tPr tEx tSt tBe) (h : ∀ t, t < n → pS t = tTo t ∧ (tHa t).toInt ≤ (tTo t).toInt ∧ (tTo t).toInt ≤ (tEa t).toInt) : SpOK n tTo ∧ SpOK n pS := by
  have k : SpOK n tTo := fun t ht => by
    have h1 : 0 ≤ (tHa t).toInt := hT.h0 t ht
    have h2 : (tHa t).toInt ≤ (tEa t).toInt ∧ (tEa t).toInt ≤ 60 := hT.he t ht
    have h3 := h t ht
    omega
  exact ⟨k, fun t ht => by rw [(h t ht).1]; exact k t ht⟩
theorem tight_loop (hn : n ≤ 12) {ea la : Nat → Int32} {X : Int32 → Prop} (hX : ∀ r : Int32, (∀ u, bt r u = true ↔ u < n ∧ ea u = la u) → X r) :
    ∀ (m k : Nat) (x : Int32), k + m = n → (∀ u, bt x u = true ↔ u < k ∧ ea u = la u) → wp_X7_tight_L22 (nI n) ea la X (m + 1) x (nI k) := by
  intro m
  induction m with
  | zero =>
    intro k x hk h
    rw [wp_X7_tight_L22]
    rw [show k = n by omega] at h ⊢
    exact pk_le n n (fun _ => hX x h) (fun q => absurd q (by omega))
  | succ m ih =>
    intro k x hk h
    rw [wp_X7_tight_L22]
    refine pk_le n k (fun q => absurd q (by omega)) (fun q => ?_)
    rw [cl_nI (by omega)]
    refine ⟨pk_in k 12 (by omega), pk_in k 12 (by omega), fun z y ey => ?_, fun z x1 e1 y ey => ?_⟩
    · rw [ey, nI_1]; exact ih (k + 1) x (by omega) (bt_no (P := fun u => ea u = la u) h z)
    · rw [ey, nI_1, e1]; exact ih (k + 1) _ (by omega) (bt_ye (P := fun u => ea u = la u) (by omega) h z)
theorem mtight_loop (hn : n ≤ 12) {ea la : Nat → Int32} {X : Int32 → Prop} (hX : ∀ r : Int32, (∀ u, bt r u = true ↔ u < n ∧ ea u = la u) → X r) :
    ∀ (m k : Nat) (x : Int32), k + m = n → (∀ u, bt x u = true ↔ u < k ∧ ea u = la u) → wp_X9_tight_L8 (nI n) ea la X (m + 1) x (nI k) := by
  intro m
  induction m with
  | zero =>
    intro k x hk h
    rw [wp_X9_tight_L8]
    rw [show k = n by omega] at h ⊢
    exact pk_le n n (fun _ => hX x h) (fun q => absurd q (by omega))
  | succ m ih =>
    intro k x hk h
    rw [wp_X9_tight_L8]
    refine pk_le n k (fun q => absurd q (by omega)) (fun q => ?_)
    rw [cl_nI (by omega)]
    refine ⟨pk_in k 12 (by omega), pk_in k 12 (by omega), fun z x1 e1 y ey => ?_, fun z x1 e1 y ey => ?_⟩
    · rw [ey, nI_1, e1, or_0]; exact ih (k + 1) x (by omega) (bt_no (P := fun u => ea u = la u) h z)
    · rw [ey, nI_1, e1]; exact ih (k + 1) _ (by omega) (bt_ye (P := fun u => ea u = la u) (by omega) h z)
theorem tc_loop (hT : TB n (nI n) tKi tEa tHa tPr tEx tSt tBe) {sp : Nat → Int32} (hs : ∀ t, t < n → iT tHa t ≤ iT sp t ∧ iT sp t ≤ iT tEa t) {X : Int64 → Prop} (hX : ∀ v : Int64, v.toInt = sT (fun t => cT tKi tEa tPr tEx tSt t (iT sp t)) n → X v) :
    ∀ (m k : Nat) (x : Int64), k + m = n → x.toInt = sT (fun t => cT tKi tEa tPr tEx tSt t (iT sp t)) k → wp_X7_toldCost_L4 (nI n) tEa tEx tKi tPr tSt sp X (m + 1) x (nI k) := by
  have hn := hT.2.1
  have hN := hT.2.2.1
  have hbd : ∀ t, t < n → 0 ≤ cT tKi tEa tPr tEx tSt t (iT sp t) ∧ cT tKi tEa tPr tEx tSt t (iT sp t) ≤ 12000000 := fun t ht => cT_bd (hN t ht) (hs t ht).1 (hs t ht).2
  intro m
  induction m with
  | zero =>
    intro k x hk h
    rw [wp_X7_toldCost_L4]
    rw [show k = n by omega] at h ⊢
    exact pk_le n n (fun _ => hX x h) (fun q => absurd q (by omega))
  | succ m ih =>
    intro k x hk h
    rw [wp_X7_toldCost_L4]
    refine pk_le n k (fun q => absurd q (by omega)) (fun q => ?_)
    rw [cl_nI (by omega)]
    have sb := sT_bound (g := fun t => cT tKi tEa tPr tEx tSt t (iT sp t)) (B := 12000000) (n := k) (fun t ht => hbd t (by omega))
    have cb := hbd k (by omega)
    have s1 := hs k (by omega)
    refine ⟨pk_in k 12 (by omega), wp_cost (by omega) (hN k (by omega)) s1.1 s1.2 (fun v ev y ey z ez => ?_)⟩
    have ev' : v.toInt = cT tKi tEa tPr tEx tSt k (iT sp k) := ev
    rw [ez, nI_1]
    refine ih (k + 1) y (by omega) ?_
    rw [ey, l_add (by omega) (by omega), sT, h, ev']
theorem mtc_loop (hT : TB n (nI n) tKi tEa tHa tPr tEx tSt tBe) (hM : MB n tKi tEa tHa tPr tEx tSt tBe pT pK pN pF) {sp : Nat → Int32} (hs : ∀ t, t < n → iT tHa t ≤ iT sp t ∧ iT sp t ≤ iT tEa t) {X : Int64 → Prop} (hX : ∀ v : Int64, v.toInt = sT (fun t => cT tKi tEa tPr tEx tSt t (iT sp t)) n → X v) :
    ∀ (m k : Nat) (x : Int64), k + m = n → x.toInt = sT (fun t => cT tKi tEa tPr tEx tSt t (iT sp t)) k → wp_X9_toldCost_L4 pK pN sp (nI n) X (m + 1) x (nI k) := by
  have hn := hT.2.1
  have hN := hT.2.2.1
  have hbd : ∀ t, t < n → 0 ≤ cT tKi tEa tPr tEx tSt t (iT sp t) ∧ cT tKi tEa tPr tEx tSt t (iT sp t) ≤ 12000000 := fun t ht => cT_bd (hN t ht) (hs t ht).1 (hs t ht).2
  intro m
  induction m with
  | zero =>
    intro k x hk h
    rw [wp_X9_toldCost_L4]
    rw [show k = n by omega] at h ⊢
    exact pk_le n n (fun _ => hX x h) (fun q => absurd q (by omega))
  | succ m ih =>
    intro k x hk h
    rw [wp_X9_toldCost_L4]
    refine pk_le n k (fun q => absurd q (by omega)) (fun q => ?_)
    rw [cl_nI (by omega)]
    have sb := sT_bound (g := fun t => cT tKi tEa tPr tEx tSt t (iT sp t)) (B := 12000000) (n := k) (fun t ht => hbd t (by omega))
    have cb := hbd k (by omega)
    refine ⟨pk_in k 12 (by omega), wp_mcost hM hn (by omega) (hN k (by omega)) (fun v _ _ ev y ey z ez => ?_) (fun q => absurd (hs k (by omega)) q)⟩
    have ev' : v.toInt = cT tKi tEa tPr tEx tSt k (iT sp k) := ev
    rw [ez, nI_1]
    refine ih (k + 1) y (by omega) ?_
    rw [ey, l_add (by omega) (by omega), sT, h, ev']
def sNp (f : Nat → Nat) : Nat → Nat
  | 0 => 0
  | k + 1 => sNp f k + f k
theorem sNp_congr {f g : Nat → Nat} : ∀ {n : Nat}, (∀ k, k < n → f k = g k) → sNp f n = sNp g n
  | 0, _ => rfl
  | n + 1, h => by rw [sNp, sNp, sNp_congr (fun k hk => h k (by omega)), h n (by omega)]
theorem ctB_cut {p : Nat → Bool} {n : Nat} (h : ∀ k, n ≤ k → p k = false) : ∀ d, ctB p (n + d) = ctB p n
  | 0 => rfl
  | d + 1 => by rw [show n + (d + 1) = (n + d) + 1 by omega, ctB, h (n + d) (by omega), ctB_cut h d]; simp
/-- how many a task follows -/
theorem cnt_eq (hT : TB n (nI n) tKi tEa tHa tPr tEx tSt tBe) (hM : MB n tKi tEa tHa tPr tEx tSt tBe pT pK pN pF) {t : Nat} (ht : t < n) : jBits (tBe t) = nI (ctB (foN pF t) n) := by
  have hn := hT.2.1
  have hb : ∀ o, n ≤ o → bt (tBe t) o = false := fun o ho => by
    cases q : bt (tBe t) o
    · rfl
    · exact absurd (hT.2.2.2.1 t ht o q) (by omega)
  rw [jb_ct (fun i hi => hb i (by omega))]
  have c := ctB_cut hb (12 - n)
  rw [show n + (12 - n) = 12 by omega] at c
  rw [c]
  refine congrArg nI (ctB_congr (fun o ho => ?_))
  have q := hM.2.2.1 t o ht ho
  unfold foN
  cases b : bt (tBe t) o
  · rw [decide_eq_true (q.mpr b)]; rfl
  · rw [decide_eq_false (fun z => by rw [q.mp z] at b; exact absurd b (by decide))]; rfl
theorem pairs_loop (hn : n ≤ 12) {g : Nat → Nat} (hg : ∀ t, t < n → jBits (tBe t) = nI (g t)) {X : Int32 → Prop} (hX : X (nI (sNp g n))) :
    ∀ (m k : Nat), k + m = n → wp_X5_pairs_L4 tBe (nI n) X (m + 1) (nI (sNp g k)) (nI k) := by
  intro m
  induction m with
  | zero =>
    intro k hk
    rw [wp_X5_pairs_L4]
    rw [show k = n by omega]
    exact pk_le n n (fun _ => hX) (fun q => absurd q (by omega))
  | succ m ih =>
    intro k hk
    rw [wp_X5_pairs_L4]
    refine pk_le n k (fun q => absurd q (by omega)) (fun q => ?_)
    rw [cl_nI (by omega), hg k (by omega)]
    refine ⟨pk_in k 12 (by omega), fun x ex y ey => ?_⟩
    rw [ex, ey, nI_1, nI_add]
    exact ih (k + 1) (by omega)
theorem mpairs_loop (hn : n ≤ 12) {g : Nat → Nat} (hg : ∀ t, t < n → ctB (foN pF t) n = g t) {X : Int32 → Prop} (hX : X (nI (sNp g n))) :
    ∀ (m k : Nat), k + m = n → wp_X9_pairs_L4 pF (nI n) X (m + 1) (nI (sNp g k)) (nI k) := by
  intro m
  induction m with
  | zero =>
    intro k hk
    rw [wp_X9_pairs_L4]
    rw [show k = n by omega]
    exact pk_le n n (fun _ => hX) (fun q => absurd q (by omega))
  | succ m ih =>
    intro k hk
    rw [wp_X9_pairs_L4]
    refine pk_le n k (fun q => absurd q (by omega)) (fun q => ?_)
    refine wp_fol hn (by omega) (fun x ex y ey => ?_)
    rw [ex, ey, nI_1, hg k (by omega), nI_add]
    exact ih (k + 1) (by omega)
end STEPO
theorem step_11 : STEP_11 RelS := by
  intro bHK bHP bPF bWC bRi bBe bFi bWa dB dS dN tC tKi tEa tHa tPr tEx tSt tTo tBe kC kKi kEa kHa kPr kEx kSt kTo kBe aC aWh aTa aWa iRo iEa iLa cC nC nFo nQd nRo nBe nEa nMi nHa nER nMR nTh nPa nOu nFr nQu eM eL eC eS eB eE eF eG pT pK pN pF pS qT qK qN qF qS mKe mUn mFi mRi mBe mWc mAK mSh mIP mUS mWa mWi mSi mRo mSp mRw mSn mBg mLa mMo mRm mOw mGo mFr mQu mCh mPB mPS mFs ub uT uK uN uF uS H
  obtain ⟨n, a, sh, hk⟩ := H.tk
  have hT := hk.bk.1
  obtain rfl := hT.1
  have hM := hk.bk.2.1
  obtain rfl := hM.1
  have hn := hT.2.1
  have mf := foMC hM
  have acM : Acy (foM n pF) := by rw [mf]; exact hT.2.2.2.2
  obtain ⟨s1, s2⟩ := told_sp hT hk.bk.2.2
  obtain ⟨rk, hr⟩ := hT.2.2.2.2
  refine wp_bE hn hT.2.2.2.1 hT.2.2.2.2 s1 (fun r ro ea h1 h2 h3 h4 h5 => wp_mT hn acM s2 (fun r2 ro2 sn g k1 k2 k3 k4 k5 => ⟨?_, ⟨H.fi, H.ri, H.be, H.wt, H.bd, H.tk, H.hk, H.ui, H.m7⟩⟩))
  rw [mf] at k3
  have hs : ∀ t, t < n → iT tTo t = iT sn t := fun t ht => by unfold iT; rw [k2 t ht, (hk.bk.2.2 t ht).1]
  exact i_eq.mpr (LenOf.one hs (Early.one foC_lt hr hs h2 k3) h3 k4)
theorem step_15 : STEP_15 RelS := by
  intro bHK bHP bPF bWC bRi bBe bFi bWa dB dS dN tC tKi tEa tHa tPr tEx tSt tTo tBe kC kKi kEa kHa kPr kEx kSt kTo kBe aC aWh aTa aWa iRo iEa iLa cC nC nFo nQd nRo nBe nEa nMi nHa nER nMR nTh nPa nOu nFr nQu eM eL eC eS eB eE eF eG pT pK pN pF pS qT qK qN qF qS mKe mUn mFi mRi mBe mWc mAK mSh mIP mUS mWa mWi mSi mRo mSp mRw mSn mBg mLa mMo mRm mOw mGo mFr mQu mCh mPB mPS mFs ub uT uK uN uF uS H v0 hv0
  obtain ⟨n, a, sh, hk⟩ := H.tk
  have hT := hk.bk.1
  obtain rfl := hT.1
  have hM := hk.bk.2.1
  obtain rfl := hM.1
  have hn := hT.2.1
  obtain ⟨rk, hr⟩ := hT.2.2.2.2
  have sE : SpOK n tEa := fun t ht => by
    have h1 : 0 ≤ (tHa t).toInt := hT.h0 t ht
    have h2 : (tHa t).toInt ≤ (tEa t).toInt ∧ (tEa t).toInt ≤ 60 := hT.he t ht
    omega
  refine ⟨fun z => wp_bE hn hT.2.2.2.1 hT.2.2.2.2 sE (fun r ro ea h1 h2 h3 h4 h5 => wp_mlong hT hM (fun r2 ro2 sn g k1 k2 k3 k4 k5 => ⟨?_, ⟨H.fi, H.ri, H.be, H.wt, H.bd, H.tk, H.hk, H.ui, H.m7⟩⟩)), fun z => wp_bE hn hT.2.2.2.1 hT.2.2.2.2 hT.sp (fun r ro ea h1 h2 h3 h4 h5 => wp_mlong hT hM (fun r2 ro2 sn g k1 k2 k3 k4 k5 => ⟨?_, ⟨H.fi, H.ri, H.be, H.wt, H.bd, H.tk, H.hk, H.ui, H.m7⟩⟩))⟩
  · rw [if_pos z] at k1
    have hs : ∀ t, t < n → iT tEa t = iT sn t := fun t ht => by unfold iT; rw [k1 t ht]
    exact i_eq.mpr (LenOf.one hs (Early.one foC_lt hr hs h2 k2) h3 k3)
  · rw [if_neg z] at k1
    have hs : ∀ t, t < n → iT tHa t = iT sn t := fun t ht => by unfold iT; rw [k1 t ht]
    exact i_eq.mpr (LenOf.one hs (Early.one foC_lt hr hs h2 k2) h3 k3)
theorem step_12 : STEP_12 RelS := by
  intro bHK bHP bPF bWC bRi bBe bFi bWa dB dS dN tC tKi tEa tHa tPr tEx tSt tTo tBe kC kKi kEa kHa kPr kEx kSt kTo kBe aC aWh aTa aWa iRo iEa iLa cC nC nFo nQd nRo nBe nEa nMi nHa nER nMR nTh nPa nOu nFr nQu eM eL eC eS eB eE eF eG pT pK pN pF pS qT qK qN qF qS mKe mUn mFi mRi mBe mWc mAK mSh mIP mUS mWa mWi mSi mRo mSp mRw mSn mBg mLa mMo mRm mOw mGo mFr mQu mCh mPB mPS mFs ub uT uK uN uF uS H v0 v1 hv1
  obtain ⟨n, a, sh, hk⟩ := H.tk
  have hT := hk.bk.1
  obtain rfl := hT.1
  have hM := hk.bk.2.1
  obtain rfl := hM.1
  have hn := hT.2.1
  have mf := foMC hM
  have acM : Acy (foM n pF) := by rw [mf]; exact hT.2.2.2.2
  obtain ⟨s1, s2⟩ := told_sp hT hk.bk.2.2
  obtain ⟨rk, hr⟩ := hT.2.2.2.2
  refine wp_has5 hn (fun t ht et => ⟨fun _ => wp_bB hn hT.2.2.2.1 hT.2.2.2.2 s1 (fun L ro ea la h2 h3 h4 => ?_), fun z => absurd z (by decide)⟩) (fun y => ⟨fun z => absurd rfl z, fun _ b eb => wp_ist hn (fun t ht et => absurd (nI_ne hn ht et) y) (fun _ => ⟨fun z => absurd rfl z, fun _ => ⟨fun z => absurd z (by decide), fun _ m em => ⟨rfl, ⟨(by rw [eb, em, H.fi]), H.ri, H.be, H.wt, H.bd, H.tk, H.hk, H.ui, H.m7⟩⟩⟩⟩)⟩)
  subst et
  rw [cl_nI (by omega)]
  have hv : vp_in (nI t) 12 := pk_in t 12 (by omega)
  have ref : ∀ {Q : Int32 → Int32 → (Nat → Int32) → (Nat → Int32) → (Nat → Int32) → (Nat → Int32) → Prop}, (∀ (ro sn g la2 : Nat → Int32), g t = ea t → la2 t = la t → ((v1 = 0 → Q (g t) mFi ro sn g la2) ∧ (¬ v1 = 0 → Q (la2 t) mFi ro sn g la2))) → wp_X9_early_ (nI n) pF pS mFi mRw mSn mBg mLa (nI t) v1 Q := fun {Q} h => wp_ist hn (fun u hu eu => ⟨fun _ => wp_mL hn acM s2 (fun L2 ro sn g la2 k2 k3 k4 k5 => by
    rw [mf] at k3 k5
    have hs : ∀ t, t < n → iT tTo t = iT sn t := fun t ht => by unfold iT; rw [k2 t ht, (hk.bk.2.2 t ht).1]
    have e1 := Early.one foC_lt hr hs h2 k3
    have eL := LenOf.one hs e1 h3 k4
    subst eL
    have e2 := Late.one foC_lt hr hs h4 k5
    rw [cl_nI (by omega)]
    obtain ⟨q1, q2⟩ := h ro sn g la2 (i_eq.mpr (e1 t ht).symm) (i_eq.mpr (e2 t ht).symm)
    exact ⟨fun z => ⟨hv, q1 z⟩, fun z => ⟨hv, q2 z⟩⟩), fun z => absurd z (by decide)⟩) (fun y => absurd (nI_ne hn ht rfl) y)
  exact ⟨fun z => ⟨hv, ref (fun ro sn g la2 e1 e2 => ⟨fun _ => ⟨e1.symm, ⟨H.fi, H.ri, H.be, H.wt, H.bd, H.tk, H.hk, H.ui, H.m7⟩⟩, fun z2 => absurd z z2⟩)⟩, fun z => ⟨hv, ref (fun ro sn g la2 e1 e2 => ⟨fun z2 => absurd z2 z, fun _ => ⟨e2.symm, ⟨H.fi, H.ri, H.be, H.wt, H.bd, H.tk, H.hk, H.ui, H.m7⟩⟩⟩)⟩⟩
theorem step_13 : STEP_13 RelS := by
  intro bHK bHP bPF bWC bRi bBe bFi bWa dB dS dN tC tKi tEa tHa tPr tEx tSt tTo tBe kC kKi kEa kHa kPr kEx kSt kTo kBe aC aWh aTa aWa iRo iEa iLa cC nC nFo nQd nRo nBe nEa nMi nHa nER nMR nTh nPa nOu nFr nQu eM eL eC eS eB eE eF eG pT pK pN pF pS qT qK qN qF qS mKe mUn mFi mRi mBe mWc mAK mSh mIP mUS mWa mWi mSi mRo mSp mRw mSn mBg mLa mMo mRm mOw mGo mFr mQu mCh mPB mPS mFs ub uT uK uN uF uS H
  obtain ⟨n, a, sh, hk⟩ := H.tk
  have hT := hk.bk.1
  obtain rfl := hT.1
  have hM := hk.bk.2.1
  obtain rfl := hM.1
  have hn := hT.2.1
  have mf := foMC hM
  have acM : Acy (foM n pF) := by rw [mf]; exact hT.2.2.2.2
  obtain ⟨s1, s2⟩ := told_sp hT hk.bk.2.2
  obtain ⟨rk, hr⟩ := hT.2.2.2.2
  refine wp_bB hn hT.2.2.2.1 hT.2.2.2.2 s1 (fun L ro ea la h2 h3 h4 => ⟨_, tight_loop hn (fun r hr1 => ?_) n 0 0 (by omega) bt_0⟩)
  refine wp_mL hn acM s2 (fun L2 ro sn g la2 k2 k3 k4 k5 => ⟨_, mtight_loop hn (fun r2 hr2 => ⟨?_, ⟨H.fi, H.ri, H.be, H.wt, H.bd, H.tk, H.hk, H.ui, H.m7⟩⟩) n 0 0 (by omega) bt_0⟩)
  rw [mf] at k3 k5
  have hs : ∀ t, t < n → iT tTo t = iT sn t := fun t ht => by unfold iT; rw [k2 t ht, (hk.bk.2.2 t ht).1]
  have e1 := Early.one foC_lt hr hs h2 k3
  have eL := LenOf.one hs e1 h3 k4
  subst eL
  have e2 := Late.one foC_lt hr hs h4 k5
  refine bt_one hr1 (fun u => (hr2 u).trans ?_)
  constructor
  · rintro ⟨a, b⟩
    have x1 : (ea u).toInt = (g u).toInt := e1 u a
    have x2 : (la u).toInt = (la2 u).toInt := e2 u a
    exact ⟨a, i_eq.mpr (by rw [x1, x2, b])⟩
  · rintro ⟨a, b⟩
    have x1 : (ea u).toInt = (g u).toInt := e1 u a
    have x2 : (la u).toInt = (la2 u).toInt := e2 u a
    exact ⟨a, i_eq.mpr (by rw [← x1, ← x2, b])⟩
theorem step_14 : STEP_14 RelS := by
  intro bHK bHP bPF bWC bRi bBe bFi bWa dB dS dN tC tKi tEa tHa tPr tEx tSt tTo tBe kC kKi kEa kHa kPr kEx kSt kTo kBe aC aWh aTa aWa iRo iEa iLa cC nC nFo nQd nRo nBe nEa nMi nHa nER nMR nTh nPa nOu nFr nQu eM eL eC eS eB eE eF eG pT pK pN pF pS qT qK qN qF qS mKe mUn mFi mRi mBe mWc mAK mSh mIP mUS mWa mWi mSi mRo mSp mRw mSn mBg mLa mMo mRm mOw mGo mFr mQu mCh mPB mPS mFs ub uT uK uN uF uS H
  obtain ⟨n, a, sh, hk⟩ := H.tk
  have hT := hk.bk.1
  obtain rfl := hT.1
  have hM := hk.bk.2.1
  obtain rfl := hM.1
  have hs : ∀ t, t < n → iT tHa t ≤ iT tTo t ∧ iT tTo t ≤ iT tEa t := fun t ht => (hk.bk.2.2 t ht).2
  have hs2 : ∀ t, t < n → iT tHa t ≤ iT pS t ∧ iT pS t ≤ iT tEa t := fun t ht => by
    have e : iT pS t = iT tTo t := by unfold iT; rw [(hk.bk.2.2 t ht).1]
    rw [e]; exact hs t ht
  refine ⟨_, tc_loop hT hs (fun v hv => ⟨_, mtc_loop hT hM hs2 (fun v2 hv2 => ⟨?_, H⟩) n 0 0 (by omega) rfl⟩) n 0 0 (by omega) rfl⟩
  rw [l_eq, hv, hv2]
  exact sT_congr (fun t ht => by
    have e : iT pS t = iT tTo t := by unfold iT; rw [(hk.bk.2.2 t ht).1]
    rw [e])
theorem step_30 : STEP_30 RelS := by
  intro bHK bHP bPF bWC bRi bBe bFi bWa dB dS dN tC tKi tEa tHa tPr tEx tSt tTo tBe kC kKi kEa kHa kPr kEx kSt kTo kBe aC aWh aTa aWa iRo iEa iLa cC nC nFo nQd nRo nBe nEa nMi nHa nER nMR nTh nPa nOu nFr nQu eM eL eC eS eB eE eF eG pT pK pN pF pS qT qK qN qF qS mKe mUn mFi mRi mBe mWc mAK mSh mIP mUS mWa mWi mSi mRo mSp mRw mSn mBg mLa mMo mRm mOw mGo mFr mQu mCh mPB mPS mFs ub uT uK uN uF uS H v0
  obtain ⟨n, a, sh, hk⟩ := H.tk
  have hT := hk.bk.1
  obtain rfl := hT.1
  have hM := hk.bk.2.1
  obtain rfl := hM.1
  have hn := hT.2.1
  obtain ⟨p1, p2, _⟩ := hk.pl
  have pc : ∀ t, t < n → jBits (tBe t) = nI (ctB (foN pF t) n) := fun t ht => cnt_eq hT hM ht
  refine ⟨fun z => ⟨fun _ => ⟨H.ri, H⟩, fun q => absurd z q⟩, fun z0 => ⟨fun z => ⟨fun q => absurd q z0, fun _ => ⟨fun _ => ⟨H.be, H⟩, fun q => absurd z q⟩⟩, fun z1 => ⟨fun z => ⟨fun q => absurd q z0, fun _ => ⟨fun q => absurd q z1, fun _ => ⟨fun _ => ⟨rfl, H⟩, fun q => absurd z q⟩⟩⟩, fun z2 => ⟨fun z => ?_, fun z3 => ⟨fun z => ⟨fun q => absurd q z0, fun _ => ⟨fun q => absurd q z1, fun _ => ⟨fun q => absurd q z2, fun _ => ⟨fun q => absurd q z3, fun _ => ⟨fun _ => ⟨H.wt.1, H⟩, fun q => absurd z q⟩⟩⟩⟩⟩, fun z4 => ⟨fun z => ⟨fun y => ⟨fun q => absurd q z0, fun _ => ⟨fun q => absurd q z1, fun _ => ⟨fun q => absurd q z2, fun _ => ⟨fun q => absurd q z3, fun _ => ⟨fun q => absurd q z4, fun _ => ⟨fun _ => ⟨fun _ => ⟨rfl, H⟩, fun q => absurd (by rw [← p1]; exact y) q⟩, fun q => absurd z q⟩⟩⟩⟩⟩⟩, fun y => ⟨fun q => absurd q z0, fun _ => ⟨fun q => absurd q z1, fun _ => ⟨fun q => absurd q z2, fun _ => ⟨fun q => absurd q z3, fun _ => ⟨fun q => absurd q z4, fun _ => ⟨fun _ => ⟨fun q => absurd (by rw [p1]; exact q) y, fun _ => ⟨rfl, H⟩⟩, fun q => absurd z q⟩⟩⟩⟩⟩⟩⟩, fun z5 => ⟨fun z => ⟨fun q => absurd q z0, fun _ => ⟨fun q => absurd q z1, fun _ => ⟨fun q => absurd q z2, fun _ => ⟨fun q => absurd q z3, fun _ => ⟨fun q => absurd q z4, fun _ => ⟨fun q => absurd q z5, fun _ => ⟨fun _ => ⟨H.fi, H⟩, fun q => absurd z q⟩⟩⟩⟩⟩⟩⟩, fun z6 b eb => ⟨fun q => absurd q z0, fun _ => ⟨fun q => absurd q z1, fun _ => ⟨fun q => absurd q z2, fun _ => ⟨fun q => absurd q z3, fun _ => ⟨fun q => absurd q z4, fun _ => ⟨fun q => absurd q z5, fun _ => ⟨fun q => absurd q z6, fun _ => ⟨fun q => absurd q (by decide), fun _ m em => ⟨rfl, ⟨(by rw [eb, em, H.fi]), H.ri, H.be, H.wt, H.bd, H.tk, H.hk, H.ui, H.m7⟩⟩⟩⟩⟩⟩⟩⟩⟩⟩⟩⟩⟩⟩⟩⟩⟩
  refine ⟨_, pairs_loop hn pc (X := _) ?_ n 0 (by omega)⟩
  refine ⟨fun q => absurd q z0, fun _ => ⟨fun q => absurd q z1, fun _ => ⟨fun q => absurd q z2, fun _ => ⟨fun _ => ?_, fun q => absurd z q⟩⟩⟩⟩
  exact ⟨_, mpairs_loop hn (fun _ _ => rfl) ⟨rfl, H⟩ n 0 (by omega)⟩
