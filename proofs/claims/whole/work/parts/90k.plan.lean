/-! steps: plans -/
section STEPK
variable {n : Nat} {tKi tEa tHa tPr tEx tSt tBe : Nat → Int32} {pT : Int32} {pK pN pF : Nat → Int32} {sh : Int} {bFi mFi mAK mSh : Int32} {mCh : Nat → Int64} {mRw mSn mBg mMo : Nat → Int32} {mRm mOw : Nat → Int64} {mGo mFr mQu : Nat → Int32} {iRo iEa : Nat → Int32} {cC nC nFo nQd : Int32} {nRo nBe nEa nMi nHa nER nMR nTh nPa nOu nFr nQu : Nat → Int32} {eM : Nat} {eL : Nat → Int32} {eC eS : Nat → Int64} {eB eE eF eG : Nat → Nat → Int32}
theorem bk_end {i t : Nat} (b : BendOK n tKi tEa tHa tPr tEx tSt tBe sh eL eC eS eB eE eF eG i) (hn : n ≤ 12) (ht : t < n) {a : Int32} (h0 : 0 ≤ a.toInt) (h1 : a.toInt ≤ 1001) {Q : Int32 → Prop} (hQ : ∀ r : Int32, r.toInt = max (iT (eE i) t) (a.toInt + iT (eG i) t) → Q r) : wp_X1_endAt (eE i) (eG i) (nI t) a Q := by
  obtain ⟨x1, x2, x3, x4⟩ := b.2.2.2.2.2.1 t ht
  unfold iT at x1 x2 x3 x4
  unfold wp_X1_endAt
  rw [cl_nI (by omega)]
  refine ⟨pk_in t 12 (by omega), pk_in t 12 (by omega), hQ _ ?_⟩
  rw [ifs_max, i_add (by omega) (by omega)]; rfl
theorem bk_beg {i t : Nat} (b : BendOK n tKi tEa tHa tPr tEx tSt tBe sh eL eC eS eB eE eF eG i) (hn : n ≤ 12) (ht : t < n) {a : Int32} (h0 : 0 ≤ a.toInt) (h1 : a.toInt ≤ 1001) {Q : Int32 → Prop} (hQ : ∀ r : Int32, r.toInt = max (iT (eB i) t) (a.toInt + iT (eF i) t) → Q r) : wp_X1_beginAt (eB i) (eF i) (nI t) a Q := by
  obtain ⟨x1, x2, x3, x4⟩ := b.2.2.2.2.2.1 t ht
  unfold iT at x1 x2 x3 x4
  unfold wp_X1_beginAt
  rw [cl_nI (by omega)]
  refine ⟨pk_in t 12 (by omega), pk_in t 12 (by omega), hQ _ ?_⟩
  rw [ifs_max, i_add (by omega) (by omega)]; rfl
theorem bk_spn {i t : Nat} (b : BendOK n tKi tEa tHa tPr tEx tSt tBe sh eL eC eS eB eE eF eG i) (hn : n ≤ 12) (ht : t < n) {a : Int32} (h0 : 0 ≤ a.toInt) (h1 : a.toInt ≤ 1001) {Q : Int32 → Prop} (hQ : ∀ r : Int32, r.toInt = max (iT (eE i) t) (a.toInt + iT (eG i) t) - max (iT (eB i) t) (a.toInt + iT (eF i) t) → Q r) : wp_X1_spanAt (eB i) (eF i) (eE i) (eG i) (nI t) a Q := by
  obtain ⟨x1, x2, x3, x4⟩ := b.2.2.2.2.2.1 t ht
  refine bk_end b hn ht h0 h1 (fun r1 e1 => bk_beg b hn ht h0 h1 (fun r2 e2 => hQ _ ?_))
  rw [i_sub (by omega) (by omega), e1, e2]
theorem bk_plan {i : Nat} (b1 : ∀ j, j ≤ i → BendOK n tKi tEa tHa tPr tEx tSt tBe sh eL eC eS eB eE eF eG j) {T : Int} (h : T ≤ 1001) (b2 : (eL i).toInt ≤ T) (b3 : ∀ j, j + 1 = i → T < (eL j).toInt) : ThePlan n (iT tEa) (iT tHa) (cT tKi tEa tPr tEx tSt) (foC n tBe) T (fun t => max (iT (eB i) t) (T + iT (eF i) t)) (fun t => max (iT (eE i) t) (T + iT (eG i) t)) ∧ Cost n (cT tKi tEa tPr tEx tSt) (fun t => max (iT (eB i) t) (T + iT (eF i) t)) (fun t => max (iT (eE i) t) (T + iT (eG i) t)) = (eC i).toInt - (eS i).toInt * (T - (eL i).toInt) :=
  (b1 i (Nat.le_refl _)).2.2.2.2.2.2 T b2 h (fun j hj => by have := b3 j hj; omega)
theorem MaxEnd.next {f : Nat → Int} {k : Nat} {x y : Int} (h : MaxEnd k f x) (e : y = max x (f k)) : MaxEnd (k + 1) f y := by
  obtain ⟨a1, a2, a3⟩ := h
  refine ⟨by omega, fun t ht => ?_, ?_⟩
  · rcases Nat.lt_or_ge t k with z | z
    · have := a2 t z; omega
    · rw [show t = k by omega]; omega
  · rcases Int.le_total x (f k) with z | z
    · exact Or.inr ⟨k, by omega, by rw [e, Int.max_eq_right z]⟩
    · rcases a3 with w | ⟨t, w1, w2⟩
      · exact Or.inl (by omega)
      · exact Or.inr ⟨t, by omega, by omega⟩
theorem plan_loop {i : Nat} (b : BendOK n tKi tEa tHa tPr tEx tSt tBe sh eL eC eS eB eE eF eG i) (hn : n ≤ 12) {a : Int32} (h0 : 0 ≤ a.toInt) (h1 : a.toInt ≤ 1001) {X : Int32 → Prop} (hX : ∀ r : Int32, MaxEnd n (fun t => max (iT (eE i) t) (a.toInt + iT (eG i) t)) r.toInt → X r) :
    ∀ (m k : Nat) (x : Int32), k + m = n → MaxEnd k (fun t => max (iT (eE i) t) (a.toInt + iT (eG i) t)) x.toInt → wp_X7_plan_L45 a (nI n) eE eG i X (m + 1) x (nI k) := by
  intro m
  induction m with
  | zero =>
    intro k x hk h
    rw [wp_X7_plan_L45]
    rw [show k = n by omega] at h ⊢
    exact pk_le n n (fun _ => hX x h) (fun q => absurd q (by omega))
  | succ m ih =>
    intro k x hk h
    rw [wp_X7_plan_L45]
    refine pk_le n k (fun q => absurd q (by omega)) (fun q => ?_)
    refine bk_end b hn (by omega) h0 h1 (fun r er y ey z ez => ?_)
    rw [ez, nI_1]
    exact ih (k + 1) y (by omega) (h.next (by rw [ey, ifs_max, er]))
theorem mplan_loop (hn : n ≤ 12) {X : (Nat → Int32) → (Nat → Int32) → Prop} (hX : ∀ B S : Nat → Int32, (∀ t, t < n → B t = mMo t ∧ S t = mMo (12 + t) - mMo t) → X B S) :
    ∀ (m k : Nat) (B S : Nat → Int32), k + m = n → (∀ t, t < k → B t = mMo t ∧ S t = mMo (12 + t) - mMo t) → wp_X9_plan_L23 (nI n) mMo X (m + 1) (nI k) B S := by
  intro m
  induction m with
  | zero =>
    intro k B S hk h
    rw [wp_X9_plan_L23]
    rw [show k = n by omega] at h ⊢
    exact pk_le n n (fun _ => hX B S h) (fun q => absurd q (by omega))
  | succ m ih =>
    intro k B S hk h
    rw [wp_X9_plan_L23]
    have e12 : (12 : Int32) + nI k = nI (12 + k) := nI_add 12 k
    refine pk_le n k (fun q => absurd q (by omega)) (fun q => ?_)
    rw [e12, cl_nI (by omega), cl_nI (by omega)]
    refine ⟨pk_in k 24 (by omega), pk_in k 12 (by omega), fun B' eB => ⟨pk_in (12 + k) 24 (by omega), pk_in k 24 (by omega), pk_in k 12 (by omega), fun S' eS z ez => ?_⟩⟩
    rw [ez, nI_1]
    refine ih (k + 1) B' S' (by omega) (fun t ht => ?_)
    rw [eB, eS]
    by_cases w : t = k
    · rw [w, upd_at, upd_at]; exact ⟨rfl, rfl⟩
    · rw [upd_ne w, upd_ne w]; exact h t (by omega)
theorem mfirst_loop (hn : n ≤ 12) {X : (Nat → Int32) → Prop} (hX : ∀ S : Nat → Int32, (∀ t, t < n → S t = mMo (12 + t) - mMo t) → X S) :
    ∀ (m k : Nat) (S : Nat → Int32), k + m = n → (∀ t, t < k → S t = mMo (12 + t) - mMo t) → wp_X9_hurried_L24 (nI n) mMo X (m + 1) (nI k) S := by
  intro m
  induction m with
  | zero =>
    intro k S hk h
    rw [wp_X9_hurried_L24]
    rw [show k = n by omega] at h ⊢
    exact pk_le n n (fun _ => hX S h) (fun q => absurd q (by omega))
  | succ m ih =>
    intro k S hk h
    rw [wp_X9_hurried_L24]
    have e12 : (12 : Int32) + nI k = nI (12 + k) := nI_add 12 k
    refine pk_le n k (fun q => absurd q (by omega)) (fun q => ?_)
    rw [e12, cl_nI (by omega), cl_nI (by omega)]
    refine ⟨pk_in (12 + k) 24 (by omega), pk_in k 24 (by omega), pk_in k 12 (by omega), fun S' eS z ez => ?_⟩
    rw [ez, nI_1]
    refine ih (k + 1) S' (by omega) (fun t ht => ?_)
    rw [eS]
    by_cases w : t = k
    · rw [w, upd_at]
    · rw [upd_ne w]; exact h t (by omega)
theorem wp_has5 (hn : n ≤ 12) {v : Int32} {Q : Int32 → Prop} (h1 : ∀ t, t < n → v = nI t → Q 1) (h0 : ¬ (0 ≤ v.toInt ∧ v.toInt < n) → Q 0) : wp_X5_has (nI n) v Q := by
  have e0 : (0 : Int32).toInt = 0 := rfl
  unfold wp_X5_has
  rw [i_lt, i_le, e0, nI_toInt (show n < 2 ^ 31 by omega)]
  exact ⟨fun q => h0 (by omega), fun q => ⟨fun q2 => h0 (by omega), fun q2 => h1 v.toInt.toNat (by omega) (of_toInt (by omega))⟩⟩
theorem wp_ist (hn : n ≤ 12) {v : Int32} {Q : Int32 → Prop} (h1 : ∀ t, t < n → v = nI t → Q 1) (h0 : ¬ (0 ≤ v.toInt ∧ v.toInt < n) → Q 0) : wp_X9_isTask (nI n) v Q := by
  have e0 : (0 : Int64).toInt = 0 := rfl
  have e1 : (1 : Int32).toInt = 1 := rfl
  have e2 : (nI n - 1).toInt = (n : Int) - 1 := by rw [i_sub (by rw [nI_toInt (by omega), e1]; omega) (by rw [nI_toInt (by omega), e1]; omega), nI_toInt (by omega), e1]
  refine wp_in (fun q => ⟨Or.inr rfl, ?_⟩) (fun q => ⟨Or.inl rfl, h0 ?_⟩)
  · rw [l_of, l_of, e0, e2] at q
    exact h1 v.toInt.toNat (by omega) (of_toInt (by omega))
  · rw [l_of, l_of, e0, e2] at q
    omega
theorem nI_ne {t n : Nat} {v : Int32} (hn : n ≤ 12) (ht : t < n) (e : v = nI t) : 0 ≤ v.toInt ∧ v.toInt < n := by
  rw [e, nI_toInt (by omega)]; omega
theorem nI_one {t u n : Nat} {v : Int32} (hn : n ≤ 12) (ht : t < n) (hu : u < n) (e : v = nI t) (e' : v = nI u) : t = u := (nI_eq (a := t) (b := u) (by omega) (by omega)).mp (by rw [← e, e'])
/-- sums of costs of given spans in the reference -/
theorem mcost_loop (hT : TB n (nI n) tKi tEa tHa tPr tEx tSt tBe) (hM : MB n tKi tEa tHa tPr tEx tSt tBe pT pK pN pF) {sp : Nat → Int32} (hs : ∀ t, t < n → iT tHa t ≤ iT sp t ∧ iT sp t ≤ iT tEa t) {X : Int64 → Prop} (hX : ∀ v : Int64, v.toInt = sT (fun t => cT tKi tEa tPr tEx tSt t (iT sp t)) n → X v) :
    ∀ (m k : Nat) (x : Int64), k + m = n → x.toInt = sT (fun t => cT tKi tEa tPr tEx tSt t (iT sp t)) k → wp_X9_cost_L19 sp pK pN (nI n) X (m + 1) x (nI k) := by
  have hn := hT.2.1
  have hN := hT.2.2.1
  have hbd : ∀ t, t < n → 0 ≤ cT tKi tEa tPr tEx tSt t (iT sp t) ∧ cT tKi tEa tPr tEx tSt t (iT sp t) ≤ 12000000 := fun t ht => cT_bd (hN t ht) (hs t ht).1 (hs t ht).2
  intro m
  induction m with
  | zero =>
    intro k x hk h
    rw [wp_X9_cost_L19]
    rw [show k = n by omega] at h ⊢
    exact pk_le n n (fun _ => hX x h) (fun q => absurd q (by omega))
  | succ m ih =>
    intro k x hk h
    rw [wp_X9_cost_L19]
    refine pk_le n k (fun q => absurd q (by omega)) (fun q => ?_)
    rw [cl_nI (by omega)]
    have sb := sT_bound (g := fun t => cT tKi tEa tPr tEx tSt t (iT sp t)) (B := 12000000) (n := k) (fun t ht => hbd t (by omega))
    have cb := hbd k (by omega)
    refine ⟨pk_in k 12 (by omega), wp_mcost hM hn (by omega) (hN k (by omega)) (fun v _ _ ev y ey z ez => ?_) (fun q => absurd (hs k (by omega)) q)⟩
    have ev' : v.toInt = cT tKi tEa tPr tEx tSt k (iT sp k) := ev
    rw [ez, nI_1]
    refine ih (k + 1) y (by omega) ?_
    rw [ey, l_add (by omega) (by omega), sT, h, ev']
theorem pl_spans (hT : TB n (nI n) tKi tEa tHa tPr tEx tSt tBe) {T : Int} {b f : Nat → Int} (P : ThePlan n (iT tEa) (iT tHa) (cT tKi tEa tPr tEx tSt) (foC n tBe) T b f) (h : T ≤ 1001) {mo : Nat → Int32} (hb : ∀ t, t < n → bM mo t = b t) (hf : ∀ t, t < n → fM mo t = f t) {t : Nat} (ht : t < n) : (mo (12 + t) - mo t).toInt = f t - b t := by
  have e1 : (mo t).toInt = b t := hb t ht
  have e2 : (mo (12 + t)).toInt = f t := hf t ht
  obtain ⟨p1, p2, p3, p4⟩ := P.1.1 t ht
  have p5 := P.1.2.1 t ht
  have p6 : 0 ≤ iT tHa t := hT.h0 t ht
  have p7 : iT tEa t ≤ 60 := (hT.he t ht).2
  rw [i_sub (by omega) (by omega), e1, e2]
end STEPK
theorem step_21 : STEP_21 RelS := by
  intro bHK bHP bPF bWC bRi bBe bFi bWa dB dS dN tC tKi tEa tHa tPr tEx tSt tTo tBe kC kKi kEa kHa kPr kEx kSt kTo kBe aC aWh aTa aWa iRo iEa iLa cC nC nFo nQd nRo nBe nEa nMi nHa nER nMR nTh nPa nOu nFr nQu eM eL eC eS eB eE eF eG pT pK pN pF pS qT qK qN qF qS mKe mUn mFi mRi mBe mWc mAK mSh mIP mUS mWa mWi mSi mRo mSp mRw mSn mBg mLa mMo mRm mOw mGo mFr mQu mCh mPB mPS mFs ub uT uK uN uF uS H v0
  obtain ⟨n, a, sh, hk⟩ := H.tk
  have hT := hk.bk.1
  obtain rfl := hT.1
  have hM := hk.bk.2.1
  obtain rfl := hM.1
  have hsh := hk.hsh
  have hn := hT.2.1
  obtain ⟨K, k1, k2, k3⟩ := rc_K n tKi tEa tHa tPr tEx tSt tBe sh cC H.m7
  have s0 : 0 ≤ sh := by obtain ⟨B, _, hB⟩ := hsh; exact hB.1
  refine ⟨K, k1, wp_rc hT hsh hk.hC k2 k3 (fun iRo iEa cC nC nFo nQd nRo nBe nEa nMi nHa nER nMR nTh nPa nOu nFr nQu eM' eL eC eS eB eE eF eG g1 g2 => ?_)⟩
  refine wp_lf g2 (fun q1 q2 => ?_) (fun q1 q2 => ?_) (fun q => ?_)
  · refine ⟨fun _ p ep pf epf => wp_bf g2 q1 (fun i b1 b2 b3 => ?_), fun z => absurd rfl z⟩
    obtain ⟨P1, P2⟩ := bk_plan b1 (T := v0.toInt) (by omega) b2 b3
    have key := plan_loop (b1 i (Nat.le_refl _)) hn (a := v0) (by omega) (by omega) (X := fun x4 => eM' = eM + K ∧ wp_X9_plan (nI n) pK pN pF mFi mAK mSh mIP mRw mSn mBg mMo mRm mOw mGo mFr mQu mCh mPB mPS v0 (fun r2 mFi mAK mSh mIP mRw mSn mBg mMo mRm mOw mGo mFr mQu mCh mPB mPS => x4 = r2 ∧ RelS bHK p pf bWC bRi bBe bFi bWa dB dS dN (nI n) tKi tEa tHa tPr tEx tSt tTo tBe kC kKi kEa kHa kPr kEx kSt kTo kBe aC aWh aTa aWa iRo iEa iLa cC nC nFo nQd nRo nBe nEa nMi nHa nER nMR nTh nPa nOu nFr nQu eM' eL eC eS eB eE eF eG (nI n) pK pN pF pS qT qK qN qF qS mKe mUn mFi mRi mBe mWc mAK mSh mIP mUS mWa mWi mSi mRo mSp mRw mSn mBg mLa mMo mRm mOw mGo mFr mQu mCh mPB mPS mFs ub uT uK uN uF uS)) (fun r hr => ⟨g1, ?_⟩) n 0 0 (by omega) ⟨by show (0 : Int) ≤ 0; omega, fun t ht => absurd ht (by omega), Or.inl rfl⟩
    · exact ⟨_, key⟩
    · refine wp_nl hT hM hsh hk.hK (fun ak s w sn b mo rr o g f q ch c1 c2 c3 _ _ => ⟨fun _ => ?_, fun z => absurd rfl z⟩) (fun ak s w sn b mo r o g f q ch c1 c2 c3 _ z => absurd z (by omega)) (fun ak s w sn b mo r o g f q ch c1 c2 c3 z => absurd z (by omega))
      refine wp_mrise hT hM (by omega) hsh q1 (fun w sn b mo rr o g f q hP => ?_)
      have on := hP.one P1
      have key := mplan_loop (mMo := mo) hn (X := fun mPB mPS => ∀ mIP_36 : Int32, mIP_36 = 1 → wp_X9_lengthNow (nI n) mo (fun r_38 => r = r_38 ∧ RelS bHK p pf bWC bRi bBe bFi bWa dB dS dN (nI n) tKi tEa tHa tPr tEx tSt tTo tBe kC kKi kEa kHa kPr kEx kSt kTo kBe aC aWh aTa aWa iRo iEa iLa cC nC nFo nQd nRo nBe nEa nMi nHa nER nMR nTh nPa nOu nFr nQu eM' eL eC eS eB eE eF eG (nI n) pK pN pF pS qT qK qN qF qS mKe mUn mFi mRi mBe mWc ak s mIP_36 mUS mWa mWi mSi mRo mSp w sn b mLa mo rr o g f q ch mPB mPS mFs ub uT uK uN uF uS)) (fun B S hBS ip eip => wp_len hn (fun r2 hr2 => ⟨i_eq.mpr (MaxEnd.one (fun t ht => (on t ht).2.symm) hr hr2), ?_⟩)) n 0 mPB mPS (by omega) (fun t ht => absurd ht (by omega))
      · exact ⟨_, key⟩
      · refine ⟨H.fi, H.ri, H.be, H.wt, H.bd, ⟨n, a, sh, ⟨hk.bk, hk.hsh, (fun _ => g2), (fun _ => c2), ⟨by rw [ep, eip], by rw [ep]; exact Or.inr rfl, fun _ => ⟨by rw [epf]; exact q1, by rw [epf]; exact q2, ?_⟩⟩, hk.ha, hk.hac, hk.hmu, hk.ul⟩⟩, H.hk, H.ui, (by omega)⟩
        rw [epf]
        refine hP.congr (fun t ht => ?_) (fun t ht => ?_)
        · show (mo t).toInt = (B t).toInt
          rw [(hBS t ht).1]
        · show fM mo t = (B t).toInt + (S t).toInt
          rw [(hBS t ht).1, (hBS t ht).2, pl_spans hT hP (by omega) (fun _ _ => rfl) (fun _ _ => rfl) ht]
          show fM mo t = bM mo t + (fM mo t - bM mo t)
          omega
  · refine ⟨fun z => absurd z (by decide), fun _ b eb => ⟨g1, ?_⟩⟩
    refine wp_nl hT hM hsh hk.hK (fun ak s w sn b mo r o g f q ch c1 c2 c3 _ z => absurd z (by omega)) (fun ak s w sn b mo r o g f q ch c1 c2 c3 _ _ => ⟨fun z => absurd z (by decide), fun _ => ⟨fun z => absurd z (by decide), fun _ m em => ⟨rfl, ⟨(by rw [eb, em, H.fi]), H.ri, H.be, H.wt, H.bd, ⟨n, a, sh, ⟨hk.bk, hk.hsh, (fun _ => g2), (fun _ => c2), hk.pl, hk.ha, hk.hac, hk.hmu, hk.ul⟩⟩, H.hk, H.ui, (by omega)⟩⟩⟩⟩) (fun ak s w sn b mo r o g f q ch c1 c2 c3 z => absurd z (by omega))
  · refine ⟨fun z => absurd z (by decide), fun _ b eb => ⟨g1, ?_⟩⟩
    refine wp_nl hT hM hsh hk.hK (fun ak s w sn b mo r o g f q ch c1 c2 c3 _ z => absurd z (by omega)) (fun ak s w sn b mo r o g f q ch c1 c2 c3 _ _ => by omega) (fun ak s w sn b mo r o g f q ch c1 c2 c3 z => ⟨fun z => absurd z (by decide), fun _ => ⟨fun z => absurd z (by decide), fun _ m em => ⟨rfl, ⟨(by rw [eb, em, H.fi]), H.ri, H.be, H.wt, H.bd, ⟨n, a, sh, ⟨hk.bk, hk.hsh, (fun _ => g2), (fun _ => c2), hk.pl, hk.ha, hk.hac, hk.hmu, hk.ul⟩⟩, H.hk, H.ui, (by omega)⟩⟩⟩⟩)
theorem step_22 : STEP_22 RelS := by
  intro bHK bHP bPF bWC bRi bBe bFi bWa dB dS dN tC tKi tEa tHa tPr tEx tSt tTo tBe kC kKi kEa kHa kPr kEx kSt kTo kBe aC aWh aTa aWa iRo iEa iLa cC nC nFo nQd nRo nBe nEa nMi nHa nER nMR nTh nPa nOu nFr nQu eM eL eC eS eB eE eF eG pT pK pN pF pS qT qK qN qF qS mKe mUn mFi mRi mBe mWc mAK mSh mIP mUS mWa mWi mSi mRo mSp mRw mSn mBg mLa mMo mRm mOw mGo mFr mQu mCh mPB mPS mFs ub uT uK uN uF uS H v0 v1 hv1
  obtain ⟨n, a, sh, hk⟩ := H.tk
  have hT := hk.bk.1
  obtain rfl := hT.1
  have hM := hk.bk.2.1
  obtain rfl := hM.1
  have hsh := hk.hsh
  have hn := hT.2.1
  have s0 : 0 ≤ sh := by obtain ⟨B, _, hB⟩ := hsh; exact hB.1
  obtain ⟨p1, p2, p3⟩ := hk.pl
  by_cases z : bHP = 0
  · refine ⟨0, by have := H.m7; omega, fun q => absurd z q, fun _ b eb => ⟨rfl, fun q => absurd (by rw [← p1]; exact z) q, fun _ => ⟨fun z => absurd z (by decide), fun _ m em => ⟨rfl, ⟨(by rw [eb, em, H.fi]), H.ri, H.be, H.wt, H.bd, H.tk, H.hk, H.ui, H.m7⟩⟩⟩⟩⟩
  · obtain ⟨l1, l2, l3⟩ := p3 z
    by_cases y : 0 ≤ v0.toInt ∧ v0.toInt < n
    · obtain ⟨K, k1, k2, k3⟩ := rc_K n tKi tEa tHa tPr tEx tSt tBe sh cC H.m7
      refine ⟨K, k1, fun _ => wp_has5 hn (fun t ht et => ⟨fun _ => wp_rc hT hsh hk.hC k2 k3 (fun iRo iEa cC nC nFo nQd nRo nBe nEa nMi nHa nER nMR nTh nPa nOu nFr nQu eM' eL eC eS eB eE eF eG g1 g2 => wp_bf g2 l1 (fun i b1 b2 b3 => ?_)), fun q => absurd q (by decide)⟩) (fun q => absurd y q), fun q => absurd q z⟩
      obtain ⟨P1, P2⟩ := bk_plan b1 (T := bPF.toInt) (by omega) b2 b3
      have on := l3.one P1 t ht
      have on1 : (mPB t).toInt = max (iT (eB i) t) (bPF.toInt + iT (eF i) t) := on.1
      have on2 : (mPB t).toInt + (mPS t).toInt = max (iT (eE i) t) (bPF.toInt + iT (eG i) t) := on.2
      have fin : RelS bHK bHP bPF bWC bRi bBe bFi bWa dB dS dN (nI n) tKi tEa tHa tPr tEx tSt tTo tBe kC kKi kEa kHa kPr kEx kSt kTo kBe aC aWh aTa aWa iRo iEa iLa cC nC nFo nQd nRo nBe nEa nMi nHa nER nMR nTh nPa nOu nFr nQu eM' eL eC eS eB eE eF eG (nI n) pK pN pF pS qT qK qN qF qS mKe mUn mFi mRi mBe mWc mAK mSh mIP mUS mWa mWi mSi mRo mSp mRw mSn mBg mLa mMo mRm mOw mGo mFr mQu mCh mPB mPS mFs ub uT uK uN uF uS := ⟨H.fi, H.ri, H.be, H.wt, H.bd, ⟨n, a, sh, ⟨hk.bk, hk.hsh, (fun _ => g2), hk.hK, hk.pl, hk.ha, hk.hac, hk.hmu, hk.ul⟩⟩, H.hk, H.ui, (by omega)⟩
      rw [et]
      refine ⟨fun q => bk_beg (b1 i (Nat.le_refl _)) hn ht (by omega) (by omega) (fun r er => ⟨g1, fun _ => wp_ist hn (fun u hu eu => ⟨fun _ => ⟨fun _ => ?_, fun q2 => absurd q q2⟩, fun q => absurd q (by decide)⟩) (fun q => absurd (nI_ne hn ht rfl) q), fun q => absurd (by rw [p1]; exact q) z⟩), fun q => bk_spn (b1 i (Nat.le_refl _)) hn ht (by omega) (by omega) (fun r er => ⟨g1, fun _ => wp_ist hn (fun u hu eu => ⟨fun _ => ⟨fun q2 => absurd q2 q, fun _ => ?_⟩, fun q => absurd q (by decide)⟩) (fun q => absurd (nI_ne hn ht rfl) q), fun q => absurd (by rw [p1]; exact q) z⟩)⟩
      · rw [cl_nI (by omega)]
        exact ⟨pk_in t 12 (by omega), i_eq.mpr (by omega), fin⟩
      · rw [cl_nI (by omega)]
        exact ⟨pk_in t 12 (by omega), i_eq.mpr (by omega), fin⟩
    · refine ⟨0, by have := H.m7; omega, fun _ => wp_has5 hn (fun t ht et => absurd (nI_ne hn ht et) y) (fun q => ⟨fun q => absurd rfl q, fun _ b eb => ⟨rfl, fun _ => wp_ist hn (fun t ht et => absurd (nI_ne hn ht et) y) (fun q => ⟨fun q => absurd rfl q, fun _ => ⟨fun z => absurd z (by decide), fun _ m em => ⟨rfl, ⟨(by rw [eb, em, H.fi]), H.ri, H.be, H.wt, H.bd, H.tk, H.hk, H.ui, H.m7⟩⟩⟩⟩), fun q => absurd (by rw [p1]; exact q) z⟩⟩), fun q => absurd q z⟩
theorem step_23 : STEP_23 RelS := by
  intro bHK bHP bPF bWC bRi bBe bFi bWa dB dS dN tC tKi tEa tHa tPr tEx tSt tTo tBe kC kKi kEa kHa kPr kEx kSt kTo kBe aC aWh aTa aWa iRo iEa iLa cC nC nFo nQd nRo nBe nEa nMi nHa nER nMR nTh nPa nOu nFr nQu eM eL eC eS eB eE eF eG pT pK pN pF pS qT qK qN qF qS mKe mUn mFi mRi mBe mWc mAK mSh mIP mUS mWa mWi mSi mRo mSp mRw mSn mBg mLa mMo mRm mOw mGo mFr mQu mCh mPB mPS mFs ub uT uK uN uF uS H
  obtain ⟨n, a, sh, hk⟩ := H.tk
  have hT := hk.bk.1
  obtain rfl := hT.1
  have hM := hk.bk.2.1
  obtain rfl := hM.1
  have hsh := hk.hsh
  have hn := hT.2.1
  have s0 : 0 ≤ sh := by obtain ⟨B, _, hB⟩ := hsh; exact hB.1
  obtain ⟨p1, p2, p3⟩ := hk.pl
  by_cases z : bHP = 0
  · refine ⟨0, by have := H.m7; omega, fun q => absurd z q, fun _ b eb => ⟨rfl, fun q => absurd (by rw [← p1]; exact z) q, fun _ => ⟨fun z => absurd z (by decide), fun _ m em => ⟨rfl, ⟨(by rw [eb, em, H.fi]), H.ri, H.be, H.wt, H.bd, H.tk, H.hk, H.ui, H.m7⟩⟩⟩⟩⟩
  · obtain ⟨l1, l2, l3⟩ := p3 z
    obtain ⟨K, k1, k2, k3⟩ := rc_K n tKi tEa tHa tPr tEx tSt tBe sh cC H.m7
    refine ⟨K, k1, fun _ => wp_rc hT hsh hk.hC k2 k3 (fun iRo iEa cC nC nFo nQd nRo nBe nEa nMi nHa nER nMR nTh nPa nOu nFr nQu eM' eL eC eS eB eE eF eG g1 g2 => wp_bf g2 l1 (fun i b1 b2 b3 => ⟨g1, fun _ => ?_, fun q => absurd (by rw [p1]; exact q) z⟩)), fun q => absurd q z⟩
    obtain ⟨P1, P2⟩ := bk_plan b1 (T := bPF.toInt) (by omega) b2 b3
    have on := P1.one l3
    have sp : ∀ t, t < n → iT tHa t ≤ iT mPS t ∧ iT mPS t ≤ iT tEa t := fun t ht => by
      have a := l3.1.1 t ht
      dsimp only at a
      omega
    have key := mcost_loop hT hM sp (X := fun x1 => ((eC i) - ((eS i) * (Int32.toInt64 (bPF - (eL i))))) = x1 ∧ RelS bHK bHP bPF bWC bRi bBe bFi bWa dB dS dN (nI n) tKi tEa tHa tPr tEx tSt tTo tBe kC kKi kEa kHa kPr kEx kSt kTo kBe aC aWh aTa aWa iRo iEa iLa cC nC nFo nQd nRo nBe nEa nMi nHa nER nMR nTh nPa nOu nFr nQu eM' eL eC eS eB eE eF eG (nI n) pK pN pF pS qT qK qN qF qS mKe mUn mFi mRi mBe mWc mAK mSh mIP mUS mWa mWi mSi mRo mSp mRw mSn mBg mLa mMo mRm mOw mGo mFr mQu mCh mPB mPS mFs ub uT uK uN uF uS) (fun v hv => ⟨?_, ⟨H.fi, H.ri, H.be, H.wt, H.bd, ⟨n, a, sh, ⟨hk.bk, hk.hsh, (fun _ => g2), hk.hK, hk.pl, hk.ha, hk.hac, hk.hmu, hk.ul⟩⟩, H.hk, H.ui, (by omega)⟩⟩) n 0 0 (by omega) rfl
    · exact ⟨_, key⟩
    · have e1 : sT (fun t => cT tKi tEa tPr tEx tSt t (iT mPS t)) n = Cost n (cT tKi tEa tPr tEx tSt) (fun t => max (iT (eB i) t) (bPF.toInt + iT (eF i) t)) (fun t => max (iT (eE i) t) (bPF.toInt + iT (eG i) t)) := by
        unfold Cost
        refine sT_congr (fun t ht => ?_)
        have o := on t ht
        dsimp only at o ⊢
        rw [show max (iT (eE i) t) (bPF.toInt + iT (eG i) t) - max (iT (eB i) t) (bPF.toInt + iT (eF i) t) = iT mPS t by omega]
      have bb := b1 i (Nat.le_refl _)
      have lb := bb.1
      have sb := bb.2.2.1
      have cb := bb.2.1
      have ed : (bPF - eL i).toInt = bPF.toInt - (eL i).toInt := i_sub (by omega) (by omega)
      have pb := mul_bd (a := (eS i).toInt) (b := bPF.toInt - (eL i).toInt) (A := 144000000) (B := 1000) sb.1 sb.2 (by omega) (by omega)
      have em : ((eS i) * (Int32.toInt64 (bPF - (eL i)))).toInt = (eS i).toInt * (bPF.toInt - (eL i).toInt) := by rw [l_mul (by rw [l_of, ed]; omega) (by rw [l_of, ed]; omega), l_of, ed]
      rw [l_eq, l_sub (by rw [em]; omega) (by rw [em]; omega), em, hv, e1, P2]
