/-! the reference: the cheapest costs of all lengths -/
def CAt (n : Nat) (e h : Nat → Int) (c : Nat → Int → Int) (fo : Nat → Nat → Prop) (T v : Int) : Prop := ∃ b f, Opt n e h c fo T b f ∧ Cost n c b f = v
theorem CAt.one {n : Nat} {e h : Nat → Int} {c : Nat → Int → Int} {fo : Nat → Nat → Prop} {T v w : Int} (H : CAt n e h c fo T v) (H' : CAt n e h c fo T w) : v = w := by
  obtain ⟨b, f, h1, h2⟩ := H
  obtain ⟨b', f', h1', h2'⟩ := H'
  rw [← h2, ← h2']; exact h1.one h1'
/-- a task's cost is least at its easy span, or at its hard one -/
theorem cT_end {tKi tEa tHa tPr tEx tSt : Nat → Int32} {t : Nat} (H : NumOK (tKi t) (tEa t) (tHa t) (tPr t) (tEx t) (tSt t)) :
    (∀ x, (tHa t).toInt ≤ x → x ≤ (tEa t).toInt → cT tKi tEa tPr tEx tSt t (tEa t).toInt ≤ cT tKi tEa tPr tEx tSt t x) ∨ ((tHa t).toInt < (tEa t).toInt ∧ cT tKi tEa tPr tEx tSt t (tHa t).toInt < cT tKi tEa tPr tEx tSt t (tEa t).toInt ∧ ∀ x, (tHa t).toInt ≤ x → x ≤ (tEa t).toInt → cT tKi tEa tPr tEx tSt t (tHa t).toInt ≤ cT tKi tEa tPr tEx tSt t x) := by
  obtain ⟨a1, a2, a3, a4, a5, a6, a7, a8, a9, a10, a11⟩ := H
  by_cases k4 : (tKi t).toInt = 4
  · have lin : ∀ x y, cT tKi tEa tPr tEx tSt t x - cT tKi tEa tPr tEx tSt t y = ((tEx t).toInt - (tPr t).toInt) * (x - y) := by
      intro x y
      unfold cT aCost
      rw [if_pos k4, if_pos k4, if_neg (by omega), if_neg (by omega), Int.sub_mul, Int.mul_sub, Int.mul_sub, Int.mul_sub, Int.mul_sub]
      omega
    by_cases hlt : (tPr t).toInt < (tEx t).toInt ∧ (tHa t).toInt < (tEa t).toInt
    · refine Or.inr ⟨hlt.2, ?_, fun x h1 h2 => ?_⟩
      · have := lin (tEa t).toInt (tHa t).toInt
        have := Int.mul_pos (show 0 < (tEx t).toInt - (tPr t).toInt by omega) (show 0 < (tEa t).toInt - (tHa t).toInt by omega)
        omega
      · have := lin x (tHa t).toInt
        have := Int.mul_nonneg (show 0 ≤ (tEx t).toInt - (tPr t).toInt by omega) (show 0 ≤ x - (tHa t).toInt by omega)
        omega
    · refine Or.inl (fun x h1 h2 => ?_)
      have l := lin x (tEa t).toInt
      rcases Int.lt_or_le (tHa t).toInt (tEa t).toInt with q | q
      · have m := Int.mul_nonneg (show 0 ≤ (tPr t).toInt - (tEx t).toInt by omega) (show 0 ≤ (tEa t).toInt - x by omega)
        have e : ((tEx t).toInt - (tPr t).toInt) * (x - (tEa t).toInt) = ((tPr t).toInt - (tEx t).toInt) * ((tEa t).toInt - x) := by
          rw [show (tEx t).toInt - (tPr t).toInt = -((tPr t).toInt - (tEx t).toInt) by omega, show x - (tEa t).toInt = -((tEa t).toInt - x) by omega, Int.neg_mul_neg]
        omega
      · rw [show x = (tEa t).toInt by omega]; exact Int.le_refl _
  · refine Or.inl (fun x h1 h2 => ?_)
    unfold cT aCost
    rw [if_neg k4, if_neg k4]
    have p1 := Int.mul_nonneg a6 (show 0 ≤ (tEa t).toInt - x by omega)
    by_cases k2 : (tKi t).toInt = 2
    · rw [if_pos k2, if_pos k2]
      have p2 := Int.mul_nonneg a10 (show 0 ≤ max 0 ((tEa t).toInt - (tEx t).toInt - x) by omega)
      rw [show (tEa t).toInt - (tEa t).toInt = 0 by omega, show max 0 ((tEa t).toInt - (tEx t).toInt - (tEa t).toInt) = 0 by omega, Int.mul_zero, Int.mul_zero]
      omega
    · rw [if_neg k2, if_neg k2, show (tEa t).toInt - (tEa t).toInt = 0 by omega, Int.mul_zero]
      omega
theorem mI_toInt {k : Nat} (h : k < 2 ^ 31) : (mI k).toInt = (k : Int) - 1 := by
  unfold mI
  have e1 : (-1 : Int32).toInt = -1 := rfl
  rw [i_add (by rw [nI_toInt h, e1]; omega) (by rw [nI_toInt h, e1]; omega), nI_toInt h, e1]
  omega
section MKNOW
variable {n : Nat} {tKi tEa tHa tPr tEx tSt tBe : Nat → Int32} {pT : Int32} {pK pN pF : Nat → Int32}
theorem kn_a (hT : TB n (nI n) tKi tEa tHa tPr tEx tSt tBe) (hM : MB n tKi tEa tHa tPr tEx tSt tBe pT pK pN pF) {t : Nat} (ht : t < n) (hmin : ∀ x, (tHa t).toInt ≤ x → x ≤ (tEa t).toInt → cT tKi tEa tPr tEx tSt t (tEa t).toInt ≤ cT tKi tEa tPr tEx tSt t x) {mSn : Nat → Int32} (hs : mSn t = tEa t) {Q : (Nat → Int32) → Prop} (hQ : Q mSn) :
    ∀ (j : Nat) (x : Int32), x.toInt + j = (tEa t).toInt → (tHa t).toInt ≤ x.toInt → wp_X9_know_L49 pK pN (nI t) Q (j + 1) x mSn := by
  have hn := hT.2.1
  have hN := hT.2.2.1 t ht
  intro j
  induction j with
  | zero =>
    intro x hx hh
    rw [wp_X9_know_L49, cl_nI (by omega), hs]
    exact ⟨pk_in t 12 (by omega), fun _ => hQ, fun q => absurd (by rw [i_le]; omega) q⟩
  | succ j ih =>
    intro x hx hh
    obtain ⟨_, _, u3, u4, u5, _⟩ := id hN
    rw [wp_X9_know_L49, cl_nI (by omega), hs]
    refine ⟨pk_in t 12 (by omega), fun q => absurd q (by rw [i_le]; omega), fun _ => wp_mcost hM hn ht hN (fun r0 _ _ q0 => ⟨pk_in t 12 (by omega), wp_mcost hM hn ht hN (fun r1 _ _ q1 => ?_) (fun z => absurd ⟨by omega, by omega⟩ z)⟩) (fun z => absurd ⟨by omega, by omega⟩ z)⟩
    rw [cmp_ge0, q0, q1]
    refine ⟨fun _ y ey => ?_, fun z => absurd (hmin _ hh (by omega)) z⟩
    have ey' : y.toInt = x.toInt + 1 := by rw [ey, i_add (by rw [lt1]; omega) (by rw [lt1]; omega), lt1]
    exact ih y (by omega) (by omega)
theorem kn_t (hT : TB n (nI n) tKi tEa tHa tPr tEx tSt tBe) (hM : MB n tKi tEa tHa tPr tEx tSt tBe pT pK pN pF) {t : Nat} (ht : t < n) {mSn : Nat → Int32} (hs : mSn t = tEa t) {Q : (Nat → Int32) → Prop}
    (hQ : ∀ s : Nat → Int32, (∀ o, o ≠ t → s o = mSn o) → (tHa t).toInt ≤ (s t).toInt → (s t).toInt ≤ (tEa t).toInt → (∀ x, (tHa t).toInt ≤ x → x ≤ (tEa t).toInt → cT tKi tEa tPr tEx tSt t (s t).toInt ≤ cT tKi tEa tPr tEx tSt t x) → Q s) : ∃ k, wp_X9_know_L49 pK pN (nI t) Q k (tHa t) mSn := by
  have hn := hT.2.1
  have hN := hT.2.2.1 t ht
  obtain ⟨_, _, u3, u4, u5, _⟩ := id hN
  rcases cT_end hN with h | ⟨h1, h2, h3⟩
  · exact ⟨_, kn_a hT hM ht h hs (hQ mSn (fun _ _ => rfl) (by rw [hs]; omega) (by rw [hs]; omega) (by rw [hs]; exact h)) ((tEa t).toInt - (tHa t).toInt).toNat (tHa t) (by omega) (by omega)⟩
  · refine ⟨2, ?_⟩
    rw [wp_X9_know_L49, cl_nI (by omega), hs]
    refine ⟨pk_in t 12 (by omega), fun q => absurd q (by rw [i_le]; omega), fun _ => wp_mcost hM hn ht hN (fun r0 _ _ q0 => ⟨pk_in t 12 (by omega), wp_mcost hM hn ht hN (fun r1 _ _ q1 => ?_) (fun z => absurd ⟨by omega, by omega⟩ z)⟩) (fun z => absurd ⟨by omega, by omega⟩ z)⟩
    rw [cmp_ge0, q0, q1]
    refine ⟨fun z => absurd z (by omega), fun _ => ⟨pk_in t 12 (by omega), fun s es y ey => ?_⟩⟩
    have ey' : y.toInt = (tHa t).toInt + 1 := by rw [ey, i_add (by rw [lt1]; omega) (by rw [lt1]; omega), lt1]
    have est : s t = tHa t := by rw [es, upd_at]
    rw [wp_X9_know_L49, cl_nI (by omega), est]
    refine ⟨pk_in t 12 (by omega), fun _ => hQ s (fun o ho => by rw [es, upd_ne ho]) (by rw [est]; omega) (by rw [est]; omega) (by rw [est]; exact h3), fun z => absurd (by rw [i_le]; omega) z⟩
theorem kn_all (hT : TB n (nI n) tKi tEa tHa tPr tEx tSt tBe) (hM : MB n tKi tEa tHa tPr tEx tSt tBe pT pK pN pF) {Q : (Nat → Int32) → Prop}
    (hQ : ∀ s : Nat → Int32, (∀ t, t < n → (tHa t).toInt ≤ (s t).toInt ∧ (s t).toInt ≤ (tEa t).toInt ∧ ∀ x, (tHa t).toInt ≤ x → x ≤ (tEa t).toInt → cT tKi tEa tPr tEx tSt t (s t).toInt ≤ cT tKi tEa tPr tEx tSt t x) → Q s) :
    ∀ (j k : Nat) (s : Nat → Int32), k + j = n → (∀ t, t < k → (tHa t).toInt ≤ (s t).toInt ∧ (s t).toInt ≤ (tEa t).toInt ∧ ∀ x, (tHa t).toInt ≤ x → x ≤ (tEa t).toInt → cT tKi tEa tPr tEx tSt t (s t).toInt ≤ cT tKi tEa tPr tEx tSt t x) → wp_X9_know_L19 pK pN (nI n) Q (j + 1) (nI k) s := by
  have hn := hT.2.1
  intro j
  induction j with
  | zero =>
    intro k s hk h
    rw [wp_X9_know_L19]
    exact pk_le n k (fun _ => hQ s (fun t ht => h t (by omega))) (fun q => absurd q (by omega))
  | succ j ih =>
    intro k s hk h
    rw [wp_X9_know_L19]
    refine pk_le n k (fun q => absurd q (by omega)) (fun q => wp_num (t := k) (k := 0) (by omega) (by omega) ⟨pk_in k 12 (by omega), fun s1 e1 => wp_num (t := k) (k := 1) (by omega) (by omega) ?_⟩)
    obtain ⟨_, m2, m3, _⟩ := hM.2.1 k (by omega)
    rw [cl_nI (by omega), show 5 * k + 0 = 5 * k by omega, m2] at e1
    rw [m3]
    refine kn_t hT hM (by omega) (by rw [e1, upd_at]) (fun s2 g1 g2 g3 g4 y ey => ?_)
    rw [ey, nI_1]
    refine ih (k + 1) s2 (by omega) (fun t ht => ?_)
    by_cases htk : t = k
    · rw [htk]; exact ⟨g2, g3, g4⟩
    · rw [g1 t htk, e1, upd_ne htk]; exact h t (by omega)
/-- one length less -/
theorem kn_while (hT : TB n (nI n) tKi tEa tHa tPr tEx tSt tBe) (hM : MB n tKi tEa tHa tPr tEx tSt tBe pT pK pN pF) {x : Int32} (hx : 0 ≤ x.toInt ∧ x.toInt ≤ 720) {b0 f0 : Nat → Int} (hp0 : Pl n (iT tEa) (iT tHa) (foC n tBe) b0 f0) (hl0 : Len n x.toInt f0)
    {mMo : Nat → Int32} (hO : Opt n (iT tEa) (iT tHa) (cT tKi tEa tPr tEx tSt) (foC n tBe) (x.toInt + 1) (bM mMo) (fM mMo)) {mRm mOw : Nat → Int64} {mGo mFr mQu : Nat → Int32} {Q : (Nat → Int32) → (Nat → Int64) → (Nat → Int64) → (Nat → Int32) → (Nat → Int32) → (Nat → Int32) → Prop}
    (hQ : ∀ mo r o g f q, Opt n (iT tEa) (iT tHa) (cT tKi tEa tPr tEx tSt) (foC n tBe) x.toInt (bM mo) (fM mo) → Q mo r o g f q) : ∃ k, wp_X9_know_L120 pF pK pN (nI n) x Q k mMo mRm mOw mGo mFr mQu := by
  have hn := hT.2.1
  have em1 : (-1 : Int32).toInt = -1 := rfl
  refine ⟨2, ?_⟩
  rw [wp_X9_know_L120]
  refine wp_len hn (fun r hr => ⟨fun h => hQ _ _ _ _ _ _ (hO.less (by omega) (fun t ht => ?_)), fun h => ?_⟩)
  · rw [i_le] at h; have := hr.2.1 t ht; omega
  · obtain ⟨bo, fo', ho⟩ := opt_ex hT.c0 hp0 hl0
    obtain ⟨X, Z, d1, d2, d3⟩ := down_one hT.cvx hO ho
    have F0 : Pl n (iT tEa) (iT tHa) (foC n tBe) (mvb (-1 : Int32).toInt (bM mMo) (NS X Z)) (mvf (-1 : Int32).toInt (fM mMo) (NS X Z)) ∧ Len n x.toInt (mvf (-1 : Int32).toInt (fM mMo) (NS X Z)) := by
      rw [em1]
      exact ⟨d1.congr (fun t ht => dn_mv _ _ _ (by omega)) (fun t ht => dn_mvf _ _ _ (by omega)), d2.congr (fun t ht => dn_mvf _ _ _ (by omega))⟩
    refine wp_cut (s := -1) hT hM hO.1 (Or.inr ⟨em1, hO.2.1⟩) ⟨hx.1, by omega⟩ (NS_src X Z) F0 (fun r mo m2 o2 g2 f2 q2 R hR hin hr2 hmo hRP hRL hmin hfew => ?_)
    have hP' : Pl n (iT tEa) (iT tHa) (foC n tBe) (bM mo) (fM mo) := hRP.congr (fun t ht => (hmo t ht).1.symm) (fun t ht => (hmo t ht).2.symm)
    have hL' : Len n x.toInt (fM mo) := hRL.congr (fun t ht => (hmo t ht).2.symm)
    have hO' : Opt n (iT tEa) (iT tHa) (cT tKi tEa tPr tEx tSt) (foC n tBe) x.toInt (bM mo) (fM mo) := by
      refine ⟨hP', hL', fun b' f' g1 g2 => ?_⟩
      have k1 := hmin (NS X Z) (NS_src X Z) F0.1 F0.2
      rw [em1] at k1 hmo
      rw [← cost_dn hn, ← Cost.congr (c := cT tKi tEa tPr tEx tSt) (b := bM mo) (f := fM mo) (fun t ht => (hmo t ht).1) (fun t ht => (hmo t ht).2)] at k1
      have k2 := ho.2.2 b' f' g1 g2
      omega
    rw [wp_X9_know_L120]
    refine wp_len hn (fun r3 hr3 => ⟨fun h => hQ _ _ _ _ _ _ hO', fun h => absurd ?_ h⟩)
    rw [i_le]
    rcases hr3.2.2 with z | ⟨t, z1, z2⟩
    · omega
    · have := hL' t z1; omega
def Known (n : Nat) (e h : Nat → Int) (c : Nat → Int → Int) (fo : Nat → Nat → Prop) (mSh : Int32) (mCh : Nat → Int64) : Prop := Sh n fo h mSh.toInt ∧ mSh.toInt ≤ 720 ∧ ∀ T : Nat, mSh.toInt ≤ T → T ≤ 720 → CAt n e h c fo T (mCh T).toInt
theorem kn_loop (hT : TB n (nI n) tKi tEa tHa tPr tEx tSt tBe) (hM : MB n tKi tEa tHa tPr tEx tSt tBe pT pK pN pF) {mSh : Int32} (hsh : Sh n (foC n tBe) (iT tHa) mSh.toInt) (hs7 : mSh.toInt ≤ 720) {sn : Nat} (hsn : mSh.toInt = sn)
    {Q : (Nat → Int32) → (Nat → Int64) → (Nat → Int64) → (Nat → Int32) → (Nat → Int32) → (Nat → Int32) → (Nat → Int64) → Prop} (hQ : ∀ mo r o g f q ch, Known n (iT tEa) (iT tHa) (cT tKi tEa tPr tEx tSt) (foC n tBe) mSh ch → Q mo r o g f q ch) :
    ∀ (j k : Nat) (mMo : Nat → Int32) (mRm mOw : Nat → Int64) (mGo mFr mQu : Nat → Int32) (mCh : Nat → Int64), k = sn + j → k ≤ 721 → Opt n (iT tEa) (iT tHa) (cT tKi tEa tPr tEx tSt) (foC n tBe) k (bM mMo) (fM mMo) → (∀ T : Nat, k ≤ T → T ≤ 720 → CAt n (iT tEa) (iT tHa) (cT tKi tEa tPr tEx tSt) (foC n tBe) T (mCh T).toInt) → wp_X9_know_L112 pF pK pN (nI n) mSh Q (j + 1) (mI k) mMo mRm mOw mGo mFr mQu mCh := by
  have hn := hT.2.1
  intro j
  induction j with
  | zero =>
    intro k mMo mRm mOw mGo mFr mQu mCh hk h7 hO hC
    rw [wp_X9_know_L112]
    refine ⟨fun _ => hQ _ _ _ _ _ _ _ ⟨hsh, hs7, fun T t1 t2 => hC T (by omega) t2⟩, fun q => absurd ?_ q⟩
    rw [i_lt, mI_toInt (by omega)]; omega
  | succ j ih =>
    intro k mMo mRm mOw mGo mFr mQu mCh hk h7 hO hC
    obtain ⟨N, rfl⟩ : ∃ N, k = N + 1 := ⟨k - 1, by omega⟩
    rw [wp_X9_know_L112, mI_s]
    have hNi : (nI N).toInt = N := nI_toInt (by omega)
    obtain ⟨B, b1, b2⟩ := hsh
    have pl0 := early_pl (e := iT tEa) (h := iT tHa) (fun t ht => ⟨Int.le_refl _, (hT.he t ht).1⟩) b1
    have ln0 : Len n (nI N).toInt (fun t => B t + iT tHa t) := fun t ht => by have := b2.2.1 t ht; dsimp only; omega
    refine ⟨fun q => absurd q (by rw [i_lt, hNi]; omega), fun _ => kn_while hT hM (by rw [hNi]; omega) pl0 ln0 (by rw [hNi]; exact hO) (fun mo r o g f q hO2 => ?_)⟩
    refine wp_cnow hT hM hO2.1 (fun t ht => by have := hO2.2.1 t ht; rw [hNi] at this; omega) (fun v hv => ⟨pk_in N 721 (by omega), fun ch ech y ey => ?_⟩)
    rw [cl_nI (by omega)] at ech
    rw [hNi] at hO2
    have e3 : y = mI N := ey
    rw [e3]
    refine ih N mo r o g f q ch (by omega) (by omega) hO2 (fun T t1 t2 => ?_)
    rw [ech]
    by_cases hTN : T = N
    · rw [hTN, updL_at]; exact ⟨_, _, hO2, hv.symm⟩
    · rw [updL_ne hTN]; exact hC T (by omega) t2
theorem wp_mknow (hT : TB n (nI n) tKi tEa tHa tPr tEx tSt tBe) (hM : MB n tKi tEa tHa tPr tEx tSt tBe pT pK pN pF) {mAK mSh : Int32} {mCh : Nat → Int64} (hK : ¬ mAK = 0 → Known n (iT tEa) (iT tHa) (cT tKi tEa tPr tEx tSt) (foC n tBe) mSh mCh) {mRw mSn mBg mMo : Nat → Int32} {mRm mOw : Nat → Int64} {mGo mFr mQu : Nat → Int32}
    {Q : (Int32) → (Int32) → (Nat → Int32) → (Nat → Int32) → (Nat → Int32) → (Nat → Int32) → (Nat → Int64) → (Nat → Int64) → (Nat → Int32) → (Nat → Int32) → (Nat → Int32) → (Nat → Int64) → Prop}
    (hQ : ∀ ak sh w s b mo r o g f q ch, ¬ ak = 0 → Known n (iT tEa) (iT tHa) (cT tKi tEa tPr tEx tSt) (foC n tBe) sh ch → Q ak sh w s b mo r o g f q ch) : wp_X9_know (nI n) pK pN pF mAK mSh mRw mSn mBg mMo mRm mOw mGo mFr mQu mCh Q := by
  have hn := hT.2.1
  obtain ⟨rk, hr⟩ := id hT.2.2.2.2
  have one0 : ¬ (1 : Int32) = 0 := by decide
  refine ⟨fun h0 => ?_, fun h0 => hQ _ _ _ _ _ _ _ _ _ _ _ _ h0 (hK h0)⟩
  refine wp_mlong hT hM (fun r w sn g h1 h2 h3 h4 h5 sh esh => ⟨n + 1, kn_all hT hM (fun s hs => ?_) n 0 sn (by omega) (fun t h => absurd h (by omega))⟩)
  have hsn : ∀ t, t < n → iT sn t = iT tHa t := fun t ht => by unfold iT; rw [h1 t ht, if_neg one0]
  have hSh : Sh n (foC n tBe) (iT tHa) sh.toInt := by
    rw [esh]
    refine ⟨iT g, fun t ht => ?_, h3.1, fun t ht => ?_, ?_⟩
    · obtain ⟨a1, a2, a3⟩ := h2 t ht
      refine ⟨a1, fun o ho => by rw [← hsn o ho.2.1]; exact a2 o ho, ?_⟩
      rcases a3 with z | ⟨o, z1, z2⟩
      · exact Or.inl z
      · exact Or.inr ⟨o, z1, by rw [← hsn o z1.2.1]; exact z2⟩
    · rw [← hsn t ht]; exact h3.2.1 t ht
    · rcases h3.2.2 with z | ⟨t, z1, z2⟩
      · exact Or.inl z
      · exact Or.inr ⟨t, z1, by rw [← hsn t z1]; exact z2⟩
  have e := foMC hM
  have hac : Acy (foM n pF) := by rw [e]; exact hT.2.2.2.2
  refine wp_mE hn hac (fun t ht => ?_) (fun r2 w2 g2 k1 k2 k3 k4 k5 => wp_take hn (fun mo hmo => ?_))
  · have a := hs t ht
    have b := hT.h0 t ht
    have c := hT.he t ht
    unfold iT at b c
    omega
  · rw [e] at k2
    have hb : ∀ t, t < n → bM mo t = iT g2 t ∧ fM mo t = iT g2 t + iT s t := fun t ht => by
      have a := (k2 t ht).1
      have b := k4 t ht
      have c := hT.h0 t ht
      have d := hs t ht
      unfold bM fM
      rw [(hmo t ht).1, (hmo t ht).2]
      unfold iT at *
      exact ⟨rfl, i_add (by omega) (by omega)⟩
    have pl0 := early_pl (e := iT tEa) (h := iT tHa) (fun t ht => ⟨(hs t ht).1, (hs t ht).2.1⟩) k2
    have pl : Pl n (iT tEa) (iT tHa) (foC n tBe) (bM mo) (fM mo) := pl0.congr (fun t ht => (hb t ht).1.symm) (fun t ht => (hb t ht).2.symm)
    have opt : Opt n (iT tEa) (iT tHa) (cT tKi tEa tPr tEx tSt) (foC n tBe) ((721 : Nat) : Int) (bM mo) (fM mo) := by
      refine ⟨pl, fun t ht => ?_, fun b' f' g1 g2' => sT_le (fun t ht => ?_)⟩
      · rw [(hb t ht).2]; have b : iT g2 t + iT s t ≤ 720 := k4 t ht; omega
      · have p := g1 t ht
        have q := (hs t ht).2.2 _ p.2.1 p.2.2.1
        rw [(hb t ht).1, (hb t ht).2, show iT g2 t + iT s t - iT g2 t = iT s t by omega]
        exact q
    have hs7 : sh.toInt ≤ 720 := by rw [esh]; exact h5
    have hs0 : 0 ≤ sh.toInt := by rw [esh]; exact h3.1
    have key := kn_loop (Q := fun a1 a2 a3 a4 a5 a6 a7 => ∀ ak : Int32, ak = 1 → Q ak sh w2 s g2 a1 a2 a3 a4 a5 a6 a7) hT hM hSh hs7 (sn := sh.toInt.toNat) (by omega) (fun mo r o g f q ch hk ak eak => hQ ak sh w2 s g2 mo r o g f q ch (by rw [eak]; decide) hk) (721 - sh.toInt.toNat) 721 mo mRm mOw mGo mFr mQu mCh (by omega) (Nat.le_refl _) opt (fun T t1 t2 => by omega)
    have e720 : mI 721 = 720 := mI_s 720
    rw [e720] at key
    exact ⟨_, key⟩
end MKNOW
