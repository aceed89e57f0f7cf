/-! cheapest plans are there; the reference's small loops -/
section PLANEX
variable {n : Nat} {e h : Nat → Int} {c : Nat → Int → Int} {fo : Nat → Nat → Prop} {T : Int}
theorem cost_nonneg {b f : Nat → Int} (hc0 : ∀ t, t < n → ∀ x, h t ≤ x → x ≤ e t → 0 ≤ c t x) (P : Pl n e h fo b f) : 0 ≤ Cost n c b f := sT_nonneg (fun t ht => hc0 t ht _ (P t ht).2.1 (P t ht).2.2.1)
theorem opt_ex {b f : Nat → Int} (hc0 : ∀ t, t < n → ∀ x, h t ≤ x → x ≤ e t → 0 ≤ c t x) (P : Pl n e h fo b f) (L : Len n T f) : ∃ b' f', Opt n e h c fo T b' f' := by
  obtain ⟨v, ⟨b1, f1, h1, h2, h3⟩, hm⟩ := min_int (fun v => ∃ b f, Pl n e h fo b f ∧ Len n T f ∧ Cost n c b f = v) 0 (fun v ⟨b, f, h1, _, h3⟩ => by rw [← h3]; exact cost_nonneg hc0 h1) ⟨_, b, f, P, L, rfl⟩
  exact ⟨b1, f1, h1, h2, fun b2 f2 g1 g2 => by rw [h3]; exact hm _ ⟨b2, f2, g1, g2, rfl⟩⟩
theorem plan_ex (hh : ∀ t, t < n → 0 ≤ h t) (hc : ∀ t, t < n → Cvx (c t) (h t) (e t)) {b f : Nat → Int} (O : Opt n e h c fo T b f) : ∃ b' f', ThePlan n e h c fo T b' f' := by
  have sn : ∀ b f, Pl n e h fo b f → 0 ≤ sT (fun t => b t + f t) n := fun b f P => sT_nonneg (fun t ht => by have := P t ht; have := hh t ht; omega)
  obtain ⟨v, ⟨b1, f1, h1, h2⟩, hm⟩ := min_int (fun v => ∃ b f, Opt n e h c fo T b f ∧ sT (fun t => b t + f t) n = v) 0 (fun v ⟨b, f, h1, h3⟩ => by rw [← h3]; exact sn b f h1.1) ⟨_, b, f, O, rfl⟩
  refine ⟨b1, f1, h1, fun b2 f2 O2 t ht => ?_⟩
  have pi := Pl.inf h1.1 O2.1
  have ps := Pl.sup h1.1 O2.1
  have lat := Cost.lat hc h1.1 O2.1
  have ls : Len n T (fun t => max (f1 t) (f2 t)) := fun t ht => by
    have a := h1.2.1 t ht
    have b := O2.2.1 t ht
    show max _ _ ≤ T
    omega
  have li : Len n T (fun t => min (f1 t) (f2 t)) := fun t ht => by
    have a := h1.2.1 t ht
    show min _ _ ≤ T
    omega
  have c1 := h1.2.2 _ _ ps ls
  have c2 := h1.one O2
  have oi : Opt n e h c fo T (fun t => min (b1 t) (b2 t)) (fun t => min (f1 t) (f2 t)) := ⟨pi, li, fun b3 f3 g1 g2 => by have := h1.2.2 b3 f3 g1 g2; omega⟩
  have s1 := hm _ ⟨_, _, oi, rfl⟩
  rw [← h2] at s1
  have z : sT (fun t => (b1 t + f1 t) - (min (b1 t) (b2 t) + min (f1 t) (f2 t))) n ≤ 0 := by
    rw [sT_sub]; omega
  have z2 := sT_zero_all (fun k _ => by omega) z t ht
  try dsimp only at z2
  omega
theorem Opt.less {b f : Nat → Int} {T' : Int} (hT : T' ≤ T) (O : Opt n e h c fo T b f) (L : Len n T' f) : Opt n e h c fo T' b f := ⟨O.1, L, fun b' f' g1 g2 => O.2.2 b' f' g1 (fun t ht => by have := g2 t ht; omega)⟩
/-- a sum over the first ones that is not above and not below anywhere -/
theorem sum_eq {b b' : Nat → Int} : ∀ {n : Nat}, (∀ t, t < n → b t ≤ b' t) → sT b' n ≤ sT b n → ∀ t, t < n → b t = b' t := by
  intro n h1 h2 t ht
  have z : sT (fun t => b' t - b t) n ≤ 0 := by rw [sT_sub]; omega
  have := sT_zero_all (g := fun t => b' t - b t) (fun k hk => by have := h1 k hk; omega) z t ht
  try dsimp only at this
  omega
end PLANEX
theorem foMC {n : Nat} {tKi tEa tHa tPr tEx tSt tBe : Nat → Int32} {pT : Int32} {pK pN pF : Nat → Int32} (hM : MB n tKi tEa tHa tPr tEx tSt tBe pT pK pN pF) : foM n pF = foC n tBe := by
  funext t o
  apply propext
  constructor
  · rintro ⟨h1, h2, h3⟩
    refine ⟨h1, h2, ?_⟩
    cases hb : bt (tBe t) o
    · exact absurd ((hM.2.2.1 t o h1 h2).mpr hb) h3
    · rfl
  · rintro ⟨h1, h2, h3⟩
    refine ⟨h1, h2, fun q => ?_⟩
    rw [(hM.2.2.1 t o h1 h2).mp q] at h3
    exact absurd h3 (by decide)
section MSMALL
variable {n : Nat} {tKi tEa tHa tPr tEx tSt tBe : Nat → Int32} {pT : Int32} {pK pN pF : Nat → Int32}
theorem lo_in (hn : n ≤ 12) {a : Int32} {k : Nat} (hk : k < 5) (ha : (a = 0 ∧ k = 0) ∨ (¬ a = 0 ∧ k = 1)) {Q : (Nat → Int32) → Prop} (hQ : ∀ r, (∀ t, t < n → r t = pN (5 * t + k)) → Q r) : ∀ (j i : Nat) (x : Nat → Int32), i + j = n → (∀ t, t < i → x t = pN (5 * t + k)) → wp_X9_longest_L2 a pN (nI n) Q (j + 1) (nI i) x := by
  intro j
  induction j with
  | zero =>
    intro i x hi h
    rw [wp_X9_longest_L2]
    exact pk_le n i (fun _ => hQ x (fun t ht => h t (by omega))) (fun q => absurd q (by omega))
  | succ j ih =>
    intro i x hi h
    rw [wp_X9_longest_L2]
    have step : wp_X9_longest_b29 (wp_X9_longest_L2 a pN (nI n) Q (j + 1)) pN (nI i) (nI i) (nI k) (nI i) x := by
      refine wp_num (t := i) (k := k) (by omega) hk ⟨pk_in i 12 (by omega), fun y ey z ez => ?_⟩
      rw [cl_nI (by omega)] at ey
      rw [ez, nI_1]
      refine ih (i + 1) y (by omega) (fun t ht => ?_)
      rw [ey]
      by_cases hti : t = i
      · rw [hti, upd_at]
      · rw [upd_ne hti]; exact h t (by omega)
    refine pk_le n i (fun q => absurd q (by omega)) (fun q => ⟨fun h0 => ?_, fun h1 => ?_⟩)
    · rcases ha with z | z
      · rw [z.2] at step; exact step
      · exact absurd h0 z.1
    · rcases ha with z | z
      · exact absurd z.1 h1
      · rw [z.2] at step; exact step
/-- longest: the shortest plan with all easy, or all hard spans -/
theorem wp_mlong (hT : TB n (nI n) tKi tEa tHa tPr tEx tSt tBe) (hM : MB n tKi tEa tHa tPr tEx tSt tBe pT pK pN pF) {a : Int32} {mRw mSn mBg : Nat → Int32} {Q : Int32 → (Nat → Int32) → (Nat → Int32) → (Nat → Int32) → Prop}
    (hQ : ∀ (r : Int32) (mRw mSn g : Nat → Int32), (∀ t, t < n → mSn t = (if a = 0 then tEa else tHa) t) → Early n (foC n tBe) (iT mSn) (iT g) → LenOf n (iT mSn) (iT g) r.toInt → (∀ t, t < n → (g t).toInt + (mSn t).toInt ≤ 720) → r.toInt ≤ 720 → Q r mRw mSn g) : wp_X9_longest (nI n) pN pF mRw mSn mBg a Q := by
  have hn := hT.2.1
  have hN := hT.2.2.1
  have e := foMC hM
  have hac : Acy (foM n pF) := by rw [e]; exact hT.2.2.2.2
  have fin : ∀ sn : Nat → Int32, (∀ t, t < n → sn t = (if a = 0 then tEa else tHa) t) → wp_X9_early (nI n) pF mRw sn mBg (fun r_16 mRw_17 mBg_18 => Q r_16 mRw_17 sn mBg_18) := fun sn hsn => by
    refine wp_mE hn hac (fun t ht => ?_) (fun r ro g h1 h2 h3 h4 h5 => hQ r ro sn g hsn (by rw [← e]; exact h2) h3 h4 h5)
    have := hN t ht
    obtain ⟨_, _, u3, u4, u5, _⟩ := this
    rw [hsn t ht]
    split <;> omega
  by_cases ha : a = 0
  · refine ⟨n + 1, lo_in (k := 0) hn (by omega) (Or.inl ⟨ha, rfl⟩) (fun sn hsn => fin sn (fun t ht => ?_)) n 0 mSn (by omega) (fun t h => absurd h (by omega))⟩
    rw [if_pos ha, hsn t ht, show 5 * t + 0 = 5 * t by omega, (hM.2.1 t ht).2.1]
  · refine ⟨n + 1, lo_in (k := 1) hn (by omega) (Or.inr ⟨ha, rfl⟩) (fun sn hsn => fin sn (fun t ht => ?_)) n 0 mSn (by omega) (fun t h => absurd h (by omega))⟩
    rw [if_neg ha, hsn t ht, (hM.2.1 t ht).2.2.1]
theorem tk_in (hn : n ≤ 12) {mBg mSn : Nat → Int32} {Q : (Nat → Int32) → Prop} (hQ : ∀ mo, (∀ t, t < n → mo t = mBg t ∧ mo (12 + t) = mBg t + mSn t) → Q mo) : ∀ (j k : Nat) (mo : Nat → Int32), k + j = n → (∀ t, t < k → mo t = mBg t ∧ mo (12 + t) = mBg t + mSn t) → wp_X9_take_L2 mBg mSn (nI n) Q (j + 1) (nI k) mo := by
  intro j
  induction j with
  | zero =>
    intro k mo hk h
    rw [wp_X9_take_L2]
    exact pk_le n k (fun _ => hQ mo (fun t ht => h t (by omega))) (fun q => absurd q (by omega))
  | succ j ih =>
    intro k mo hk h
    rw [wp_X9_take_L2]
    have e12 : (12 : Int32) + nI k = nI (12 + k) := nI_add 12 k
    refine pk_le n k (fun q => absurd q (by omega)) (fun q => ?_)
    rw [e12, cl_nI (by omega), cl_nI (by omega)]
    refine ⟨pk_in k 12 (by omega), pk_in k 24 (by omega), fun m1 e1 => ⟨pk_in k 12 (by omega), pk_in k 12 (by omega), pk_in (12 + k) 24 (by omega), fun m2 e2 y ey => ?_⟩⟩
    rw [ey, nI_1]
    refine ih (k + 1) m2 (by omega) (fun t ht => ?_)
    rw [e2, e1]
    by_cases htk : t = k
    · rw [htk, upd_ne (by omega), upd_at, upd_at]; exact ⟨rfl, rfl⟩
    · rw [upd_ne (by omega), upd_ne htk, upd_ne (by omega), upd_ne (by omega)]; exact h t (by omega)
theorem tk_zero {mo0 : Nat → Int32} {Q : (Nat → Int32) → Prop} (hn : n ≤ 12) (hQ : ∀ mo, (∀ t, t < n → mo t = mo0 t ∧ mo (12 + t) = mo0 (12 + t)) → Q mo) : ∀ (j k : Nat) (mo : Nat → Int32), k + j = 12 → n ≤ k → (∀ t, t < n → mo t = mo0 t ∧ mo (12 + t) = mo0 (12 + t)) → wp_X9_take_L61 Q (j + 1) (nI k) mo := by
  intro j
  induction j with
  | zero =>
    intro k mo hk hnk h
    rw [wp_X9_take_L61]
    exact pk_le 12 k (fun _ => hQ mo h) (fun q => absurd q (by omega))
  | succ j ih =>
    intro k mo hk hnk h
    rw [wp_X9_take_L61]
    have e12 : (12 : Int32) + nI k = nI (12 + k) := nI_add 12 k
    refine pk_le 12 k (fun q => absurd q (by omega)) (fun q => ?_)
    rw [e12, cl_nI (by omega), cl_nI (by omega)]
    refine ⟨pk_in k 24 (by omega), fun m1 e1 => ⟨pk_in (12 + k) 24 (by omega), fun m2 e2 y ey => ?_⟩⟩
    rw [ey, nI_1]
    refine ih (k + 1) m2 (by omega) (by omega) (fun t ht => ?_)
    rw [e2, e1, upd_ne (by omega), upd_ne (by omega), upd_ne (by omega), upd_ne (by omega)]
    exact h t ht
theorem wp_take (hn : n ≤ 12) {mBg mSn mMo : Nat → Int32} {Q : (Nat → Int32) → Prop} (hQ : ∀ mo, (∀ t, t < n → mo t = mBg t ∧ mo (12 + t) = mBg t + mSn t) → Q mo) : wp_X9_take (nI n) mSn mBg mMo Q := by
  refine ⟨n + 1, tk_in hn (fun mo h => ⟨(12 - n) + 1, tk_zero (n := n) (mo0 := mo) hn (fun m2 h2 => hQ m2 (fun t ht => ?_)) (12 - n) n mo (by omega) (Nat.le_refl _) (fun _ _ => ⟨rfl, rfl⟩)⟩) n 0 mMo (by omega) (fun t h => absurd h (by omega))⟩
  rw [(h2 t ht).1, (h2 t ht).2]; exact h t ht
theorem ln_in (hn : n ≤ 12) {mMo : Nat → Int32} {Q : Int32 → Prop} : ∀ (j k : Nat) (x : Int32), k + j = n → (∀ r : Int32, x.toInt ≤ r.toInt → (∀ t, k ≤ t → t < n → fM mMo t ≤ r.toInt) → (r.toInt = x.toInt ∨ ∃ t, t < n ∧ r.toInt = fM mMo t) → Q r) → wp_X9_lengthNow_L4 mMo (nI n) Q (j + 1) x (nI k) := by
  intro j
  induction j with
  | zero =>
    intro k x hk hQ
    rw [wp_X9_lengthNow_L4]
    exact pk_le n k (fun _ => hQ x (by omega) (fun t h1 h2 => by omega) (Or.inl rfl)) (fun q => absurd q (by omega))
  | succ j ih =>
    intro k x hk hQ
    rw [wp_X9_lengthNow_L4]
    have e12 : (12 : Int32) + nI k = nI (12 + k) := nI_add 12 k
    refine pk_le n k (fun q => absurd q (by omega)) (fun q => ?_)
    rw [e12, cl_nI (by omega)]
    refine ⟨pk_in (12 + k) 24 (by omega), fun y ey z ez => ?_⟩
    have ey' : y.toInt = max x.toInt (fM mMo k) := by rw [ey, ifs_max]; rfl
    rw [ez, nI_1]
    refine ih (k + 1) y (by omega) (fun r g1 g2 g3 => hQ r (by omega) (fun t h1 h2 => ?_) ?_)
    · rcases Nat.lt_or_ge k t with z | z
      · exact g2 t (by omega) h2
      · rw [show t = k by omega]; omega
    · rcases g3 with z | z
      · rcases Int.le_total x.toInt (fM mMo k) with w | w
        · exact Or.inr ⟨k, by omega, by omega⟩
        · exact Or.inl (by omega)
      · exact Or.inr z
/-- the greatest end -/
def MaxEnd (n : Nat) (f : Nat → Int) (L : Int) : Prop := 0 ≤ L ∧ (∀ t, t < n → f t ≤ L) ∧ (L = 0 ∨ ∃ t, t < n ∧ L = f t)
theorem MaxEnd.one {f f' : Nat → Int} {L L' : Int} (hf : ∀ t, t < n → f t = f' t) (h : MaxEnd n f L) (h' : MaxEnd n f' L') : L = L' := by
  obtain ⟨a1, a2, a3⟩ := h
  obtain ⟨c1, c2, c3⟩ := h'
  have l1 : L ≤ L' := by
    rcases a3 with q | ⟨t, q, q2⟩
    · omega
    · have := c2 t q; rw [hf t q] at q2; omega
  have l2 : L' ≤ L := by
    rcases c3 with q | ⟨t, q, q2⟩
    · omega
    · have := a2 t q; rw [hf t q] at this; omega
  omega
theorem wp_len (hn : n ≤ 12) {mMo : Nat → Int32} {Q : Int32 → Prop} (hQ : ∀ r : Int32, MaxEnd n (fM mMo) r.toInt → Q r) : wp_X9_lengthNow (nI n) mMo Q :=
  ⟨n + 1, ln_in hn n 0 0 (by omega) (fun r g1 g2 g3 => hQ r ⟨g1, fun t ht => g2 t (Nat.zero_le _) ht, g3⟩)⟩
/-- sums of costs in the reference -/
theorem sT_bound {g : Nat → Int} {B : Int} : ∀ {n : Nat}, (∀ k, k < n → 0 ≤ g k ∧ g k ≤ B) → 0 ≤ sT g n ∧ sT g n ≤ n * B
  | 0, _ => by simp [sT]
  | n + 1, h => by
    have i := sT_bound (n := n) (fun k hk => h k (by omega))
    have a := h n (by omega)
    rw [sT]
    have : ((n + 1 : Nat) : Int) * B = n * B + B := by rw [Int.natCast_add, Int.add_mul]; omega
    omega
theorem cn_in (hT : TB n (nI n) tKi tEa tHa tPr tEx tSt tBe) (hM : MB n tKi tEa tHa tPr tEx tSt tBe pT pK pN pF) {mMo : Nat → Int32} (hP : ∀ t, t < n → 0 ≤ bM mMo t ∧ fM mMo t ≤ 100000 ∧ iT tHa t ≤ fM mMo t - bM mMo t ∧ fM mMo t - bM mMo t ≤ iT tEa t) {Q : Int64 → Prop} (hQ : ∀ v : Int64, v.toInt = Cost n (cT tKi tEa tPr tEx tSt) (bM mMo) (fM mMo) → Q v) :
    ∀ (j k : Nat) (x : Int64), k + j = n → x.toInt = sT (fun t => cT tKi tEa tPr tEx tSt t (fM mMo t - bM mMo t)) k → wp_X9_costNow_L4 mMo pK pN (nI n) Q (j + 1) x (nI k) := by
  have hn := hT.2.1
  have hN := hT.2.2.1
  have hbd : ∀ t, t < n → 0 ≤ cT tKi tEa tPr tEx tSt t (fM mMo t - bM mMo t) ∧ cT tKi tEa tPr tEx tSt t (fM mMo t - bM mMo t) ≤ 12000000 := fun t ht => cT_bd (hN t ht) (hP t ht).2.2.1 (hP t ht).2.2.2
  intro j
  induction j with
  | zero =>
    intro k x hk h
    rw [wp_X9_costNow_L4]
    rw [show k = n by omega] at h ⊢
    exact pk_le n n (fun _ => hQ x h) (fun q => absurd q (by omega))
  | succ j ih =>
    intro k x hk h
    rw [wp_X9_costNow_L4]
    have e12 : (12 : Int32) + nI k = nI (12 + k) := nI_add 12 k
    refine pk_le n k (fun q => absurd q (by omega)) (fun q => ?_)
    rw [e12, cl_nI (by omega), cl_nI (by omega)]
    obtain ⟨p1, p2, p3, p4⟩ := hP k (by omega)
    have p1' : 0 ≤ (mMo k).toInt := p1
    have p2' : (mMo (12 + k)).toInt ≤ 100000 := p2
    have p3' : (tHa k).toInt ≤ (mMo (12 + k)).toInt - (mMo k).toInt := p3
    have p4' : (mMo (12 + k)).toInt - (mMo k).toInt ≤ (tEa k).toInt := p4
    obtain ⟨_, _, u3, u4, u5, _⟩ := id (hN k (by omega))
    have es := i_sub (a := mMo (12 + k)) (b := mMo k) (by omega) (by omega)
    have sb := sT_bound (g := fun t => cT tKi tEa tPr tEx tSt t (fM mMo t - bM mMo t)) (B := 12000000) (n := k) (fun t ht => hbd t (by omega))
    have cb := hbd k (by omega)
    refine ⟨pk_in (12 + k) 24 (by omega), pk_in k 24 (by omega), wp_mcost hM hn (by omega) (hN k (by omega)) (fun v _ _ ev y ey z ez => ?_) (fun q => absurd ⟨by rw [es]; exact p3', by rw [es]; exact p4'⟩ q)⟩
    rw [es] at ev
    have ev' : v.toInt = cT tKi tEa tPr tEx tSt k (fM mMo k - bM mMo k) := ev
    rw [ez, nI_1]
    refine ih (k + 1) y (by omega) ?_
    rw [ey, l_add (by omega) (by omega), sT, h, ev']
theorem wp_cnow (hT : TB n (nI n) tKi tEa tHa tPr tEx tSt tBe) (hM : MB n tKi tEa tHa tPr tEx tSt tBe pT pK pN pF) {mMo : Nat → Int32} (hP : Pl n (iT tEa) (iT tHa) (foC n tBe) (bM mMo) (fM mMo)) (hL : Len n 100000 (fM mMo)) {Q : Int64 → Prop} (hQ : ∀ v : Int64, v.toInt = Cost n (cT tKi tEa tPr tEx tSt) (bM mMo) (fM mMo) → Q v) : wp_X9_costNow (nI n) pK pN mMo Q :=
  ⟨n + 1, cn_in hT hM (fun t ht => ⟨(hP t ht).1, hL t ht, (hP t ht).2.1, (hP t ht).2.2.1⟩) hQ n 0 0 (by omega) rfl⟩
end MSMALL
