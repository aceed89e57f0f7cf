/-! steps: check -/
/-- a told task keeps all that is asked -/
def GoodT (n : Nat) (tEa tHa tBe bWa : Nat → Int32) (w : Nat) (v : Int) (t : Nat) : Prop := 2 * t + 1 < w ∧ (tHa t).toInt ≤ (bWa (2 * t + 1)).toInt ∧ (bWa (2 * t + 1)).toInt ≤ (tEa t).toInt ∧ 0 ≤ (bWa (2 * t)).toInt ∧ (bWa (2 * t)).toInt + (bWa (2 * t + 1)).toInt ≤ v ∧ ∀ o, foC n tBe t o → 2 * o + 1 < w → (bWa (2 * o)).toInt + (bWa (2 * o + 1)).toInt ≤ (bWa (2 * t)).toInt
section STEPM
variable {n : Nat} {tKi tEa tHa tPr tEx tSt tBe : Nat → Int32} {pT : Int32} {pK pN pF : Nat → Int32} {sh : Int} {bFi mFi mAK mSh : Int32} {mCh : Nat → Int64} {mRw mSn mBg mMo : Nat → Int32} {mRm mOw : Nat → Int64} {mGo mFr mQu : Nat → Int32} {iRo iEa : Nat → Int32} {cC nC nFo nQd : Int32} {nRo nBe nEa nMi nHa nER nMR nTh nPa nOu nFr nQu : Nat → Int32} {eM : Nat} {eL : Nat → Int32} {eC eS : Nat → Int64} {eB eE eF eG : Nat → Nat → Int32}
theorem ix2 (k : Nat) : (2 : Int32) * nI k = nI (2 * k) := pk_mul 2 k
theorem wrong_loop (hn : n ≤ 12) (hb : BitsOK n tBe) {bWa : Nat → Int32} {w : Nat} (hw : w ≤ 60) {t : Nat} (ht : t < n) {x4 : Int32} {Q : Int32 → Prop} {X : Prop} (hX : (∀ o, foC n tBe t o → 2 * o + 1 < w → (bWa (2 * o)).toInt + (bWa (2 * o + 1)).toInt ≤ x4.toInt) → X) (hQ : ¬ (∀ o, foC n tBe t o → 2 * o + 1 < w → (bWa (2 * o)).toInt + (bWa (2 * o + 1)).toInt ≤ x4.toInt) → Q 1) :
    ∀ (m k : Nat), k + m = n → (∀ o, o < k → foC n tBe t o → 2 * o + 1 < w → (bWa (2 * o)).toInt + (bWa (2 * o + 1)).toInt ≤ x4.toInt) → wp_X7_isToldWrong_L69 Q (nI t) (nI w) bWa tBe (nI n) x4 X (m + 1) (nI k) := by
  intro m
  induction m with
  | zero =>
    intro k hk h
    rw [wp_X7_isToldWrong_L69]
    rw [show k = n by omega] at h ⊢
    exact pk_le n n (fun _ => hX (fun o ho => h o ho.2.1 ho)) (fun q => absurd q (by omega))
  | succ m ih =>
    intro k hk h
    rw [wp_X7_isToldWrong_L69]
    refine pk_le n k (fun q => absurd q (by omega)) (fun q => ?_)
    have go : (foC n tBe t k → 2 * k + 1 < w → (bWa (2 * k)).toInt + (bWa (2 * k + 1)).toInt ≤ x4.toInt) → wp_X7_isToldWrong_b152 (wp_X7_isToldWrong_L69 Q (nI t) (nI w) bWa tBe (nI n) x4 X (m + 1)) (nI k) := fun g z ez => by
      rw [ez, nI_1]
      refine ih (k + 1) (by omega) (fun o ho f1 f2 => ?_)
      rcases Nat.lt_or_ge o k with y | y
      · exact h o y f1 f2
      · rw [show o = k by omega] at f1 f2 ⊢; exact g f1 f2
    rw [ix2, nI_1]
    refine pk_le w (2 * k + 1) (fun y => ⟨fun _ => go (fun _ f2 => absurd f2 (by omega)), fun z => absurd rfl z⟩) (fun y => ⟨fun z => absurd z (by decide), fun _ => ⟨pk_in t 12 (by omega), ?_⟩⟩)
    rw [cl_nI (by omega), ix2, nI_1, cl_nI (by omega), cl_nI (by omega)]
    refine wp_bit (by omega) (fun b0 => go (fun f1 _ => by have := f1.2.2; rw [b0] at this; exact absurd this (by decide))) (fun b1 => ⟨pk_in (2 * k) 60 (by omega), pk_in (2 * k + 1) 60 (by omega), ?_⟩)
    have r1 := i_rng (bWa (2 * k))
    have r2 := i_rng (bWa (2 * k + 1))
    rw [cmp_ge0, l_add (by rw [l_of, l_of]; omega) (by rw [l_of, l_of]; omega), l_of, l_of, l_of]
    exact ⟨fun z => go (fun _ _ => z), fun z => hQ (fun g => z (g k ⟨ht, by omega, b1⟩ y))⟩
theorem wp_wrong (hn : n ≤ 12) (hb : BitsOK n tBe) {bWa : Nat → Int32} {w : Nat} (hw : w ≤ 60) {t : Nat} (ht : t < n) {v0 : Int32} {Q : Int32 → Prop} (h0 : GoodT n tEa tHa tBe bWa w v0.toInt t → Q 0) (h1 : ¬ GoodT n tEa tHa tBe bWa w v0.toInt t → Q 1) : wp_X7_isToldWrong bWa (nI n) tEa tHa tBe (nI t) v0 (nI w) Q := by
  unfold wp_X7_isToldWrong
  have e0 : (0 : Int32).toInt = 0 := rfl
  rw [ix2, nI_1, lt_nI (by omega) (by omega), cl_nI (by omega), cl_nI (by omega)]
  refine ⟨fun q => ⟨pk_in (2 * t) 60 (by omega), fun x4 e4 => ⟨pk_in (2 * t + 1) 60 (by omega), fun x5 e5 => ⟨pk_in t 12 (by omega), ?_⟩⟩⟩, fun q => h1 (fun g => q g.1)⟩
  rw [cl_nI (by omega)]
  have r1 := i_rng (bWa (2 * t))
  have r2 := i_rng (bWa (2 * t + 1))
  refine ⟨fun z => ⟨fun _ => h1 (fun g => ?_), fun z => absurd rfl z⟩, fun z => ⟨pk_in t 12 (by omega), fun y => ⟨fun _ => h1 (fun g => ?_), fun z => absurd rfl z⟩, fun y => ⟨fun z => absurd z (by decide), fun _ => ⟨fun u => h1 (fun g => ?_), fun u => ?_⟩⟩⟩⟩
  · rw [i_lt, e5] at z; have := g.2.1; omega
  · rw [i_lt, e5] at y; have := g.2.2.1; omega
  · rw [i_lt, e4, e0] at u; have := g.2.2.2.1; omega
  · rw [cmp_le0, l_add (by rw [l_of, l_of, e4, e5]; omega) (by rw [l_of, l_of, e4, e5]; omega), l_of, l_of, l_of]
    rw [i_lt, e5] at z y
    rw [i_lt, e4, e0] at u
    refine ⟨fun s => ⟨n + 1, ?_⟩, fun s => h1 (fun g => by have := g.2.2.2.2.1; rw [e4, e5] at s; omega)⟩
    have key := wrong_loop hn hb hw ht (x4 := x4) (Q := Q) (X := Q 0) (fun g => h0 ⟨q, by omega, by omega, by omega, by rw [e4, e5] at s; exact s, by rw [← e4]; exact g⟩) (fun g => h1 (fun g2 => g (by rw [e4]; exact g2.2.2.2.2.2))) n 0 (by omega) (fun o ho => absurd ho (by omega))
    rw [nI_0] at key
    exact key
theorem good_loop (hM : MB n tKi tEa tHa tPr tEx tSt tBe pT pK pN pF) (hn : n ≤ 12) {mWa : Nat → Int32} {w : Nat} (hw : w ≤ 60) {t : Nat} (ht : t < n) {x4 : Int64} {X : Int32 → Prop} (hX : ∀ x : Int32, (x = 0 ∨ x = 1) → (¬ x = 0 ↔ ∀ o, foC n tBe t o → 2 * o + 1 < w → (mWa (2 * o)).toInt + (mWa (2 * o + 1)).toInt ≤ x4.toInt) → X x) :
    ∀ (m k : Nat) (x : Int32), k + m = n → (x = 0 ∨ x = 1) → (¬ x = 0 ↔ ∀ o, o < k → foC n tBe t o → 2 * o + 1 < w → (mWa (2 * o)).toInt + (mWa (2 * o + 1)).toInt ≤ x4.toInt) → wp_X9_isGood_L84 (nI t) (nI w) mWa pF (nI n) x4 X (m + 1) x (nI k) := by
  intro m
  induction m with
  | zero =>
    intro k x hk hx h
    rw [wp_X9_isGood_L84]
    rw [show k = n by omega] at h ⊢
    exact pk_le n n (fun _ => hX x hx (h.trans ⟨fun g o ho => g o ho.2.1 ho, fun g o _ ho => g o ho⟩)) (fun q => absurd q (by omega))
  | succ m ih =>
    intro k x hk hx h
    rw [wp_X9_isGood_L84]
    refine pk_le n k (fun q => absurd q (by omega)) (fun q => ?_)
    rw [ix12, cl_nI (by omega)]
    have hf := hM.2.2.1 t k ht (by omega)
    have go : (foC n tBe t k → 2 * k + 1 < w → (mWa (2 * k)).toInt + (mWa (2 * k + 1)).toInt ≤ x4.toInt) → wp_X9_isGood_b168 (wp_X9_isGood_L84 (nI t) (nI w) mWa pF (nI n) x4 X (m + 1)) x (nI k) := fun g z ez => by
      rw [ez, nI_1]
      refine ih (k + 1) x (by omega) hx (h.trans ⟨fun g2 o ho f1 f2 => ?_, fun g2 o ho => g2 o (by omega)⟩)
      rcases Nat.lt_or_ge o k with y | y
      · exact g2 o y f1 f2
      · rw [show o = k by omega] at f1 f2 ⊢; exact g f1 f2
    have no : ∀ y : Int32, y = 0 → ¬ (∀ o, o < k + 1 → foC n tBe t o → 2 * o + 1 < w → (mWa (2 * o)).toInt + (mWa (2 * o + 1)).toInt ≤ x4.toInt) → wp_X9_isGood_b165 (wp_X9_isGood_L84 (nI t) (nI w) mWa pF (nI n) x4 X (m + 1)) (nI k) := fun y ey g z ez => by
      rw [ez, nI_1]
      exact ih (k + 1) 0 (by omega) (Or.inl rfl) ⟨fun z => absurd rfl z, fun g2 => absurd g2 g⟩
    refine ⟨pk_in (12 * t + k) 144 (by omega), fun z => go (fun f1 _ => ?_), fun z => ?_⟩
    · have := f1.2.2; rw [hf.mp z] at this; exact absurd this (by decide)
    · have b1 : bt (tBe t) k = true := by
        cases hb : bt (tBe t) k
        · exact absurd (hf.mpr hb) z
        · rfl
      rw [ix2, nI_1, lt_nI (by omega) (by omega), cl_nI (by omega), cl_nI (by omega)]
      refine ⟨fun y => ⟨fun u => ?_, fun u => ⟨pk_in (2 * k) 60 (by omega), pk_in (2 * k + 1) 60 (by omega), ?_⟩⟩, fun y => go (fun _ f2 => absurd f2 y)⟩
      · refine no 0 rfl (fun g => ?_)
        exact absurd u (h.mpr (fun o ho => g o (by omega)))
      · have r1 := i_rng (mWa (2 * k))
        have r2 := i_rng (mWa (2 * k + 1))
        rw [cmp_lt0, l_add (by rw [l_of, l_of]; omega) (by rw [l_of, l_of]; omega), l_of, l_of]
        refine ⟨fun s => no 0 rfl (fun g => ?_), fun s => ?_⟩
        · have := g k (by omega) ⟨ht, by omega, b1⟩ y; omega
        · have x1 : x = 1 := by rcases hx with e | e; exact absurd e u; exact e
          have key := go (fun _ _ => by omega)
          rw [x1] at key
          exact key
theorem wp_good (hM : MB n tKi tEa tHa tPr tEx tSt tBe pT pK pN pF) (hn : n ≤ 12) {bWa mWa : Nat → Int32} {w : Nat} (hw : w ≤ 60) (hwa : ∀ j, j < w → bWa j = mWa j) {t : Nat} (ht : t < n) {v0 : Int32} {Q : Int32 → Prop} (h0 : ¬ GoodT n tEa tHa tBe bWa w v0.toInt t → Q 0) (h1 : GoodT n tEa tHa tBe bWa w v0.toInt t → Q 1) : wp_X9_isGood (nI n) pN pF mWa (nI t) v0 (nI w) Q := by
  unfold wp_X9_isGood
  have e0 : (0 : Int64).toInt = 0 := rfl
  obtain ⟨m1, m2, m3, _⟩ := hM.2.1 t ht
  rw [ix2, nI_1, lt_nI (by omega) (by omega), cl_nI (by omega), cl_nI (by omega)]
  refine ⟨fun q => ⟨pk_in (2 * t) 60 (by omega), fun x4 e4 => ⟨pk_in (2 * t + 1) 60 (by omega), fun x6 e6 => wp_num (k := 1) (by omega) (by omega) (wp_num (k := 0) (by omega) (by omega) ?_)⟩⟩, fun q => h0 (fun g => q g.1)⟩
  have w1 := hwa (2 * t) (by omega)
  have w2 := hwa (2 * t + 1) q
  have E4 : x4.toInt = (bWa (2 * t)).toInt := by rw [e4, l_of, w1]
  have E6 : x6.toInt = (bWa (2 * t + 1)).toInt := by rw [e6, w2]
  have r1 := i_rng (bWa (2 * t))
  have r2 := i_rng (bWa (2 * t + 1))
  have ag : (∀ o, foC n tBe t o → 2 * o + 1 < w → (mWa (2 * o)).toInt + (mWa (2 * o + 1)).toInt ≤ x4.toInt) ↔ ∀ o, foC n tBe t o → 2 * o + 1 < w → (bWa (2 * o)).toInt + (bWa (2 * o + 1)).toInt ≤ (bWa (2 * t)).toInt := by
    rw [E4]
    exact ⟨fun g o f1 f2 => by rw [hwa (2 * o) (by omega), hwa (2 * o + 1) f2]; exact g o f1 f2, fun g o f1 f2 => by rw [← hwa (2 * o) (by omega), ← hwa (2 * o + 1) f2]; exact g o f1 f2⟩
  refine wp_in (fun z => ⟨fun z => absurd z (by decide), fun _ => ?_⟩) (fun z => ⟨fun _ => h0 (fun g => z ?_), fun z => absurd rfl z⟩)
  · rw [l_of, l_of, l_of, m3, show 5 * t + 0 = 5 * t from rfl, m2, E6] at z
    rw [cmp_lt0, cmp_le0, e0, l_add (by rw [l_of, E4, E6]; omega) (by rw [l_of, E4, E6]; omega), l_of, l_of, E4, E6]
    refine ⟨fun u => h0 (fun g => by have := g.2.2.2.1; omega), fun u => ⟨fun s => ⟨n + 1, ?_⟩, fun s => h0 (fun g => s g.2.2.2.2.1)⟩⟩
    have key := good_loop hM hn (mWa := mWa) hw ht (x4 := x4) (X := fun x7_14 => (x7_14 = 0 ∨ x7_14 = 1) ∧ Q x7_14) (fun x hx g => ⟨hx, ?_⟩) n 0 1 (by omega) (Or.inr rfl) ⟨fun _ o ho => absurd ho (by omega), fun _ => by decide⟩
    · rw [nI_0] at key
      exact key
    · rw [ag] at g
      rcases hx with e | e
      · rw [e]
        exact h0 (fun g2 => g.mpr g2.2.2.2.2.2 e)
      · rw [e]
        exact h1 ⟨q, z.1, z.2, by omega, s, g.mp (by rw [e]; decide)⟩
  · rw [l_of, l_of, l_of, m3, show 5 * t + 0 = 5 * t from rfl, m2, E6]
    exact ⟨g.2.1, g.2.2.1⟩
theorem chk_loop (hT : TB n (nI n) tKi tEa tHa tPr tEx tSt tBe) {bWa : Nat → Int32} {w : Nat} (hw : w ≤ 60) {v0 b1 : Int32} {Q : Int32 → Int32 → Int32 → (Nat → Int32) → (Nat → Int32) → Int32 → Int32 → Int32 → Int32 → (Nat → Int32) → (Nat → Int32) → (Nat → Int32) → (Nat → Int32) → (Nat → Int32) → (Nat → Int32) → (Nat → Int32) → (Nat → Int32) → (Nat → Int32) → (Nat → Int32) → (Nat → Int32) → (Nat → Int32) → Nat → (Nat → Int32) → (Nat → Int64) → (Nat → Int64) → (Nat → Nat → Int32) → (Nat → Nat → Int32) → (Nat → Nat → Int32) → (Nat → Nat → Int32) → Prop} (hbad : ∀ t, t < n → (∀ u, u < t → GoodT n tEa tHa tBe bWa w v0.toInt u) → ¬ GoodT n tEa tHa tBe bWa w v0.toInt t → Q (100 + nI t) b1 bFi iRo iEa cC nC nFo nQd nRo nBe nEa nMi nHa nER nMR nTh nPa nOu nFr nQu eM eL eC eS eB eE eF eG) {X : Int64 → Prop} (hX : ∀ x : Int64, (∀ u, u < n → GoodT n tEa tHa tBe bWa w v0.toInt u) → x.toInt = sT (fun t => cT tKi tEa tPr tEx tSt t (bWa (2 * t + 1)).toInt) n → X x) :
    ∀ (m k : Nat) (x : Int64), k + m = n → (∀ u, u < k → GoodT n tEa tHa tBe bWa w v0.toInt u) → x.toInt = sT (fun t => cT tKi tEa tPr tEx tSt t (bWa (2 * t + 1)).toInt) k → wp_X7_check_L34 Q v0 bFi (nI w) bWa tBe (nI n) tEa tEx tHa tKi tPr tSt b1 iRo iEa cC nC nFo nQd nRo nBe nEa nMi nHa nER nMR nTh nPa nOu nFr nQu eM eL eC eS eB eE eF eG X (m + 1) x (nI k) := by
  have hn := hT.2.1
  have hN := hT.2.2.1
  intro m
  induction m with
  | zero =>
    intro k x hk h hx
    rw [wp_X7_check_L34]
    rw [show k = n by omega] at h hx ⊢
    exact pk_le n n (fun _ => hX x h hx) (fun q => absurd q (by omega))
  | succ m ih =>
    intro k x hk h hx
    rw [wp_X7_check_L34]
    refine pk_le n k (fun q => absurd q (by omega)) (fun q => ?_)
    refine wp_wrong hn hT.2.2.2.1 hw (by omega) (fun g => ⟨fun _ => ?_, fun z => absurd rfl z⟩) (fun g => ⟨fun z => absurd z (by decide), fun _ => hbad k (by omega) h g⟩)
    have h' : ∀ u, u < k + 1 → GoodT n tEa tHa tBe bWa w v0.toInt u := fun u hu => by
      rcases Nat.lt_or_ge u k with z | z
      · exact h u z
      · rw [show u = k by omega]; exact g
    have cb := cT_bd (hN k (by omega)) g.2.1 g.2.2.1
    have sb := sT_bound (g := fun t => cT tKi tEa tPr tEx tSt t (bWa (2 * t + 1)).toInt) (B := 12000000) (n := k) (fun t ht => cT_bd (hN t (by omega)) (h t ht).2.1 (h t ht).2.2.1)
    have w1 := g.1
    rw [ix2, nI_1, cl_nI (by omega)]
    refine ⟨pk_in (2 * k + 1) 60 (by omega), wp_cost (by omega) (hN k (by omega)) g.2.1 g.2.2.1 (fun v ev y ey z ez => ?_)⟩
    rw [ez, nI_1]
    refine ih (k + 1) y (by omega) h' ?_
    rw [ey, l_add (by omega) (by omega), sT, hx, ev]
theorem mchk_loop (hT : TB n (nI n) tKi tEa tHa tPr tEx tSt tBe) (hM : MB n tKi tEa tHa tPr tEx tSt tBe pT pK pN pF) {bWa mWa : Nat → Int32} {w : Nat} (hw : w ≤ 60) (hwa : ∀ j, j < w → bWa j = mWa j) {v0 b1 : Int32} {Q : Int32 → Int32 → Int32 → Int32 → Int32 → (Nat → Int32) → (Nat → Int32) → (Nat → Int32) → (Nat → Int32) → (Nat → Int64) → (Nat → Int64) → (Nat → Int32) → (Nat → Int32) → (Nat → Int32) → (Nat → Int64) → Prop} (hbad : ∀ t, t < n → (∀ u, u < t → GoodT n tEa tHa tBe bWa w v0.toInt u) → ¬ GoodT n tEa tHa tBe bWa w v0.toInt t → Q (100 + nI t) mFi b1 mAK mSh mRw mSn mBg mMo mRm mOw mGo mFr mQu mCh) {X : Int64 → Prop} (hX : ∀ x : Int64, (∀ u, u < n → GoodT n tEa tHa tBe bWa w v0.toInt u) → x.toInt = sT (fun t => cT tKi tEa tPr tEx tSt t (bWa (2 * t + 1)).toInt) n → X x) :
    ∀ (m k : Nat) (x : Int64), k + m = n → (∀ u, u < k → GoodT n tEa tHa tBe bWa w v0.toInt u) → x.toInt = sT (fun t => cT tKi tEa tPr tEx tSt t (bWa (2 * t + 1)).toInt) k → wp_X9_check_L34 Q v0 mFi mWa (nI w) pF pK pN (nI n) b1 mAK mSh mRw mSn mBg mMo mRm mOw mGo mFr mQu mCh X (m + 1) x (nI k) := by
  have hn := hT.2.1
  have hN := hT.2.2.1
  intro m
  induction m with
  | zero =>
    intro k x hk h hx
    rw [wp_X9_check_L34]
    rw [show k = n by omega] at h hx ⊢
    exact pk_le n n (fun _ => hX x h hx) (fun q => absurd q (by omega))
  | succ m ih =>
    intro k x hk h hx
    rw [wp_X9_check_L34]
    refine pk_le n k (fun q => absurd q (by omega)) (fun q => ?_)
    refine wp_good hM hn hw hwa (by omega) (fun g => ⟨fun z => absurd rfl z, fun _ => hbad k (by omega) h g⟩) (fun g => ⟨fun _ => ?_, fun z => absurd z (by decide)⟩)
    have h' : ∀ u, u < k + 1 → GoodT n tEa tHa tBe bWa w v0.toInt u := fun u hu => by
      rcases Nat.lt_or_ge u k with z | z
      · exact h u z
      · rw [show u = k by omega]; exact g
    have cb := cT_bd (hN k (by omega)) g.2.1 g.2.2.1
    have sb := sT_bound (g := fun t => cT tKi tEa tPr tEx tSt t (bWa (2 * t + 1)).toInt) (B := 12000000) (n := k) (fun t ht => cT_bd (hN t (by omega)) (h t ht).2.1 (h t ht).2.2.1)
    have w1 := g.1
    rw [ix2, nI_1, cl_nI (by omega), ← hwa (2 * k + 1) w1]
    refine ⟨pk_in (2 * k + 1) 60 (by omega), wp_mcost hM hn (by omega) (hN k (by omega)) (fun v _ _ ev y ey z ez => ?_) (fun z => absurd ⟨g.2.1, g.2.2.1⟩ z)⟩
    rw [ez, nI_1]
    refine ih (k + 1) y (by omega) h' ?_
    rw [ey, l_add (by omega) (by omega), sT, hx, ev]
/-- the curve's cost at any length -/
theorem bk_cost {i : Nat} (b1 : ∀ j, j ≤ i → BendOK n tKi tEa tHa tPr tEx tSt tBe sh eL eC eS eB eE eF eG j) {T : Int} (b2 : (eL i).toInt ≤ T) (b3 : ∀ j, j + 1 = i → T < (eL j).toInt) : CAt n (iT tEa) (iT tHa) (cT tKi tEa tPr tEx tSt) (foC n tBe) (min T 720) ((eC i).toInt - (eS i).toInt * (T - (eL i).toInt)) ∧ (i = 0 ∨ T ≤ 720) := by
  have b := b1 i (Nat.le_refl _)
  rcases Int.lt_or_le T 720 with q | q
  · rw [show min T 720 = T by omega]
    exact ⟨bend_cat b (T := T) b2 (by omega) (fun j hj => by have := b3 j hj; omega), Or.inr (by omega)⟩
  · have i0 : i = 0 := by
      rcases Nat.eq_zero_or_pos i with z | z
      · exact z
      · have a := b3 (i - 1) (by omega)
        have b := (b1 (i - 1) (by omega)).1.2
        omega
    have e2 := b.2.2.2.1 i0
    have k1 := bend_cat b (T := 720) b.1.2 (by omega) (fun j hj => absurd hj (by omega))
    rw [e2, Int.zero_mul] at k1
    rw [show min T 720 = 720 by omega, e2, Int.zero_mul]
    exact ⟨k1, Or.inl i0⟩
end STEPM
theorem step_26 : STEP_26 RelS := by
  intro bHK bHP bPF bWC bRi bBe bFi bWa dB dS dN tC tKi tEa tHa tPr tEx tSt tTo tBe kC kKi kEa kHa kPr kEx kSt kTo kBe aC aWh aTa aWa iRo iEa iLa cC nC nFo nQd nRo nBe nEa nMi nHa nER nMR nTh nPa nOu nFr nQu eM eL eC eS eB eE eF eG pT pK pN pF pS qT qK qN qF qS mKe mUn mFi mRi mBe mWc mAK mSh mIP mUS mWa mWi mSi mRo mSp mRw mSn mBg mLa mMo mRm mOw mGo mFr mQu mCh mPB mPS mFs ub uT uK uN uF uS H v0
  obtain ⟨n, a, sh, hk⟩ := H.tk
  have hT := hk.bk.1
  obtain rfl := hT.1
  have hM := hk.bk.2.1
  obtain rfl := hM.1
  have hsh := hk.hsh
  have hn := hT.2.1
  obtain ⟨w1, w2, w3, w4⟩ := H.wt
  obtain ⟨w, hw, ew⟩ : ∃ w : Nat, w ≤ 60 ∧ bWC = nI w := ⟨bWC.toInt.toNat, by omega, of_toInt (by omega)⟩
  have em : mWc = nI w := w1.symm.trans ew
  subst em
  subst ew
  have hwa : ∀ j, j < w → bWa j = mWa j := fun j hj => w4 j (by rw [nI_toInt (by omega)]; omega)
  have wz : ∀ x y : Int32, x = 0 → y = 0 → RelW x bWa y mWa := fun x y ex ey => by
    rw [ex, ey]
    exact ⟨rfl, by decide, by decide, fun j hj => absurd hj (by show ¬ (j : Int) < 0; omega)⟩
  obtain ⟨K, k1, k2, k3⟩ := rc_K n tKi tEa tHa tPr tEx tSt tBe sh cC H.m7
  have s0 : 0 ≤ sh := by obtain ⟨B, _, hB⟩ := hsh; exact hB.1
  refine ⟨K, k1, fun bwc ebwc => wp_rc hT hsh hk.hC k2 k3 (fun iRo iEa cC nC nFo nQd nRo nBe nEa nMi nHa nER nMR nTh nPa nOu nFr nQu eM' eL eC eS eB eE eF eG g1 g2 => wp_shc g2 (fun r hr => ?_))⟩
  rw [i_le, hr]
  refine ⟨fun q => ?_, fun q b eb => ⟨g1, fun wc ewc => wp_kn hT hM hsh hk.hK (fun ak s ww sn b mo rr o gg f qq ch c1 c2 c3 => ?_)⟩⟩
  · refine ⟨_, chk_loop hT (w := w) hw (fun t ht h1 h2 => ⟨g1, fun wc ewc => wp_kn hT hM hsh hk.hK (fun ak s ww sn b mo rr o gg f qq ch c1 c2 c3 => ?_)⟩) (fun x h1 hx => ?_) n 0 0 (by omega) (fun u hu => absurd hu (by omega)) rfl⟩
    · rw [ix2, le_nI (by omega) (by omega)]
      refine ⟨fun y => wp_bf g2 q (fun i b1 b2 b3 => ?_), fun y => ⟨g1, fun wc ewc => wp_kn hT hM hsh hk.hK (fun ak s ww sn b mo rr o gg f qq ch c1 c2 c3 => ?_)⟩⟩
      · obtain ⟨cc, ci⟩ := bk_cost b1 b2 b3
        have bb := b1 i (Nat.le_refl _)
        have lb := bb.1
        have sb := bb.2.2.1
        have cb := bb.2.1
        have rv := i_rng v0
        have ed : (v0 - eL i).toInt = v0.toInt - (eL i).toInt := i_sub (by omega) (by omega)
        have em : ((eS i) * (Int32.toInt64 (v0 - (eL i)))).toInt = (eS i).toInt * (v0.toInt - (eL i).toInt) ∧ 0 ≤ (eS i).toInt * (v0.toInt - (eL i).toInt) ∧ (eS i).toInt * (v0.toInt - (eL i).toInt) ≤ 144000000 * 720 := by
          rcases ci with z | z
          · have e2 := bb.2.2.2.1 z
            have e3 : eS i = 0 := l_eq.mpr e2
            rw [e2, Int.zero_mul, e3, Int64.zero_mul]
            exact ⟨rfl, by omega, by omega⟩
          · have pb := mul_bd (a := (eS i).toInt) (b := v0.toInt - (eL i).toInt) (A := 144000000) (B := 720) sb.1 sb.2 (by omega) (by omega)
            exact ⟨by rw [l_mul (by rw [l_of, ed]; omega) (by rw [l_of, ed]; omega), l_of, ed], pb⟩
        have E45 : ((eC i) - ((eS i) * (Int32.toInt64 (v0 - (eL i))))).toInt = (eC i).toInt - (eS i).toInt * (v0.toInt - (eL i).toInt) := by rw [l_sub (by rw [em.1]; omega) (by rw [em.1]; omega), em.1]
        have pl : Pl n (iT tEa) (iT tHa) (foC n tBe) (fun t => (bWa (2 * t)).toInt) (fun t => (bWa (2 * t)).toInt + (bWa (2 * t + 1)).toInt) := fun t ht => by
          have g := h1 t ht
          refine ⟨g.2.2.2.1, by have := g.2.1; show (tHa t).toInt ≤ (bWa (2 * t)).toInt + (bWa (2 * t + 1)).toInt - (bWa (2 * t)).toInt; omega, by have := g.2.2.1; show (bWa (2 * t)).toInt + (bWa (2 * t + 1)).toInt - (bWa (2 * t)).toInt ≤ (tEa t).toInt; omega, fun o ho hf => g.2.2.2.2.2 o hf (h1 o ho).1⟩
        have ec : Cost n (cT tKi tEa tPr tEx tSt) (fun t => (bWa (2 * t)).toInt) (fun t => (bWa (2 * t)).toInt + (bWa (2 * t + 1)).toInt) = x.toInt := by
          rw [hx]
          exact sT_congr (fun t _ => by dsimp only; rw [show (bWa (2 * t)).toInt + (bWa (2 * t + 1)).toInt - (bWa (2 * t)).toInt = (bWa (2 * t + 1)).toInt by omega])
        have low : (eC i).toInt - (eS i).toInt * (v0.toInt - (eL i).toInt) ≤ x.toInt := by
          rw [← ec]
          rcases Int.lt_or_le v0.toInt 720 with z | z
          · obtain ⟨b', f', O, e⟩ := cc
            rw [← e]
            exact O.2.2 _ _ pl (fun t ht => by have g := (h1 t ht).2.2.2.2.1; show (bWa (2 * t)).toInt + (bWa (2 * t + 1)).toInt ≤ min v0.toInt 720; omega)
          · rw [show min v0.toInt 720 = 720 by omega] at cc
            exact free_cost hT pl cc
        show (lg_cmp x ((eC i) - ((eS i) * (Int32.toInt64 (v0 - (eL i))))) ≤ 0 → _) ∧ (¬ lg_cmp x ((eC i) - ((eS i) * (Int32.toInt64 (v0 - (eL i))))) ≤ 0 → _)
        rw [cmp_le0, E45]
        refine ⟨fun z => ⟨g1, fun wc ewc => wp_kn hT hM hsh hk.hK (fun ak s ww sn b mo rr o gg f qq ch c1 c2 c3 => ?_)⟩, fun z => ⟨g1, fun wc ewc => wp_kn hT hM hsh hk.hK (fun ak s ww sn b mo rr o gg f qq ch c1 c2 c3 => ?_)⟩⟩
        · rw [i_le, c3]
          refine ⟨fun _ => ⟨_, mchk_loop hT hM hw hwa (v0 := v0) (fun t' ht' _ h2' => absurd (h1 t' ht') h2') (fun x' h1' hx' => ?_) n 0 0 (by omega) (fun u hu => absurd hu (by omega)) rfl⟩, fun z => absurd q z⟩
          rw [ix2, le_nI (by omega) (by omega)]
          refine ⟨fun _ => wp_cap hT hM hsh (mAK := ak) (fun _ => c2) (by rw [l_of]; exact q) (fun r28 ak s ww sn b mo rr o gg f qq ch d1 d2 d3 d4 => ?_), fun y' => absurd y y'⟩
          rw [l_of] at d4
          have e := d4.one cc
          rw [cmp_eq0]
          exact ⟨fun z' => absurd (by rw [hx', ← hx, e]; omega) z', fun _ => ⟨rfl, ⟨H.fi, H.ri, H.be, wz _ _ ebwc ewc, H.bd, ⟨n, a, sh, ⟨hk.bk, hk.hsh, (fun _ => g2), (fun _ => d2), hk.pl, hk.ha, hk.hac, hk.hmu, hk.ul⟩⟩, H.hk, H.ui, (by omega)⟩⟩⟩
        · rw [i_le, c3]
          refine ⟨fun _ => ⟨_, mchk_loop hT hM hw hwa (v0 := v0) (fun t' ht' _ h2' => absurd (h1 t' ht') h2') (fun x' h1' hx' => ?_) n 0 0 (by omega) (fun u hu => absurd hu (by omega)) rfl⟩, fun z => absurd q z⟩
          rw [ix2, le_nI (by omega) (by omega)]
          refine ⟨fun _ => wp_cap hT hM hsh (mAK := ak) (fun _ => c2) (by rw [l_of]; exact q) (fun r28 ak s ww sn b mo rr o gg f qq ch d1 d2 d3 d4 => ?_), fun y' => absurd y y'⟩
          rw [l_of] at d4
          have e := d4.one cc
          rw [cmp_eq0]
          exact ⟨fun _ => ⟨rfl, ⟨H.fi, H.ri, H.be, wz _ _ ebwc ewc, H.bd, ⟨n, a, sh, ⟨hk.bk, hk.hsh, (fun _ => g2), (fun _ => d2), hk.pl, hk.ha, hk.hac, hk.hmu, hk.ul⟩⟩, H.hk, H.ui, (by omega)⟩⟩, fun z' => absurd (by rw [hx', ← hx, e] at z'; omega) z⟩
      · rw [i_le, c3]
        refine ⟨fun _ => ⟨_, mchk_loop hT hM hw hwa (v0 := v0) (fun t' ht' _ h2' => absurd (h1 t' ht') h2') (fun x' h1' hx' => ?_) n 0 0 (by omega) (fun u hu => absurd hu (by omega)) rfl⟩, fun z => absurd q z⟩
        rw [ix2, le_nI (by omega) (by omega)]
        exact ⟨fun y' => absurd y' y, fun _ => ⟨rfl, ⟨H.fi, H.ri, H.be, wz _ _ ebwc ewc, H.bd, ⟨n, a, sh, ⟨hk.bk, hk.hsh, (fun _ => g2), (fun _ => c2), hk.pl, hk.ha, hk.hac, hk.hmu, hk.ul⟩⟩, H.hk, H.ui, (by omega)⟩⟩⟩
    · rw [i_le, c3]
      refine ⟨fun _ => ⟨_, mchk_loop hT hM hw hwa (v0 := v0) (fun t' ht' h1' h2' => ⟨?_, ⟨H.fi, H.ri, H.be, wz _ _ ebwc ewc, H.bd, ⟨n, a, sh, ⟨hk.bk, hk.hsh, (fun _ => g2), (fun _ => c2), hk.pl, hk.ha, hk.hac, hk.hmu, hk.ul⟩⟩, H.hk, H.ui, (by omega)⟩⟩) (fun x h1' hx => absurd (h1' t ht) h2) n 0 0 (by omega) (fun u hu => absurd hu (by omega)) rfl⟩, fun z => absurd q z⟩
      rcases Nat.lt_trichotomy t t' with y | y | y
      · exact absurd (h1' t y) h2
      · rw [y]
      · exact absurd (h1 t' y) h2'
  · rw [i_le, c3]
    exact ⟨fun z => absurd z q, fun _ => ⟨fun z => absurd z (by decide), fun _ m em => ⟨rfl, ⟨(by rw [eb, em, H.fi]), H.ri, H.be, wz _ _ ebwc ewc, H.bd, ⟨n, a, sh, ⟨hk.bk, hk.hsh, (fun _ => g2), (fun _ => c2), hk.pl, hk.ha, hk.hac, hk.hmu, hk.ul⟩⟩, H.hk, H.ui, (by omega)⟩⟩⟩⟩
