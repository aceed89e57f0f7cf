/-! the reference's early and late; costs of both -/
section MEARLY
variable {n : Nat} {pF mSn mRw : Nat → Int32}
theorem me_in (hn : n ≤ 12) {g0 : Nat → Int32} {t : Nat} {K : Int} (hK : K ≤ 720) (ht : t < n) (hE : ∀ o, foM n pF t o → o ≠ t ∧ 0 ≤ (g0 o).toInt ∧ 0 ≤ (mSn o).toInt ∧ (g0 o).toInt + (mSn o).toInt ≤ K) {Q : (Nat → Int32) → Prop} : ∀ (m j : Nat) (g : Nat → Int32), j + m = n → (∀ o, o ≠ t → g o = g0 o) → 0 ≤ (g t).toInt → (g t).toInt ≤ K → (∀ g' : Nat → Int32, (∀ o, o ≠ t → g' o = g0 o) → (g t).toInt ≤ (g' t).toInt → (g' t).toInt ≤ K → (∀ o, j ≤ o → foM n pF t o → (g0 o).toInt + (mSn o).toInt ≤ (g' t).toInt) → ((g' t).toInt = (g t).toInt ∨ ∃ o, foM n pF t o ∧ (g' t).toInt = (g0 o).toInt + (mSn o).toInt) → Q g') → wp_X9_early_L36 mSn pF (nI n) (nI t) Q (m + 1) (nI j) g := by
  intro m
  induction m with
  | zero =>
    intro j g hj h0 h1 h2 hQ
    rw [wp_X9_early_L36]
    exact pk_le n j (fun _ => hQ g h0 (by omega) h2 (fun o g1 g2 => by have := g2.2.1; omega) (Or.inl rfl)) (fun q => absurd q (by omega))
  | succ m ih =>
    intro j g hj h0 h1 h2 hQ
    rw [wp_X9_early_L36]
    refine pk_le n j (fun q => absurd q (by omega)) (fun q => ?_)
    rw [ix12, cl_nI (by omega), cl_nI (by omega), cl_nI (by omega)]
    refine ⟨pk_in (12 * t + j) 144 (by omega), fun hz y ey => ?_, fun hz => ⟨pk_in t 12 (by omega), pk_in j 12 (by omega), pk_in j 12 (by omega), pk_in t 12 (by omega), fun g1 eg y ey => ?_⟩⟩
    · rw [ey, nI_1]
      refine ih (j + 1) g (by omega) h0 h1 h2 (fun g' k0 k1 k2 k3 k4 => hQ g' k0 k1 k2 (fun o l1 l2 => ?_) k4)
      rcases Nat.lt_or_ge j o with z | z
      · exact k3 o (by omega) l2
      · rw [show o = j by omega] at l2; exact absurd hz l2.2.2
    · have hf : foM n pF t j := ⟨ht, by omega, hz⟩
      obtain ⟨e1, e2, e3, e4⟩ := hE j hf
      have egj : g j = g0 j := h0 j e1
      have hadd := i_add (a := g j) (b := mSn j) (by rw [egj]; omega) (by rw [egj]; omega)
      have egt : (g1 t).toInt = max (g t).toInt ((g0 j).toInt + (mSn j).toInt) := by
        rw [eg, upd_at, ifs_max, hadd, egj]
      rw [ey, nI_1]
      refine ih (j + 1) g1 (by omega) (fun o ho => by rw [eg, upd_ne ho]; exact h0 o ho) (by omega) (by omega) (fun g' k0 k1 k2 k3 k4 => hQ g' k0 (by omega) k2 (fun o l1 l2 => ?_) ?_)
      · rcases Nat.lt_or_ge j o with z | z
        · exact k3 o (by omega) l2
        · rw [show o = j by omega]; omega
      · rcases k4 with z | z
        · rcases Int.le_total (g t).toInt ((g0 j).toInt + (mSn j).toInt) with y | y
          · exact Or.inr ⟨j, hf, by omega⟩
          · exact Or.inl (by omega)
        · exact Or.inr z
theorem me_out (hn : n ≤ 12) (hro : RowOK n (foM n pF) mRw) (hS : SpOK n mSn) {Q : Int32 → (Nat → Int32) → Prop} (hQ : ∀ (r : Int32) (g : Nat → Int32), EInv (foM n pF) (rowOf mRw) (iT mSn) (iT g) n → LInv (rowOf mRw) (iT mSn) (iT g) n r.toInt → Q r g) : ∀ (m k : Nat) (x : Int32) (g : Nat → Int32), k + m = n → EInv (foM n pF) (rowOf mRw) (iT mSn) (iT g) k → LInv (rowOf mRw) (iT mSn) (iT g) k x.toInt → wp_X9_early_L8 mSn pF (nI n) mRw Q (m + 1) x (nI k) g := by
  intro m
  induction m with
  | zero =>
    intro k x g hk h1 h2
    rw [wp_X9_early_L8]
    rw [show k = n by omega] at h1 h2 ⊢
    exact pk_le n n (fun _ => hQ x g h1 h2) (fun q => absurd q (by omega))
  | succ m ih =>
    intro k x g hk h1 h2
    rw [wp_X9_early_L8]
    refine pk_le n k (fun q => absurd q (by omega)) (fun q => ⟨pk_in k 12 (by omega), fun y ey => ?_⟩)
    rw [cl_nI (by omega), hro.1 k (by omega)] at ey
    have hl := hro.2.lt (k := k) (by omega)
    rw [ey, cl_nI (by omega)]
    refine ⟨pk_in (rowOf mRw k) 12 (by omega), fun g1 eg => ⟨n + 1, ?_⟩⟩
    have eg1 : ∀ o, o ≠ rowOf mRw k → g1 o = g o := fun o ho => by rw [eg, upd_ne ho]
    have eg2 : g1 (rowOf mRw k) = 0 := by rw [eg, upd_at]
    refine me_in (g0 := g) hn (K := 60 * k) (by omega) hl (fun o ho => ?_) n 0 g1 (by omega) eg1 (by rw [eg2]; decide) (by rw [eg2]; show (0 : Int) ≤ _; omega) (fun g' k0 k1 k2 k3 k4 => ⟨pk_in (rowOf mRw k) 12 (by omega), pk_in (rowOf mRw k) 12 (by omega), fun z ez w ew => ?_⟩)
    · obtain ⟨j, hj, e⟩ := hro.2.pred (by omega) ho
      have a := h1 j hj
      have b := hS (rowOf mRw j) (hro.2.lt (by omega))
      rw [e] at a b
      have c : (g o).toInt + (mSn o).toInt ≤ 60 * (j + 1) := a.2.1
      refine ⟨fun q => ?_, a.1, b.1, by omega⟩
      have := hro.2.inj (by omega) (by omega) (e.trans q)
      omega
    · rw [eg2] at k1 k4
      have k1' : 0 ≤ (g' (rowOf mRw k)).toInt := k1
      have hs := hS (rowOf mRw k) hl
      have e1 : ∀ o, o ≠ rowOf mRw k → iT g' o = iT g o := fun o ho => by unfold iT; rw [k0 o ho]
      have hadd := i_add (a := g' (rowOf mRw k)) (b := mSn (rowOf mRw k)) (by omega) (by omega)
      rw [ew, nI_1]
      refine ih (k + 1) z g' (by omega) (EInv.next hro.2 hS (by omega) h1 e1 k1' k2 (fun o ho => k3 o (Nat.zero_le _) ho) ?_) (LInv.next hro.2 hS (by omega) h2 e1 k1' k2 ?_)
      · rcases k4 with z | ⟨o, z1, z2⟩
        · exact Or.inl z
        · exact Or.inr ⟨o, z1, z2⟩
      · rw [ez, ifs_max, hadd]; rfl
theorem wp_mE (hn : n ≤ 12) (hac : Acy (foM n pF)) (hS : SpOK n mSn) {mRw mBg : Nat → Int32} {Q : Int32 → (Nat → Int32) → (Nat → Int32) → Prop} (hQ : ∀ (r : Int32) (mRw g : Nat → Int32), RowOK n (foM n pF) mRw → Early n (foM n pF) (iT mSn) (iT g) → LenOf n (iT mSn) (iT g) r.toInt → (∀ t, t < n → (g t).toInt + (mSn t).toInt ≤ 720) → r.toInt ≤ 720 → Q r mRw g) : wp_X9_early (nI n) pF mRw mSn mBg Q := by
  refine wp_srt hn hac (fun f' hro => ⟨n + 1, me_out hn hro hS (fun r g h1 h2 => ?_) n 0 0 mBg (by omega) (fun i h => absurd h (by omega)) ⟨by decide, fun i h => absurd h (by omega), Or.inl rfl, by decide⟩⟩)
  obtain ⟨a1, a2⟩ := h1.fin hro.2
  obtain ⟨b1, b2⟩ := h2.fin hro.2
  exact hQ r f' g hro a1 b1 (fun t ht => by have h := a2 t ht; have h2 : (g t).toInt + (mSn t).toInt ≤ 60 * n := h; omega) (by omega)
theorem mt_in (hn : n ≤ 12) {pS : Nat → Int32} {Q : (Nat → Int32) → Prop} : ∀ (m k : Nat) (x : Nat → Int32), k + m = n → (∀ t, t < k → x t = pS t) → (∀ r, (∀ t, t < n → r t = pS t) → Q r) → wp_X9_earlyTold_L2 pS (nI n) Q (m + 1) (nI k) x := by
  intro m
  induction m with
  | zero =>
    intro k x hk h hQ
    rw [wp_X9_earlyTold_L2]
    exact pk_le n k (fun _ => hQ x (fun t ht => h t (by omega))) (fun q => absurd q (by omega))
  | succ m ih =>
    intro k x hk h hQ
    rw [wp_X9_earlyTold_L2]
    refine pk_le n k (fun q => absurd q (by omega)) (fun q => ⟨pk_in k 12 (by omega), pk_in k 12 (by omega), fun y ey z ez => ?_⟩)
    rw [cl_nI (by omega)] at ey
    rw [ez, nI_1]
    refine ih (k + 1) y (by omega) (fun t ht => ?_) hQ
    rw [ey]
    by_cases htk : t = k
    · rw [htk, upd_at]
    · rw [upd_ne htk]; exact h t (by omega)
theorem wp_mT (hn : n ≤ 12) (hac : Acy (foM n pF)) {pS mRw mSn mBg : Nat → Int32} (hS : SpOK n pS) {Q : Int32 → (Nat → Int32) → (Nat → Int32) → (Nat → Int32) → Prop} (hQ : ∀ (r : Int32) (mRw mSn g : Nat → Int32), RowOK n (foM n pF) mRw → (∀ t, t < n → mSn t = pS t) → Early n (foM n pF) (iT mSn) (iT g) → LenOf n (iT mSn) (iT g) r.toInt → r.toInt ≤ 720 → Q r mRw mSn g) : wp_X9_earlyTold (nI n) pF pS mRw mSn mBg Q := by
  refine ⟨n + 1, mt_in hn n 0 mSn (by omega) (fun t h => absurd h (by omega)) (fun sn hsn => wp_mE hn hac (fun t ht => by rw [hsn t ht]; exact hS t ht) (fun r ro g h1 h2 h3 h4 h5 => hQ r ro sn g h1 hsn h2 h3 h5))⟩
theorem ml_in (hn : n ≤ 12) {mLa : Nat → Int32} {t : Nat} (ht : t < n) {Q : Int32 → Prop} : ∀ (m j : Nat) (x : Int32), j + m = n → (∀ r : Int32, r.toInt ≤ x.toInt → (∀ u, j ≤ u → foM n pF u t → r.toInt ≤ (mLa u).toInt) → (r.toInt = x.toInt ∨ ∃ u, foM n pF u t ∧ r.toInt = (mLa u).toInt) → Q r) → wp_X9_lateTold_L32 pF (nI n) mLa (nI t) Q (m + 1) x (nI j) := by
  intro m
  induction m with
  | zero =>
    intro j x hj hQ
    rw [wp_X9_lateTold_L32]
    exact pk_le n j (fun _ => hQ x (by omega) (fun u g1 g2 => by have := g2.1; omega) (Or.inl rfl)) (fun q => absurd q (by omega))
  | succ m ih =>
    intro j x hj hQ
    rw [wp_X9_lateTold_L32]
    refine pk_le n j (fun q => absurd q (by omega)) (fun q => ?_)
    rw [ix12, cl_nI (by omega), cl_nI (by omega)]
    refine ⟨pk_in (12 * j + t) 144 (by omega), fun hz y ey => ?_, fun hz => ⟨pk_in j 12 (by omega), fun z ez y ey => ?_⟩⟩
    · rw [ey, nI_1]
      refine ih (j + 1) x (by omega) (fun r g1 g3 g4 => hQ r g1 (fun u k1 k2 => ?_) g4)
      rcases Nat.lt_or_ge j u with z | z
      · exact g3 u (by omega) k2
      · rw [show u = j by omega] at k2; exact absurd hz k2.2.2
    · have ezi : z.toInt = min (mLa j).toInt x.toInt := by rw [ez, ifs_min]
      rw [ey, nI_1]
      refine ih (j + 1) z (by omega) (fun r g1 g3 g4 => hQ r (by omega) (fun u k1 k2 => ?_) ?_)
      · rcases Nat.lt_or_ge j u with z | z
        · exact g3 u (by omega) k2
        · rw [show u = j by omega]; omega
      · rcases g4 with z | z
        · rcases Int.le_total x.toInt (mLa j).toInt with y | y
          · exact Or.inl (by omega)
          · exact Or.inr ⟨j, ⟨by omega, ht, hz⟩, by omega⟩
        · exact Or.inr z
theorem ml_out (hn : n ≤ 12) (hro : RowOK n (foM n pF) mRw) (hS : SpOK n mSn) {L : Int32} (hL : 0 ≤ L.toInt ∧ L.toInt ≤ 720) {Q : (Nat → Int32) → Prop} (hQ : ∀ (mLa : Nat → Int32), AInv n (foM n pF) (rowOf mRw) (iT mSn) L.toInt (iT mLa) 0 → Q mLa) : ∀ (k : Nat) (mLa : Nat → Int32), k ≤ n → AInv n (foM n pF) (rowOf mRw) (iT mSn) L.toInt (iT mLa) k → wp_X9_lateTold_L15 pF (nI n) L mRw mSn Q (k + 1) (mI k) mLa := by
  intro k
  induction k with
  | zero =>
    intro mLa hk h
    rw [wp_X9_lateTold_L15]
    exact ⟨fun _ => hQ mLa h, fun q => absurd mI_0 q⟩
  | succ k ih =>
    intro mLa hk h
    rw [wp_X9_lateTold_L15, mI_s]
    refine ⟨fun q => absurd q (nI_pos (by omega)), fun _ => ⟨pk_in k 12 (by omega), fun y ey => ⟨n + 1, ?_⟩⟩⟩
    rw [cl_nI (by omega), hro.1 k (by omega)] at ey
    have hl := hro.2.lt (k := k) (by omega)
    rw [ey]
    refine ml_in hn hl n 0 L (by omega) (fun r g1 g3 g4 => ⟨pk_in (rowOf mRw k) 12 (by omega), pk_in (rowOf mRw k) 12 (by omega), fun iL' eL w ew => ?_⟩)
    have e3 : w = mI k := ew
    rw [cl_nI (by omega)] at eL
    have hs := hS (rowOf mRw k) hl
    have hlow : L.toInt - 60 * (n - (k + 1)) ≤ r.toInt := by
      rcases g4 with z | ⟨u, z3, z4⟩
      · omega
      · obtain ⟨i, hi, hi2, e⟩ := hro.2.succ foM_lt (by omega) z3
        have := (h i (by omega) hi2).2.2.2
        rw [e] at this
        have h9 : L.toInt - 60 * (n - i) ≤ (mLa u).toInt := this
        omega
    have hsub := i_sub (a := r) (b := mSn (rowOf mRw k)) (by omega) (by omega)
    have e1 : ∀ o, o ≠ rowOf mRw k → iT iL' o = iT mLa o := fun o ho => by unfold iT; rw [eL, upd_ne ho]
    have e2 : iT iL' (rowOf mRw k) + iT mSn (rowOf mRw k) = r.toInt := by unfold iT; rw [eL, upd_at, hsub]; omega
    rw [e3]
    refine ih iL' (by omega) (AInv.next hro.2 foM_lt hS (by omega) h e1 (by rw [e2]; exact g1) (fun u hu => ?_) ?_ (by rw [e2]; exact hlow))
    · rw [e2]; exact g3 u (Nat.zero_le _) hu
    · rcases g4 with z | ⟨u, z3, z4⟩
      · exact Or.inl (by rw [e2]; exact z)
      · exact Or.inr ⟨u, z3, by rw [e2]; exact z4⟩
theorem wp_mL (hn : n ≤ 12) (hac : Acy (foM n pF)) {pS mRw mSn mBg mLa : Nat → Int32} (hS : SpOK n pS) {Q : (Nat → Int32) → (Nat → Int32) → (Nat → Int32) → (Nat → Int32) → Prop} (hQ : ∀ (L : Int) (mRw mSn g mLa : Nat → Int32), (∀ t, t < n → mSn t = pS t) → Early n (foM n pF) (iT mSn) (iT g) → LenOf n (iT mSn) (iT g) L → Late n (foM n pF) (iT mSn) L (iT mLa) → Q mRw mSn g mLa) : wp_X9_lateTold (nI n) pF pS mRw mSn mBg mLa Q := by
  refine wp_mT hn hac hS (fun r ro sn g h1 h2 h3 h4 h5 x ex => ⟨n + 1, ?_⟩)
  rw [mI_of] at ex
  rw [ex]
  exact ml_out hn h1 (fun t ht => by rw [h2 t ht]; exact hS t ht) ⟨h4.1, h5⟩ (fun la h => hQ r.toInt ro sn g la h2 h3 h4 (h.fin h1.2)) n mLa (Nat.le_refl _) (fun i g1 g2 => by omega)
end MEARLY
theorem mul_bd {a b A B : Int} (h1 : 0 ≤ a) (h2 : a ≤ A) (h3 : 0 ≤ b) (h4 : b ≤ B) : 0 ≤ a * b ∧ a * b ≤ A * B :=
  ⟨Int.mul_nonneg h1 h3, Int.le_trans (Int.mul_le_mul_of_nonneg_right h2 h3) (Int.mul_le_mul_of_nonneg_left h4 (by omega))⟩
section COSTS
variable {tKi tEa tHa tPr tEx tSt : Nat → Int32} {t : Nat}
theorem cT_bd (H : NumOK (tKi t) (tEa t) (tHa t) (tPr t) (tEx t) (tSt t)) {x : Int} (h1 : (tHa t).toInt ≤ x) (h2 : x ≤ (tEa t).toInt) : 0 ≤ cT tKi tEa tPr tEx tSt t x ∧ cT tKi tEa tPr tEx tSt t x ≤ 12000000 := by
  obtain ⟨a1, a2, a3, a4, a5, a6, a7, a8, a9, a10, a11⟩ := H
  have p1 := mul_bd a6 a7 (show 0 ≤ (tEa t).toInt - x by omega) (show (tEa t).toInt - x ≤ 60 by omega)
  have p2 := mul_bd a10 a11 (show 0 ≤ max 0 ((tEa t).toInt - (tEx t).toInt - x) by omega) (show max 0 ((tEa t).toInt - (tEx t).toInt - x) ≤ 60 by omega)
  have p3 := mul_bd a8 a9 (show 0 ≤ x by omega) (show x ≤ 60 by omega)
  unfold cT aCost
  by_cases k2 : (tKi t).toInt = 2
  · rw [if_pos k2, if_neg (by omega)]; omega
  · rw [if_neg k2]
    by_cases k4 : (tKi t).toInt = 4
    · rw [if_pos k4]; omega
    · rw [if_neg k4]; omega
theorem lt2 : (2 : Int32).toInt = 2 := rfl
theorem lt4 : (4 : Int32).toInt = 4 := rfl
theorem lt0 : (0 : Int32).toInt = 0 := rfl
theorem lt1 : (1 : Int32).toInt = 1 := rfl
theorem wp_cost (ht : t < 12) (H : NumOK (tKi t) (tEa t) (tHa t) (tPr t) (tEx t) (tSt t)) {x : Int32} (h1 : (tHa t).toInt ≤ x.toInt) (h2 : x.toInt ≤ (tEa t).toInt) {Q : Int64 → Prop} (hQ : ∀ v : Int64, v.toInt = cT tKi tEa tPr tEx tSt t x.toInt → Q v) : wp_X5_costOf tKi tEa tPr tEx tSt (nI t) x Q := by
  obtain ⟨a1, a2, a3, a4, a5, a6, a7, a8, a9, a10, a11⟩ := H
  have p1 := mul_bd a6 a7 (show 0 ≤ (tEa t).toInt - x.toInt by omega) (show (tEa t).toInt - x.toInt ≤ 60 by omega)
  have p2 := mul_bd a10 a11 (show 0 ≤ max 0 ((tEa t).toInt - (tEx t).toInt - x.toInt) by omega) (show max 0 ((tEa t).toInt - (tEx t).toInt - x.toInt) ≤ 60 by omega)
  have p3 := mul_bd a8 a9 (show 0 ≤ x.toInt by omega) (show x.toInt ≤ 60 by omega)
  have hi : vp_in (nI t) 12 := pk_in t 12 ht
  unfold wp_X5_costOf
  rw [cl_nI (by omega)]
  refine ⟨hi, hi, fun y ey => ⟨hi, ?_⟩⟩
  have es := i_sub (a := tEa t) (b := x) (by omega) (by omega)
  have ey' : y.toInt = (tPr t).toInt * ((tEa t).toInt - x.toInt) := by
    rw [ey, l_mul (by rw [l_of, l_of, es]; omega) (by rw [l_of, l_of, es]; omega), l_of, l_of, es]
  have fin : ∀ (z : Int64), z.toInt = (tPr t).toInt * ((tEa t).toInt - x.toInt) + (if (tKi t).toInt = 2 then (tSt t).toInt * max 0 ((tEa t).toInt - (tEx t).toInt - x.toInt) else 0) → wp_X5_costOf_b59 Q (nI t) x tEx tKi z := by
    intro z ez
    have zb : 0 ≤ z.toInt ∧ z.toInt ≤ 12000000 := by
      rw [ez]; split <;> omega
    unfold wp_X5_costOf_b59
    rw [cl_nI (by omega)]
    refine ⟨hi, fun k => hQ z ?_, fun k => ⟨hi, fun w ew => hQ w ?_⟩⟩
    · rw [i_eq, lt4] at k
      unfold cT aCost
      rw [if_neg k, ez]; omega
    · rw [i_eq, lt4] at k
      unfold cT aCost
      have em : (Int32.toInt64 (tEx t) * Int32.toInt64 x).toInt = (tEx t).toInt * x.toInt := by
        rw [l_mul (by rw [l_of, l_of]; omega) (by rw [l_of, l_of]; omega), l_of, l_of]
      rw [if_pos k, ew, l_add (by rw [em]; omega) (by rw [em]; omega), em, ez]
  refine ⟨fun k => fin y ?_, fun k => ⟨hi, hi, hi, fun z ez => fin z ?_⟩⟩
  · rw [i_eq, lt2] at k
    rw [if_neg k, ey']; omega
  · rw [i_eq, lt2] at k
    have e2 := i_sub (a := tEa t) (b := tEx t) (by omega) (by omega)
    have e3 := i_sub (a := tEa t - tEx t) (b := x) (by omega) (by omega)
    have e4 : (if 0 < ((tEa t - tEx t) - x) then ((tEa t - tEx t) - x) else (0 : Int32)).toInt = max 0 ((tEa t).toInt - (tEx t).toInt - x.toInt) := by
      rw [ifs_max (a := 0), e3, e2, lt0]
    have em : (Int32.toInt64 (tSt t) * Int32.toInt64 (if 0 < ((tEa t - tEx t) - x) then ((tEa t - tEx t) - x) else (0 : Int32))).toInt = (tSt t).toInt * max 0 ((tEa t).toInt - (tEx t).toInt - x.toInt) := by
      rw [l_mul (by rw [l_of, l_of, e4]; omega) (by rw [l_of, l_of, e4]; omega), l_of, l_of, e4]
    rw [if_pos k, ez, l_add (by rw [em]; omega) (by rw [em]; omega), em, ey']
variable {n : Nat} {tBe : Nat → Int32} {pT : Int32} {pK pN pF : Nat → Int32}
theorem ix5 (k o : Nat) : (5 * nI k) + nI o = nI (5 * k + o) := by
  have h : (5 : Int32) * nI k = nI (5 * k) := pk_mul 5 k
  rw [h, nI_add]
theorem wp_num {k : Nat} (ht : t < 12) (hk : k < 5) {Q : Int32 → Prop} (hQ : Q (pN (5 * t + k))) : wp_X9_number pN (nI t) (nI k) Q := by
  unfold wp_X9_number
  rw [ix5, cl_nI (by omega)]
  exact ⟨pk_in (5 * t + k) 60 (by omega), hQ⟩
theorem wp_in {a b c : Int64} {Q : Int32 → Prop} (h1 : b.toInt ≤ a.toInt ∧ a.toInt ≤ c.toInt → Q 1) (h0 : ¬ (b.toInt ≤ a.toInt ∧ a.toInt ≤ c.toInt) → Q 0) : wp_X9_in a b c Q := by
  refine ⟨fun q => h0 ?_, fun q => ⟨fun q2 => h0 ?_, fun q2 => h1 ?_⟩⟩
  · rw [cmp_lt0] at q; omega
  · rw [cmp_gt0] at q2; omega
  · rw [cmp_lt0] at q; rw [cmp_gt0] at q2; omega
theorem wp_mcost (hM : MB n tKi tEa tHa tPr tEx tSt tBe pT pK pN pF) (hn : n ≤ 12) (ht : t < n) (H : NumOK (tKi t) (tEa t) (tHa t) (tPr t) (tEx t) (tSt t)) {x : Int32} {Q : Int64 → Prop} (hQ : ∀ v : Int64, (tHa t).toInt ≤ x.toInt → x.toInt ≤ (tEa t).toInt → v.toInt = cT tKi tEa tPr tEx tSt t x.toInt → Q v) (hQ0 : ¬ ((tHa t).toInt ≤ x.toInt ∧ x.toInt ≤ (tEa t).toInt) → Q 1125899906842624) : wp_X9_costOf pK pN (nI t) x Q := by
  obtain ⟨m1, m2, m3, m4, m5, m6⟩ := hM.2.1 t ht
  obtain ⟨a1, a2, a3, a4, a5, a6, a7, a8, a9, a10, a11⟩ := H
  have hi : vp_in (nI t) 12 := pk_in t 12 (by omega)
  refine wp_num (k := 0) (by omega) (by omega) (wp_num (k := 1) (by omega) (by omega) ?_)
  rw [show 5 * t + 0 = 5 * t by omega, m2, m3]
  refine wp_in (fun hin => ⟨fun _ => ?_, fun q => absurd q (by decide)⟩) (fun hout => ⟨fun q => absurd rfl q, fun _ => hQ0 (by rw [l_of, l_of, l_of] at hout; exact hout)⟩)
  rw [l_of, l_of, l_of] at hin
  obtain ⟨h1, h2⟩ := hin
  have p1 := mul_bd a6 a7 (show 0 ≤ (tEa t).toInt - x.toInt by omega) (show (tEa t).toInt - x.toInt ≤ 60 by omega)
  have p2 := mul_bd a10 a11 (show 0 ≤ max 0 ((tEa t).toInt - (tEx t).toInt - x.toInt) by omega) (show max 0 ((tEa t).toInt - (tEx t).toInt - x.toInt) ≤ 60 by omega)
  have p3 := mul_bd a8 a9 (show 0 ≤ x.toInt by omega) (show x.toInt ≤ 60 by omega)
  refine wp_num (k := 2) (by omega) (by omega) ?_
  rw [m4, cl_nI (by omega), m1]
  refine fun y ey => ⟨hi, ?_⟩
  have es := i_sub (a := tEa t) (b := x) (by omega) (by omega)
  have ey' : y.toInt = (tPr t).toInt * ((tEa t).toInt - x.toInt) := by
    rw [ey, l_mul (by rw [l_of, l_of, es]; omega) (by rw [l_of, l_of, es]; omega), l_of, l_of, es]
  have fin : ∀ (z : Int64), z.toInt = (tPr t).toInt * ((tEa t).toInt - x.toInt) + (if (tKi t).toInt = 2 then (tSt t).toInt * max 0 ((tEa t).toInt - (tEx t).toInt - x.toInt) else 0) → wp_X9_costOf_b83 Q (nI t) x pK pN z := by
    intro z ez
    have zb : 0 ≤ z.toInt ∧ z.toInt ≤ 12000000 := by
      rw [ez]; split <;> omega
    unfold wp_X9_costOf_b83
    rw [cl_nI (by omega), m1]
    refine ⟨hi, fun k => hQ z h1 h2 ?_, fun k => wp_num (k := 3) (by omega) (by omega) (fun w ew => hQ w h1 h2 ?_)⟩
    · rw [i_eq, lt4] at k
      unfold cT aCost
      rw [if_neg k, ez]; omega
    · rw [i_eq, lt4] at k
      unfold cT aCost
      rw [m5] at ew
      have em : (Int32.toInt64 (tEx t) * Int32.toInt64 x).toInt = (tEx t).toInt * x.toInt := by
        rw [l_mul (by rw [l_of, l_of]; omega) (by rw [l_of, l_of]; omega), l_of, l_of]
      rw [if_pos k, ew, l_add (by rw [em]; omega) (by rw [em]; omega), em, ez]
  refine ⟨fun k => fin y ?_, fun k => wp_num (k := 4) (by omega) (by omega) (wp_num (k := 3) (by omega) (by omega) (fun z ez => fin z ?_))⟩
  · rw [i_eq, lt2] at k
    rw [if_neg k, ey']; omega
  · rw [i_eq, lt2] at k
    rw [m5, m6] at ez
    have e2 := i_sub (a := tEa t) (b := tEx t) (by omega) (by omega)
    have e3 := i_sub (a := tEa t - tEx t) (b := x) (by omega) (by omega)
    have e4 : (if 0 < ((tEa t - tEx t) - x) then ((tEa t - tEx t) - x) else (0 : Int32)).toInt = max 0 ((tEa t).toInt - (tEx t).toInt - x.toInt) := by
      rw [ifs_max (a := 0), e3, e2, lt0]
    have em : (Int32.toInt64 (tSt t) * Int32.toInt64 (if 0 < ((tEa t - tEx t) - x) then ((tEa t - tEx t) - x) else (0 : Int32))).toInt = (tSt t).toInt * max 0 ((tEa t).toInt - (tEx t).toInt - x.toInt) := by
      rw [l_mul (by rw [l_of, l_of, e4]; omega) (by rw [l_of, l_of, e4]; omega), l_of, l_of, e4]
    rw [if_pos k, ez, l_add (by rw [em]; omega) (by rw [em]; omega), em, ey']
end COSTS
