/-! the class's findWay -/
theorem tw0 (t : Nat) : 2 * nI t = nI (2 * t) := pk_mul 2 t
theorem tw1 (t : Nat) : (2 * nI t) + 1 = nI (2 * t + 1) := by rw [tw0, nI_1]
section CWAY
variable {n : Nat} {e md h er s2 : Nat → Int} {nEa nMi nHa nER nMR nTh nPa nBe tBe f1 f2 : Nat → Int32} {Tm : Nat → Prop}
/-- the steps that a flow and moments allow -/
def ArcC (n : Nat) (e md h er s2 : Nat → Int) (tBe nTh nPa f1 f2 : Nat → Int32) : Nat → Nat → Prop := Arc n (onT e md h er s2 (iT nTh)) (offT e md h er s2 (iT nTh)) (iT nTh) (Red (foC n tBe)) (paI nPa) (iT f1) (iT f2)
def RootC (n : Nat) (tBe f1 : Nat → Int32) : Nat → Prop := RootN n (Red (foC n tBe)) (iT f1)
theorem lb_in (hn : n ≤ 12) {t d : Nat} (ht : t < n) {V : Nat → Prop} {Q : Int32 → (Nat → Int32) → (Nat → Int32) → Prop}
    (hQ : ∀ q fr qu, SC n (ArcC n e md h er s2 tBe nTh nPa f1 f2) (RootC n tBe f1) Tm q fr qu d (2 * t) (fun x => V x ∨ ∃ o, o < n ∧ 0 < paI nPa o t ∧ iT f2 o = iT f1 t ∧ x = 2 * o + 1) → Q (nI q) fr qu) :
    ∀ (j k q : Nat) (fr qu : Nat → Int32), k + j = n → SC n (ArcC n e md h er s2 tBe nTh nPa f1 f2) (RootC n tBe f1) Tm q fr qu d (2 * t) (fun x => V x ∨ ∃ o, o < k ∧ 0 < paI nPa o t ∧ iT f2 o = iT f1 t ∧ x = 2 * o + 1) → wp_X4_leaveBegin_L30 (nI t) f1 f2 (nI n) nPa Q (j + 1) (nI k) (nI q) fr qu := by
  intro j
  induction j with
  | zero =>
    intro k q fr qu hk H
    rw [wp_X4_leaveBegin_L30]
    rw [show k = n by omega] at H ⊢
    exact pk_le n n (fun _ => hQ q fr qu H) (fun q => absurd q (by omega))
  | succ j ih =>
    intro k q fr qu hk H
    rw [wp_X4_leaveBegin_L30]
    refine pk_le n k (fun q => absurd q (by omega)) (fun q1 => ?_)
    rw [ixr12, cl_nI (by omega), cl_nI (by omega), cl_nI (by omega), i_le, lt0, i_eq, tw1, tw0]
    have skip : ¬ (0 < paI nPa k t ∧ iT f2 k = iT f1 t) → wp_X4_leaveBegin_b77 (wp_X4_leaveBegin_L30 (nI t) f1 f2 (nI n) nPa Q (j + 1)) (nI k) (nI q) fr qu := by
      intro hno z ez
      rw [ez, nI_1]
      refine ih (k + 1) q fr qu (by omega) (H.mono (fun v hv => ?_))
      rcases hv with w | ⟨o, w1, w2, w3, w4⟩
      · exact Or.inl w
      · by_cases hok : o = k
        · rw [hok] at w2 w3; exact absurd ⟨w2, w3⟩ hno
        · exact Or.inr ⟨o, by omega, w2, w3, w4⟩
    refine ⟨pk_in (k * 12 + t) 144 (by omega), fun c => skip (fun z => by have z1 : 0 < (nPa (k * 12 + t)).toInt := z.1; omega), fun c => ⟨pk_in k 12 (by omega), pk_in t 12 (by omega), fun c2 => skip (fun z => c2 z.2), fun c2 => ?_⟩⟩
    refine H.reach hn (by omega) (Or.inr (Or.inr (Or.inr ⟨t, k, ht, by omega, rfl, rfl, by unfold paI; omega, c2⟩))) (fun q' fr' qu' H' z ez => ?_)
    rw [ez, nI_1]
    refine ih (k + 1) q' fr' qu' (by omega) (H'.mono (fun v hv => ?_))
    rcases hv with w | ⟨o, w1, w2, w3, w4⟩
    · exact Or.inl (Or.inl w)
    · by_cases hok : o = k
      · exact Or.inr (by rw [w4, hok])
      · exact Or.inl (Or.inr ⟨o, by omega, w2, w3, w4⟩)
theorem wp_lB (hn : n ≤ 12) (hK : NetK n e md h er s2 nEa nMi nHa nER nMR) (hon : ∀ t, t < n → 0 ≤ onT e md h er s2 (iT nTh) t ∧ onT e md h er s2 (iT nTh) t ≤ 60) (hf : ∀ t, t < n → 0 ≤ iT f1 t ∧ iT f1 t ≤ 1000) {t d q : Nat} (ht : t < n) {fr qu : Nat → Int32} (H : SC n (ArcC n e md h er s2 tBe nTh nPa f1 f2) (RootC n tBe f1) Tm q fr qu d (2 * t) (fun _ => False)) (hT : ¬ Tm (2 * t)) {Q : Int32 → (Nat → Int32) → (Nat → Int32) → Prop}
    (hQ : ∀ q' fr' qu', (∃ lev, CBF n (ArcC n e md h er s2 tBe nTh nPa f1 f2) (RootC n tBe f1) Tm q' fr' qu' (d + 1) lev ∧ ∀ s, RootC n tBe f1 s → ∃ k, k < q' ∧ rowOf qu' k = s ∧ lev s = 0) → d < q' → Q (nI q') fr' qu') : wp_X4_leaveBegin f1 f2 (nI n) (nI q) nEa nMi nHa nER nMR nTh nPa fr qu (nI t) Q := by
  unfold wp_X4_leaveBegin
  rw [cl_nI (by omega), tw1, tw0]
  refine ⟨pk_in t 12 (by omega), wp_spOn hn hK ht (fun r erq => ⟨pk_in t 12 (by omega), ?_⟩)⟩
  have hft := hf t ht
  have hot := hon t ht
  unfold iT at hft
  have hadd := i_add (a := f1 t) (b := r) (by omega) (by omega)
  rw [i_eq, hadd, erq]
  have fin : ∀ (q : Nat) (fr qu : Nat → Int32) (V : Nat → Prop), SC n (ArcC n e md h er s2 tBe nTh nPa f1 f2) (RootC n tBe f1) Tm q fr qu d (2 * t) V → (iT f1 t + onT e md h er s2 (iT nTh) t = iT f2 t → V (2 * t + 1)) → wp_X4_leaveBegin_b27 Q (nI t) f1 f2 (nI n) nPa (nI q) fr qu := by
    intro q fr qu V HV hV
    refine ⟨n + 1, lb_in hn ht (V := V) (fun q' fr' qu' H' => ?_) n 0 q fr qu (by omega) (HV.mono (fun v hv => ?_))⟩
    · have hd : d < q' := by obtain ⟨_, _, h2, _⟩ := H'; exact h2
      refine hQ q' fr' qu' (H'.done (fun v hv => ?_) hT) hd
      rcases hv with ⟨t', h1, h2, h3, h4⟩ | ⟨t', h1, h2, h3, h4, h5⟩ | ⟨t', o, h1, h2, h3, h4, h5, h6⟩ | ⟨t', o, h1, h2, h3, h4, h5, h6⟩
      · have e1 : t' = t := by omega
        subst e1
        exact Or.inl (by rw [h3]; exact hV h4)
      · omega
      · omega
      · have e1 : t' = t := by omega
        subst e1
        exact Or.inr ⟨o, h2, h5, h6, h4⟩
    · rcases hv with w | ⟨o, w, _⟩
      · exact w
      · omega
  refine ⟨fun c => fin q fr qu _ H (fun z => absurd z c), fun c => ?_⟩
  refine H.reach hn (by omega) (Or.inl ⟨t, ht, rfl, rfl, c⟩) (fun q' fr' qu' H' => fin q' fr' qu' _ H' (fun _ => Or.inr rfl))
theorem le_in (hn : n ≤ 12) (hbe : ∀ t, t < n → ∀ i, bt (nBe t) i = true ↔ Red (foC n tBe) t i) {t d : Nat} (ht : t < n) {V : Nat → Prop} {Q : Int32 → (Nat → Int32) → (Nat → Int32) → Prop}
    (hQ : ∀ q fr qu, SC n (ArcC n e md h er s2 tBe nTh nPa f1 f2) (RootC n tBe f1) Tm q fr qu d (2 * t + 1) (fun x => V x ∨ ∃ o, o < n ∧ Red (foC n tBe) o t ∧ iT f1 o = iT f2 t ∧ x = 2 * o) → Q (nI q) fr qu) :
    ∀ (j k q : Nat) (fr qu : Nat → Int32), k + j = n → SC n (ArcC n e md h er s2 tBe nTh nPa f1 f2) (RootC n tBe f1) Tm q fr qu d (2 * t + 1) (fun x => V x ∨ ∃ o, o < k ∧ Red (foC n tBe) o t ∧ iT f1 o = iT f2 t ∧ x = 2 * o) → wp_X4_leaveEnd_L39 (nI t) f1 f2 nBe (nI n) Q (j + 1) (nI k) (nI q) fr qu := by
  intro j
  induction j with
  | zero =>
    intro k q fr qu hk H
    rw [wp_X4_leaveEnd_L39]
    rw [show k = n by omega] at H ⊢
    exact pk_le n n (fun _ => hQ q fr qu H) (fun q => absurd q (by omega))
  | succ j ih =>
    intro k q fr qu hk H
    rw [wp_X4_leaveEnd_L39]
    refine pk_le n k (fun q => absurd q (by omega)) (fun q1 => ?_)
    rw [cl_nI (by omega), cl_nI (by omega), i_eq, tw1, tw0]
    have skip : ¬ (Red (foC n tBe) k t ∧ iT f1 k = iT f2 t) → wp_X4_leaveEnd_b85 (wp_X4_leaveEnd_L39 (nI t) f1 f2 nBe (nI n) Q (j + 1)) (nI k) (nI q) fr qu := by
      intro hno z ez
      rw [ez, nI_1]
      refine ih (k + 1) q fr qu (by omega) (H.mono (fun v hv => ?_))
      rcases hv with w | ⟨o, w1, w2, w3, w4⟩
      · exact Or.inl w
      · by_cases hok : o = k
        · rw [hok] at w2 w3; exact absurd ⟨w2, w3⟩ hno
        · exact Or.inr ⟨o, by omega, w2, w3, w4⟩
    refine ⟨pk_in k 12 (by omega), wp_bit (by omega) (fun hb => skip (fun z => by rw [(hbe k (by omega) t).mpr z.1] at hb; exact absurd hb (by decide))) (fun hb => ⟨pk_in k 12 (by omega), pk_in t 12 (by omega), fun c2 => skip (fun z => c2 z.2), fun c2 => ?_⟩)⟩
    have hred := (hbe k (by omega) t).mp hb
    refine H.reach hn (by omega) (Or.inr (Or.inr (Or.inl ⟨k, t, by omega, ht, rfl, rfl, hred, c2⟩))) (fun q' fr' qu' H' z ez => ?_)
    rw [ez, nI_1]
    refine ih (k + 1) q' fr' qu' (by omega) (H'.mono (fun v hv => ?_))
    rcases hv with w | ⟨o, w1, w2, w3, w4⟩
    · exact Or.inl (Or.inl w)
    · by_cases hok : o = k
      · exact Or.inr (by rw [w4, hok])
      · exact Or.inl (Or.inr ⟨o, by omega, w2, w3, w4⟩)
theorem wp_lE (hn : n ≤ 12) (hbe : ∀ t, t < n → ∀ i, bt (nBe t) i = true ↔ Red (foC n tBe) t i) (hK : NetK n e md h er s2 nEa nMi nHa nER nMR) (hoff : ∀ t, t < n → 0 ≤ offT e md h er s2 (iT nTh) t ∧ offT e md h er s2 (iT nTh) t ≤ 60) (hf : ∀ t, t < n → 0 ≤ iT f1 t ∧ iT f1 t ≤ 1000) {t d q : Nat} (ht : t < n) {fr qu : Nat → Int32} (H : SC n (ArcC n e md h er s2 tBe nTh nPa f1 f2) (RootC n tBe f1) Tm q fr qu d (2 * t + 1) (fun _ => False)) (hT : ¬ Tm (2 * t + 1)) {Q : Int32 → (Nat → Int32) → (Nat → Int32) → Prop}
    (hQ : ∀ q' fr' qu', (∃ lev, CBF n (ArcC n e md h er s2 tBe nTh nPa f1 f2) (RootC n tBe f1) Tm q' fr' qu' (d + 1) lev ∧ ∀ s, RootC n tBe f1 s → ∃ k, k < q' ∧ rowOf qu' k = s ∧ lev s = 0) → d < q' → Q (nI q') fr' qu') : wp_X4_leaveEnd f1 f2 (nI n) (nI q) nBe nEa nMi nHa nER nMR nTh fr qu (nI t) Q := by
  have fin : ∀ (q : Nat) (fr qu : Nat → Int32) (V : Nat → Prop), SC n (ArcC n e md h er s2 tBe nTh nPa f1 f2) (RootC n tBe f1) Tm q fr qu d (2 * t + 1) V → (0 < iT nTh t → iT f1 t + offT e md h er s2 (iT nTh) t = iT f2 t → V (2 * t)) → wp_X4_leaveEnd_b36 Q (nI t) f1 f2 nBe (nI n) (nI q) fr qu := by
    intro q fr qu V HV hV
    refine ⟨n + 1, le_in hn hbe ht (V := V) (fun q' fr' qu' H' => ?_) n 0 q fr qu (by omega) (HV.mono (fun v hv => ?_))⟩
    · have hd : d < q' := by obtain ⟨_, _, h2, _⟩ := H'; exact h2
      refine hQ q' fr' qu' (H'.done (fun v hv => ?_) hT) hd
      rcases hv with ⟨t', h1, h2, h3, h4⟩ | ⟨t', h1, h2, h3, h4, h5⟩ | ⟨t', o, h1, h2, h3, h4, h5, h6⟩ | ⟨t', o, h1, h2, h3, h4, h5, h6⟩
      · omega
      · have e1 : t' = t := by omega
        subst e1
        exact Or.inl (by rw [h3]; exact hV h4 h5)
      · have e1 : o = t := by omega
        subst e1
        exact Or.inr ⟨t', h1, h5, h6, h4⟩
      · omega
    · rcases hv with w | ⟨o, w, _⟩
      · exact w
      · omega
  unfold wp_X4_leaveEnd
  rw [cl_nI (by omega), i_le, lt0, tw1, tw0]
  refine ⟨pk_in t 12 (by omega), fun c => fin q fr qu _ H (fun z => by unfold iT at z; omega), fun c => ⟨pk_in t 12 (by omega), wp_spOff hn hK ht (fun r erq => ⟨pk_in t 12 (by omega), ?_⟩)⟩⟩
  have hft := hf t ht
  have hot := hoff t ht
  unfold iT at hft
  have hadd := i_add (a := f1 t) (b := r) (by omega) (by omega)
  rw [i_eq, hadd, erq]
  refine ⟨fun c2 => fin q fr qu _ H (fun _ z => absurd z c2), fun c2 => ?_⟩
  refine H.reach hn (by omega) (Or.inr (Or.inl ⟨t, ht, rfl, rfl, by unfold iT; omega, c2⟩)) (fun q' fr' qu' H' => fin q' fr' qu' _ H' (fun _ _ => Or.inr rfl))
theorem fw_root (hn : n ≤ 12) (hbe : ∀ t, t < n → ∀ i, bt (nBe t) i = true ↔ Red (foC n tBe) t i) {Q : Int32 → (Nat → Int32) → (Nat → Int32) → Prop}
    (hQ : ∀ q fr qu, (∃ lev, CBF n (ArcC n e md h er s2 tBe nTh nPa f1 f2) (RootC n tBe f1) Tm q fr qu 0 lev ∧ ∀ s, RootC n tBe f1 s → ∃ k, k < q ∧ rowOf qu k = s ∧ lev s = 0) → Q (nI q) fr qu) :
    ∀ (j k q : Nat) (fr qu : Nat → Int32) (lev : Nat → Nat), k + j = n → CBF n (ArcC n e md h er s2 tBe nTh nPa f1 f2) (RootC n tBe f1) Tm q fr qu 0 lev → (∀ i, i < q → lev (rowOf qu i) = 0) → (∀ t, t < k → RootC n tBe f1 (2 * t) → ∃ i, i < q ∧ rowOf qu i = 2 * t) → wp_X4_findWay_L16 f1 nBe (nI n) Q (j + 1) (nI k) (nI q) fr qu := by
  intro j
  induction j with
  | zero =>
    intro k q fr qu lev hk H h0 hR
    rw [wp_X4_findWay_L16]
    refine pk_le n k (fun _ => hQ q fr qu ⟨lev, H, fun s hs => ?_⟩) (fun q => absurd q (by omega))
    obtain ⟨t, h1, h2, _⟩ := id hs
    rw [h2] at hs
    obtain ⟨i, i1, i2⟩ := hR t (by omega) hs
    exact ⟨i, i1, by rw [h2]; exact i2, by rw [h2, ← i2]; exact h0 i i1⟩
  | succ j ih =>
    intro k q fr qu lev hk H h0 hR
    rw [wp_X4_findWay_L16]
    have hle := H.le
    refine pk_le n k (fun q => absurd q (by omega)) (fun q1 => ⟨pk_in k 12 (by omega), ?_⟩)
    rw [cl_nI (by omega), tw0]
    have skip : ∀ (q : Nat) (fr qu : Nat → Int32) (lev : Nat → Nat), CBF n (ArcC n e md h er s2 tBe nTh nPa f1 f2) (RootC n tBe f1) Tm q fr qu 0 lev → (∀ i, i < q → lev (rowOf qu i) = 0) → (∀ t, t < k + 1 → RootC n tBe f1 (2 * t) → ∃ i, i < q ∧ rowOf qu i = 2 * t) → wp_X4_findWay_b52 (wp_X4_findWay_L16 f1 nBe (nI n) Q (j + 1)) (nI k) (nI q) fr qu := by
      intro q fr qu lev H h0 hR z ez
      rw [ez, nI_1]
      exact ih (k + 1) q fr qu lev (by omega) H h0 hR
    have no : ¬ RootC n tBe f1 (2 * k) → ∀ t, t < k + 1 → RootC n tBe f1 (2 * t) → ∃ i, i < q ∧ rowOf qu i = 2 * t := by
      intro hno t ht hr
      rcases Nat.lt_or_ge t k with w | w
      · exact hR t w hr
      · rw [show t = k by omega] at hr; exact absurd hr hno
    have root_iff : RootC n tBe f1 (2 * k) ↔ nBe k = 0 ∧ f1 k = 0 := by
      constructor
      · rintro ⟨t, g1, g2, g3, g4⟩
        have e1 : t = k := by omega
        subst e1
        refine ⟨b_ext (fun i hi => ?_), by rw [i_eq]; exact g4⟩
        rw [b_0]
        cases hb : bt (nBe t) i
        · rfl
        · exact absurd ((hbe t g1 i).mp hb) (g3 i)
      · rintro ⟨g1, g2⟩
        refine ⟨k, by omega, rfl, fun o ho => ?_, by unfold iT; rw [g2]; rfl⟩
        have := (hbe k (by omega) o).mpr ho
        rw [g1, b_0] at this
        exact absurd this (by decide)
    refine ⟨fun c => skip q fr qu lev H h0 (no (fun z => c (root_iff.mp z).1)), fun c => ⟨pk_in k 12 (by omega), fun c2 => skip q fr qu lev H h0 (no (fun z => c2 (root_iff.mp z).2)), fun c2 => ?_⟩⟩
    have hrt := root_iff.mpr ⟨c, c2⟩
    unfold wp_X4_reach
    rw [cl_nI (by omega), cl_nI (by omega)]
    refine ⟨pk_in (2 * k) 24 (by omega), fun hs => skip q fr qu lev H h0 (fun t ht hr => ?_), fun hs => ?_⟩
    · rcases Nat.lt_or_ge t k with w | w
      · exact hR t w hr
      · rw [show t = k by omega]
        exact Classical.byContradiction (fun z => hs ((H.2.2.1 (2 * k) (by omega)).mpr z))
    · have hq := H.room (by omega) hs
      refine pk_le 24 q (fun z => absurd z (by omega)) (fun _ => ⟨pk_in (2 * k) 24 (by omega), fun fr' ef => ⟨pk_in q 24 hq, fun qu' eq x ex => ?_⟩⟩)
      rw [ex, nI_1, ef, eq]
      have H' := H.add hn (v := 2 * k) (by omega) hs (w := -2) (l := 0) (by decide) (Or.inl ⟨rfl, hrt, rfl, rfl, h0⟩) (Or.inr rfl)
      have er := rowOf_upd (f := qu) (k := q) (t := 2 * k) (by omega)
      refine skip (q + 1) _ _ _ H' (fun i hi => ?_) (fun t ht hr => ?_)
      · rw [er i]
        by_cases hiq : i = q
        · rw [if_pos hiq]; simp
        · rw [if_neg hiq]
          split
          · rfl
          · exact h0 i (by omega)
      · rcases Nat.lt_or_ge t k with w | w
        · obtain ⟨i, i1, i2⟩ := hR t w hr
          exact ⟨i, by omega, by rw [er i, if_neg (by omega)]; exact i2⟩
        · exact ⟨q, by omega, by rw [er q, if_pos rfl, show t = k by omega]⟩
/-- a search that found none: all that it reached -/
def NoWay (A : Nat → Nat → Prop) (S0 Tm : Nat → Prop) (R : Nat → Bool) : Prop := (∀ s, S0 s → R s = true) ∧ (∀ u v, R u = true → A u v → R v = true) ∧ ∀ u, R u = true → ¬ Tm u
theorem fw_main (hn : n ≤ 12) (hbe : ∀ t, t < n → ∀ i, bt (nBe t) i = true ↔ Red (foC n tBe) t i) (hK : NetK n e md h er s2 nEa nMi nHa nER nMR) (hon : ∀ t, t < n → 0 ≤ onT e md h er s2 (iT nTh) t ∧ onT e md h er s2 (iT nTh) t ≤ 60) (hoff : ∀ t, t < n → 0 ≤ offT e md h er s2 (iT nTh) t ∧ offT e md h er s2 (iT nTh) t ≤ 60) (hf : ∀ t, t < n → 0 ≤ iT f1 t ∧ iT f1 t ≤ 1000)
    {nFo len : Int32} (hfo : ∀ i, bt nFo i = true ↔ ∃ t, t < n ∧ Red (foC n tBe) t i) {Q : Int32 → Int32 → (Nat → Int32) → (Nat → Int32) → Prop}
    (hQ1 : ∀ t q fr qu, t < n → (∃ p m, FoundW n (ArcC n e md h er s2 tBe nTh nPa f1 f2) (RootC n tBe f1) (TermN n (Red (foC n tBe)) (iT f2) len.toInt) fr (2 * t + 1) p m) → Q (nI t) (nI q) fr qu)
    (hQ0 : ∀ q fr qu, (∃ R, NoWay (ArcC n e md h er s2 tBe nTh nPa f1 f2) (RootC n tBe f1) (TermN n (Red (foC n tBe)) (iT f2) len.toInt) R) → Q (-1) (nI q) fr qu) :
    ∀ (j d q : Nat) (fr qu : Nat → Int32), d + j = 24 → d ≤ q → (∃ lev, CBF n (ArcC n e md h er s2 tBe nTh nPa f1 f2) (RootC n tBe f1) (TermN n (Red (foC n tBe)) (iT f2) len.toInt) q fr qu d lev ∧ ∀ s, RootC n tBe f1 s → ∃ k, k < q ∧ rowOf qu k = s ∧ lev s = 0) →
      wp_X4_findWay_L61 Q len f1 f2 nBe (nI n) nER nEa nFo nHa nMR nMi nPa nTh (fun (nQd_28 : Int32) (nFr_29 : Nat → Int32) (nQu_30 : Nat → Int32) => Q (-1) nQd_28 nFr_29 nQu_30) (j + 1) (nI d) (nI q) fr qu := by
  have none : ∀ (d q : Nat) (fr qu : Nat → Int32), q ≤ d → (∃ lev, CBF n (ArcC n e md h er s2 tBe nTh nPa f1 f2) (RootC n tBe f1) (TermN n (Red (foC n tBe)) (iT f2) len.toInt) q fr qu d lev ∧ ∀ s, RootC n tBe f1 s → ∃ k, k < q ∧ rowOf qu k = s ∧ lev s = 0) → ∃ R, NoWay (ArcC n e md h er s2 tBe nTh nPa f1 f2) (RootC n tBe f1) (TermN n (Red (foC n tBe)) (iT f2) len.toInt) R := by
    rintro d q fr qu hdq ⟨lev, ⟨a1, a2, a3, a4, a5, a6, a7, a8, a9⟩, hR⟩
    refine ⟨fun v => decide (∃ i, i < q ∧ rowOf qu i = v), fun s hs => ?_, fun u v hu hA => ?_, fun u hu => ?_⟩
    · obtain ⟨k, k1, k2, _⟩ := hR s hs
      exact decide_eq_true ⟨k, k1, k2⟩
    · obtain ⟨i, i1, i2⟩ := of_decide_eq_true hu
      obtain ⟨k, k1, k2, _⟩ := a7 i v (by omega) i1 (by rw [i2]; exact hA)
      exact decide_eq_true ⟨k, k1, k2⟩
    · obtain ⟨i, i1, i2⟩ := of_decide_eq_true hu
      rw [← i2]; exact a8 i (by omega) i1
  intro j
  induction j with
  | zero =>
    intro d q fr qu hd hdq hS
    have hle : q ≤ 24 := by obtain ⟨lev, hC, _⟩ := hS; exact hC.le
    rw [wp_X4_findWay_L61]
    exact pk_le q d (fun z => hQ0 q fr qu (none d q fr qu z hS)) (fun z => absurd z (by omega))
  | succ j ih =>
    intro d q fr qu hd hdq hS
    have hle : q ≤ 24 := by obtain ⟨lev, hC, _⟩ := hS; exact hC.le
    rw [wp_X4_findWay_L61]
    refine pk_le q d (fun z => hQ0 q fr qu (none d q fr qu z hS)) (fun z => ⟨pk_in d 24 (by omega), fun x5 e5 => ⟨pk_in d 24 (by omega), ?_⟩⟩)
    obtain ⟨lev, hC, hR⟩ := hS
    have ha := hC.1 d z
    rw [cl_nI (by omega), ha.1] at e5 ⊢
    have hdiv : nI (rowOf qu d) / (2 : Int32) = nI (rowOf qu d / 2) := pk_div (d := 2) (by omega) (by omega) (by omega)
    have hrem : nI (rowOf qu d) - nI (rowOf qu d) / (2 : Int32) * 2 = nI (rowOf qu d % 2) := pk_rem (d := 2) (by omega) (by omega) (by omega)
    rw [hdiv] at e5
    rw [hrem, e5, cl_nI (by omega)]
    have nxt : ∀ q' fr' qu', (∃ lev, CBF n (ArcC n e md h er s2 tBe nTh nPa f1 f2) (RootC n tBe f1) (TermN n (Red (foC n tBe)) (iT f2) len.toInt) q' fr' qu' (d + 1) lev ∧ ∀ s, RootC n tBe f1 s → ∃ k, k < q' ∧ rowOf qu' k = s ∧ lev s = 0) → d < q' → wp_X4_findWay_b135 (wp_X4_findWay_L61 Q len f1 f2 nBe (nI n) nER nEa nFo nHa nMR nMi nPa nTh (fun (nQd_28 : Int32) (nFr_29 : Nat → Int32) (nQu_30 : Nat → Int32) => Q (-1) nQd_28 nFr_29 nQu_30) (j + 1)) (nI d) (nI q') fr' qu' := by
      intro q' fr' qu' hS' hd' y ey
      rw [ey, nI_1]
      exact ih (d + 1) q' fr' qu' (by omega) (by omega) hS'
    have odd : rowOf qu d % 2 = 1 → ¬ TermN n (Red (foC n tBe)) (iT f2) len.toInt (rowOf qu d) → wp_X4_findWay_b127 f1 f2 nBe (nI n) nER nEa nHa nMR nMi nTh (wp_X4_findWay_L61 Q len f1 f2 nBe (nI n) nER nEa nFo nHa nMR nMi nPa nTh (fun (nQd_28 : Int32) (nFr_29 : Nat → Int32) (nQu_30 : Nat → Int32) => Q (-1) nQd_28 nFr_29 nQu_30) (j + 1)) (nI d) (nI (rowOf qu d / 2)) (nI q) fr qu := by
      intro ho hT
      have e2 : 2 * (rowOf qu d / 2) + 1 = rowOf qu d := by omega
      refine wp_lE (d := d) hn hbe hK hoff hf (t := rowOf qu d / 2) (by omega) (nPa := nPa) (Tm := TermN n (Red (foC n tBe)) (iT f2) len.toInt) ⟨lev, hC, z, by rw [e2], fun v hv => absurd hv (by simp), hR⟩ (by rw [e2]; exact hT) nxt
    refine ⟨fun hp => ?_, fun hp => ?_⟩
    · have ho : rowOf qu d % 2 = 1 := by
        rcases Nat.mod_two_eq_zero_or_one (rowOf qu d) with w | w
        · exact absurd (by rw [w]; rfl) hp
        · exact w
      have e2 : 2 * (rowOf qu d / 2) + 1 = rowOf qu d := by omega
      refine ⟨pk_in (rowOf qu d / 2) 12 (by omega), fun c => odd ho (fun ⟨t, g1, g2, g3, _⟩ => c ?_), fun c => wp_bit' (by omega) (fun hb => hQ1 _ q fr qu (by omega) ?_) (fun hb => odd ho (fun ⟨t, g1, g2, g3, g4⟩ => ?_))⟩
      · have e3 : t = rowOf qu d / 2 := by omega
        subst e3
        rw [i_eq]; exact g3
      · rw [e2]
        refine hC.found hR z ⟨rowOf qu d / 2, by omega, e2.symm, by unfold iT; rw [c], fun u hu => ?_⟩
        rw [(hfo _).mpr ⟨u, hu.1.1, hu⟩] at hb
        exact absurd hb (by decide)
      · have e3 : t = rowOf qu d / 2 := by omega
        obtain ⟨u, u1, u2⟩ := (hfo _).mp hb
        rw [← e3] at u2
        exact g4 u u2
    · have ho : rowOf qu d % 2 = 0 := by
        rcases Nat.mod_two_eq_zero_or_one (rowOf qu d) with w | w
        · exact w
        · rw [w] at hp; exact absurd hp (by decide)
      have e2 : 2 * (rowOf qu d / 2) = rowOf qu d := by omega
      exact wp_lB (d := d) hn hK hon hf (t := rowOf qu d / 2) (by omega) (Tm := TermN n (Red (foC n tBe)) (iT f2) len.toInt) ⟨lev, hC, z, by rw [e2], fun v hv => absurd hv (by simp), hR⟩ (by rw [e2]; rintro ⟨t, g1, g2, _⟩; omega) nxt
theorem wp_fw (hn : n ≤ 12) (hbe : ∀ t, t < n → ∀ i, bt (nBe t) i = true ↔ Red (foC n tBe) t i) (hK : NetK n e md h er s2 nEa nMi nHa nER nMR) (hon : ∀ t, t < n → 0 ≤ onT e md h er s2 (iT nTh) t ∧ onT e md h er s2 (iT nTh) t ≤ 60) (hoff : ∀ t, t < n → 0 ≤ offT e md h er s2 (iT nTh) t ∧ offT e md h er s2 (iT nTh) t ≤ 60) (hf : ∀ t, t < n → 0 ≤ iT f1 t ∧ iT f1 t ≤ 1000)
    {nFo nQd len : Int32} {nFr nQu : Nat → Int32} (hfo : ∀ i, bt nFo i = true ↔ ∃ t, t < n ∧ Red (foC n tBe) t i) {Q : Int32 → Int32 → (Nat → Int32) → (Nat → Int32) → Prop}
    (hQ1 : ∀ t q fr qu, t < n → (∃ p m, FoundW n (ArcC n e md h er s2 tBe nTh nPa f1 f2) (RootC n tBe f1) (TermN n (Red (foC n tBe)) (iT f2) len.toInt) fr (2 * t + 1) p m) → Q (nI t) (nI q) fr qu)
    (hQ0 : ∀ q fr qu, (∃ R, NoWay (ArcC n e md h er s2 tBe nTh nPa f1 f2) (RootC n tBe f1) (TermN n (Red (foC n tBe)) (iT f2) len.toInt) R) → Q (-1) (nI q) fr qu) : wp_X4_findWay f1 f2 (nI n) nFo nQd nBe nEa nMi nHa nER nMR nTh nPa nFr nQu len Q := by
  intro fr efr qd eqd
  have key := fw_root (Q := fun (nQd_9 : Int32) (nFr_10 : Nat → Int32) (nQu_11 : Nat → Int32) => ∃ n61 : Nat, wp_X4_findWay_L61 Q len f1 f2 nBe (nI n) nER nEa nFo nHa nMR nMi nPa nTh (fun (nQd_28 : Int32) (nFr_29 : Nat → Int32) (nQu_30 : Nat → Int32) => Q (-1) nQd_28 nFr_29 nQu_30) n61 0 nQd_9 nFr_10 nQu_11) (e := e) (md := md) (h := h) (er := er) (s2 := s2) (nTh := nTh) (nPa := nPa) (f2 := f2) (Tm := TermN n (Red (foC n tBe)) (iT f2) len.toInt) hn hbe (fun q fr qu hS => ⟨25, fw_main hn hbe hK hon hoff hf hfo hQ1 hQ0 24 0 q fr qu (by omega) (Nat.zero_le _) hS⟩) n 0 0 fr nQu (fun _ => 0) (by omega) ?_ (fun i h => absurd h (by omega)) (fun t h => absurd h (by omega))
  · rw [eqd]
    exact ⟨_, key⟩
  · have h1 : ∀ v, v < 24 → fr v = -1 := fun v hv => by rw [efr]; simp [jFill, hv]
    refine ⟨fun i h => absurd h (by omega), fun i j h1 h2 => absurd h2 (by omega), fun v hv => ⟨fun _ => fun ⟨i, hi, _⟩ => absurd hi (by omega), fun _ => h1 v hv⟩, fun i h => absurd h (by omega), fun i j _ h => absurd h (by omega), fun j h => absurd h (by omega), fun i v h => absurd h (by omega), fun i h => absurd h (by omega), ctB_none (fun v hv => by simp [seB, h1 v hv])⟩
end CWAY
