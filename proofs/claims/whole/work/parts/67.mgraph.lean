/-! the reference: rows of followers, rings, the order, early and late -/
def foM (n : Nat) (pF : Nat → Int32) (t o : Nat) : Prop := t < n ∧ o < n ∧ ¬ pF (12 * t + o) = 0
theorem foM_lt {n : Nat} {pF : Nat → Int32} : ∀ t o, foM n pF t o → t < n ∧ o < n := fun _ _ h => ⟨h.1, h.2.1⟩
theorem ix12 (k o : Nat) : (12 * nI k) + nI o = nI (12 * k + o) := by
  have h : (12 : Int32) * nI k = nI (12 * k) := pk_mul 12 k
  rw [h, nI_add]
section MGRAPH
variable {n : Nat} {pF : Nat → Int32}
theorem al_in (hn : n ≤ 12) {set : Int32} {o : Nat} (ho : o < n) {Q : Int32 → Prop} : ∀ (m k : Nat) (x : Int32), k + m = n → (∀ r, (¬ r = 0 ↔ ¬ x = 0 ∨ ∃ j, k ≤ j ∧ j < n ∧ bt set j = true ∧ ¬ pF (12 * j + o) = 0) → Q r) → wp_X9_all_L45 pF (nI n) set (nI o) Q (m + 1) x (nI k) := by
  intro m
  induction m with
  | zero =>
    intro k x hk hQ
    rw [wp_X9_all_L45]
    refine pk_le n k (fun _ => hQ x ⟨Or.inl, fun h => ?_⟩) (fun q => absurd q (by omega))
    rcases h with h | ⟨j, h1, h2, _⟩
    · exact h
    · omega
  | succ m ih =>
    intro k x hk hQ
    rw [wp_X9_all_L45]
    have zero : x = 0 → ¬ (bt set k = true ∧ ¬ pF (12 * k + o) = 0) → wp_X9_all_b95 (wp_X9_all_L45 pF (nI n) set (nI o) Q (m + 1)) (nI k) := by
      intro hx hno y ey
      rw [ey, nI_1]
      refine ih (k + 1) 0 (by omega) (fun r hr => hQ r (hr.trans ⟨?_, ?_⟩))
      · rintro (h | ⟨j, h1, h2, h3, h4⟩)
        · exact absurd rfl h
        · exact Or.inr ⟨j, by omega, h2, h3, h4⟩
      · rintro (h | ⟨j, h1, h2, h3, h4⟩)
        · exact absurd hx h
        · rcases Nat.lt_or_ge k j with z | z
          · exact Or.inr ⟨j, by omega, h2, h3, h4⟩
          · rw [show j = k by omega] at h3 h4; exact absurd ⟨h3, h4⟩ hno
    have one : (¬ x = 0 ∨ (bt set k = true ∧ ¬ pF (12 * k + o) = 0)) → wp_X9_all_b91 (wp_X9_all_L45 pF (nI n) set (nI o) Q (m + 1)) (nI k) := by
      intro hx y ey
      rw [ey, nI_1]
      refine ih (k + 1) 1 (by omega) (fun r hr => hQ r (hr.trans ⟨fun _ => ?_, fun _ => Or.inl (by decide)⟩))
      rcases hx with z | ⟨z1, z2⟩
      · exact Or.inl z
      · exact Or.inr ⟨k, Nat.le_refl _, by omega, z1, z2⟩
    refine pk_le n k (fun q => absurd q (by omega)) (fun q => ⟨fun hx => one (Or.inl hx), fun hx => ?_⟩)
    rw [b_get1 (by omega), ix12, cl_nI (by omega)]
    refine ⟨fun hb => zero hx (fun g => hb g.1), fun hb => ⟨pk_in (12 * k + o) 144 (by omega), fun h0 => zero hx (fun g => g.2 h0), fun h1 => one (Or.inr ⟨hb, h1⟩)⟩⟩
theorem al_mid (hn : n ≤ 12) {a : Nat} (ha : a < n) {Q : Int32 → Prop} : ∀ (m o : Nat) (x : Int32), o + m = n → (∀ i, bt x i = true → TC (foM n pF) a i) → (∀ y, (∀ i, bt y i = true → TC (foM n pF) a i) → (∀ i, bt x i = true → bt y i = true) → (∀ i, o ≤ i → foM n pF a i → bt y i = true) → (∀ k i, o ≤ i → foM n pF k i → bt x k = true → bt y i = true) → Q y) → wp_X9_all_L13 (nI a) pF (nI n) Q (m + 1) x (nI o) := by
  intro m
  induction m with
  | zero =>
    intro o x ho hs hQ
    rw [wp_X9_all_L13]
    exact pk_le n o (fun _ => hQ x hs (fun _ h => h) (fun i h1 h2 => by have := h2.2.1; omega) (fun k i h1 h2 => by have := h2.2.1; omega)) (fun q => absurd q (by omega))
  | succ m ih =>
    intro o x ho hs hQ
    rw [wp_X9_all_L13]
    refine pk_le n o (fun q => absurd q (by omega)) (fun q => ⟨?_, fun y ey => ⟨n + 1, al_in hn (by omega) n 0 y (by omega) (fun r hr => ?_)⟩⟩)
    · rw [ix12]; exact pk_in (12 * a + o) 144 (by omega)
    · rw [ix12, cl_nI (by omega)] at ey
      rw [ey] at hr
      refine ⟨fun h0 z ez w ew => ?_, fun h1 z ez w ew => ?_⟩
      · have hno := (not_congr hr).mp (fun q => q h0)
        have hz : z = x := by rw [ez]; exact b_ext (fun i _ => by rw [b_or, b_0]; simp)
        rw [ew, nI_1, hz]
        refine ih (o + 1) x (by omega) hs (fun y g1 g2 g3 g4 => hQ y g1 g2 (fun i k1 k2 => ?_) (fun k i k1 k2 k3 => ?_))
        · rcases Nat.lt_or_ge o i with z | z
          · exact g3 i (by omega) k2
          · rw [show i = o by omega] at k2; exact absurd (Or.inl k2.2.2) hno
        · rcases Nat.lt_or_ge o i with z | z
          · exact g4 k i (by omega) k2 k3
          · rw [show i = o by omega] at k2; exact absurd (Or.inr ⟨k, Nat.zero_le _, k2.1, k3, k2.2.2⟩) hno
      · have hz : ∀ i, bt z i = true ↔ bt x i = true ∨ i = o := fun i => by rw [ez, b_set (by omega), Bool.or_eq_true, decide_eq_true_iff]
        rw [ew, nI_1]
        have hs' : ∀ i, bt z i = true → TC (foM n pF) a i := by
          intro i hi
          rcases (hz i).mp hi with g | g
          · exact hs i g
          · rw [g]
            rcases hr.mp h1 with k1 | ⟨j, _, k2, k3, k4⟩
            · exact Relation.TransGen.single ⟨ha, by omega, k1⟩
            · exact Relation.TransGen.tail (hs j k3) ⟨k2, by omega, k4⟩
        refine ih (o + 1) z (by omega) hs' (fun y g1 g2 g3 g4 => hQ y g1 (fun i k => g2 i ((hz i).mpr (Or.inl k))) (fun i k1 k2 => ?_) (fun k i k1 k2 k3 => ?_))
        · rcases Nat.lt_or_ge o i with z | z
          · exact g3 i (by omega) k2
          · exact g2 i ((hz i).mpr (Or.inr (by omega)))
        · rcases Nat.lt_or_ge o i with z | z
          · exact g4 k i (by omega) k2 ((hz k).mpr (Or.inl k3))
          · exact g2 i ((hz i).mpr (Or.inr (by omega)))
theorem al_out (hn : n ≤ 12) {a : Nat} (ha : a < n) {Q : Int32 → Prop} (hQ : ∀ y, (∀ i, bt y i = true ↔ TC (foM n pF) a i) → Q y) : ∀ (m r : Nat) (x : Int32), r + m = 13 → (∀ i, bt x i = true → TC (foM n pF) a i) → ((∀ o, TC (foM n pF) a o → bt x o = true) ∨ r ≤ ctB (bt x) n) → wp_X9_all_L4 (nI a) pF (nI n) Q (m + 1) x (nI r) := by
  intro m
  induction m with
  | zero =>
    intro r x hr hs h
    rw [wp_X9_all_L4]
    refine pk_lt 12 r (fun _ => hQ x (fun i => ⟨hs i, fun g => ?_⟩)) (fun q => absurd q (by omega))
    rcases h with h | h
    · exact h i g
    · have := ctB_le (bt x) n; omega
  | succ m ih =>
    intro r x hr hs h
    rw [wp_X9_all_L4]
    refine pk_lt 12 r (fun q => absurd q (by omega)) (fun q => ⟨n + 1, al_mid hn ha n 0 x (by omega) hs (fun y g1 g2 g3 g4 z ez => ?_)⟩)
    rw [ez, nI_1]
    refine ih (r + 1) y (by omega) g1 ?_
    rcases clos_grow (t := a) (P := bt x) (Q := bt y) foM_lt (fun k _ h => g2 k h) (fun o g => g3 o (Nat.zero_le _) g) (fun k o k1 k2 => g4 k o (Nat.zero_le _) k1 k2) with g | g
    · exact Or.inl g
    · rcases h with h | h
      · exact Or.inl (fun o g6 => g2 o (h o g6))
      · exact Or.inr (by omega)
theorem wp_mall (hn : n ≤ 12) {a : Nat} (ha : a < n) {Q : Int32 → Prop} (hQ : ∀ y, (∀ i, bt y i = true ↔ TC (foM n pF) a i) → Q y) : wp_X9_all (nI n) pF (nI a) Q :=
  ⟨14, al_out hn ha hQ 13 0 0 (by omega) (fun i g => by rw [b_0] at g; exact absurd g (by decide)) (Or.inr (Nat.zero_le _))⟩
theorem mring_in (hn : n ≤ 12) {Q : Int32 → Prop} : ∀ (m k : Nat) (x : Int32), k + m = n → (∀ r, (∀ i, bt r i = true ↔ bt x i = true ∨ (k ≤ i ∧ i < n ∧ TC (foM n pF) i i)) → Q r) → wp_X9_after_L58 (nI n) pF Q (m + 1) x (nI k) := by
  intro m
  induction m with
  | zero =>
    intro k x hk hQ
    rw [wp_X9_after_L58]
    refine pk_le n k (fun _ => hQ x (fun i => ⟨Or.inl, fun h => ?_⟩)) (fun q => absurd q (by omega))
    rcases h with h | ⟨h1, h2, _⟩
    · exact h
    · omega
  | succ m ih =>
    intro k x hk hQ
    rw [wp_X9_after_L58]
    refine pk_le n k (fun q => absurd q (by omega)) (fun q => wp_mall hn (by omega) (fun y hy => ?_))
    rw [b_get1 (by omega), hy k]
    refine ⟨fun hno z ez w ew => ?_, fun hyes z ez w ew => ?_⟩
    · have hz : z = x := by rw [ez]; exact b_ext (fun i _ => by rw [b_or, b_0]; simp)
      rw [ew, nI_1, hz]
      refine ih (k + 1) x (by omega) (fun r hr => hQ r (fun i => ?_))
      rw [hr i]
      constructor
      · rintro (h | ⟨h1, h2, h3⟩)
        · exact Or.inl h
        · exact Or.inr ⟨by omega, h2, h3⟩
      · rintro (h | ⟨h1, h2, h3⟩)
        · exact Or.inl h
        · rcases Nat.lt_or_ge k i with z | z
          · exact Or.inr ⟨by omega, h2, h3⟩
          · rw [show i = k by omega] at h3; exact absurd h3 hno
    · rw [ew, nI_1]
      refine ih (k + 1) z (by omega) (fun r hr => hQ r (fun i => ?_))
      rw [hr i, ez, b_set (by omega), Bool.or_eq_true, decide_eq_true_iff]
      constructor
      · rintro ((h | h) | ⟨h1, h2, h3⟩)
        · exact Or.inl h
        · rw [h]; exact Or.inr ⟨Nat.le_refl _, by omega, hyes⟩
        · exact Or.inr ⟨by omega, h2, h3⟩
      · rintro (h | ⟨h1, h2, h3⟩)
        · exact Or.inl (Or.inl h)
        · rcases Nat.lt_or_ge k i with z | z
          · exact Or.inr ⟨by omega, h2, h3⟩
          · exact Or.inl (Or.inr (by omega))
/-- how many it follows -/
def foN (pF : Nat → Int32) (a : Nat) (o : Nat) : Bool := !decide (pF (12 * a + o) = 0)
theorem fol_in (hn : n ≤ 12) {a : Nat} (ha : a < 12) {Q : Int32 → Prop} (hQ : Q (nI (ctB (foN pF a) n))) : ∀ (m k : Nat), k + m = n → wp_X9_followed_L4 (nI a) pF (nI n) Q (m + 1) (nI (ctB (foN pF a) k)) (nI k) := by
  intro m
  induction m with
  | zero =>
    intro k hk
    rw [wp_X9_followed_L4]
    rw [show k = n by omega]
    exact pk_le n n (fun _ => hQ) (fun q => absurd q (by omega))
  | succ m ih =>
    intro k hk
    rw [wp_X9_followed_L4]
    refine pk_le n k (fun q => absurd q (by omega)) (fun q => ?_)
    rw [ix12, cl_nI (by omega)]
    refine ⟨pk_in (12 * a + k) 144 (by omega), fun h0 x ex y ey => ?_, fun h1 x ex y ey => ?_⟩
    · have e : x = nI (ctB (foN pF a) (k + 1)) := by
        rw [ex, ctB]
        have : foN pF a k = false := by simp [foN, h0]
        rw [this]
        exact nI_add _ 0
      rw [ey, nI_1, e]; exact ih (k + 1) (by omega)
    · have e : x = nI (ctB (foN pF a) (k + 1)) := by
        rw [ex, ctB]
        have : foN pF a k = true := by simp [foN, h1]
        rw [this]
        exact nI_add _ 1
      rw [ey, nI_1, e]; exact ih (k + 1) (by omega)
theorem wp_fol (hn : n ≤ 12) {a : Nat} (ha : a < 12) {Q : Int32 → Prop} (hQ : Q (nI (ctB (foN pF a) n))) : wp_X9_followed (nI n) pF (nI a) Q := ⟨n + 1, fol_in hn ha hQ n 0 (by omega)⟩
/-- not come, and all that it follows have -/
def okM (n : Nat) (pF : Nat → Int32) (come : Int32) (t : Nat) : Prop := bt come t = false ∧ ∀ o, foM n pF t o → bt come o = true
theorem rdy_in (hn : n ≤ 12) {come : Int32} {t : Nat} (ht : t < n) {Q : Int32 → Prop} : ∀ (m k : Nat) (x : Int32), k + m = n → (x = 0 ∨ x = 1) → (∀ r, (r = 0 ∨ r = 1) → (¬ r = 0 ↔ ¬ x = 0 ∧ ∀ o, k ≤ o → foM n pF t o → bt come o = true) → Q r) → wp_X9_isReady_L5 (nI t) come pF (nI n) Q (m + 1) x (nI k) := by
  intro m
  induction m with
  | zero =>
    intro k x hk hx hQ
    rw [wp_X9_isReady_L5]
    exact pk_le n k (fun _ => hQ x hx ⟨fun h => ⟨h, fun o h1 h2 => by have := h2.2.1; omega⟩, fun h => h.1⟩) (fun q => absurd q (by omega))
  | succ m ih =>
    intro k x hk hx hQ
    rw [wp_X9_isReady_L5]
    have zero : (x = 0 ∨ (foM n pF t k ∧ ¬ bt come k = true)) → wp_X9_isReady_b53 (wp_X9_isReady_L5 (nI t) come pF (nI n) Q (m + 1)) (nI k) := by
      intro h y ey
      rw [ey, nI_1]
      refine ih (k + 1) 0 (by omega) (Or.inl rfl) (fun r g1 g2 => hQ r g1 (g2.trans ⟨fun q => absurd rfl q.1, fun q => ?_⟩))
      rcases h with z | ⟨z1, z2⟩
      · exact absurd z q.1
      · exact absurd (q.2 k (Nat.le_refl _) z1) z2
    have one : ¬ x = 0 → (foM n pF t k → bt come k = true) → wp_X9_isReady_b49 (wp_X9_isReady_L5 (nI t) come pF (nI n) Q (m + 1)) (nI k) := by
      intro h h2 y ey
      rw [ey, nI_1]
      refine ih (k + 1) 1 (by omega) (Or.inr rfl) (fun r g1 g2 => hQ r g1 (g2.trans ⟨fun q => ⟨h, fun o k1 k2 => ?_⟩, fun q => ⟨by decide, fun o k1 k2 => q.2 o (by omega) k2⟩⟩))
      rcases Nat.lt_or_ge k o with z | z
      · exact q.2 o (by omega) k2
      · rw [show o = k by omega] at k2 ⊢; exact h2 k2
    refine pk_le n k (fun q => absurd q (by omega)) (fun q => ⟨fun h => zero (Or.inl h), fun h => ?_⟩)
    rw [ix12, cl_nI (by omega), b_get1 (by omega)]
    exact ⟨pk_in (12 * t + k) 144 (by omega), fun h0 => one h (fun g => absurd h0 g.2.2), fun h1 => ⟨fun hb => zero (Or.inr ⟨⟨ht, by omega, h1⟩, hb⟩), fun hb => one h (fun _ => hb)⟩⟩
theorem srt_in (hn : n ≤ 12) {come : Int32} {t0 : Nat} (h0 : t0 < n) (hok : okM n pF come t0) {Q : Int32 → Prop} (hQ : ∀ t, t < n → okM n pF come t → (∀ u, u < t → ¬ okM n pF come u) → Q (nI t)) : ∀ (m t : Nat), t + m = t0 → (∀ u, u < t → ¬ okM n pF come u) → wp_X9_sort_L17 pF (nI n) come Q (m + 1) (nI t) := by
  intro m
  induction m with
  | zero =>
    intro t ht hmin
    have e : t = t0 := by omega
    subst e
    rw [wp_X9_sort_L17, b_get1 (by omega)]
    refine ⟨fun q => by rw [hok.1] at q; exact absurd q (by decide), fun _ => ⟨n + 1, rdy_in hn h0 n 0 1 (by omega) (Or.inr rfl) (fun r g1 g2 => ⟨g1, fun _ => hQ t h0 hok hmin, fun q => ?_⟩)⟩⟩
    exact absurd q (g2.mpr ⟨by decide, fun o _ g => hok.2 o g⟩)
  | succ m ih =>
    intro t ht hmin
    rw [wp_X9_sort_L17, b_get1 (by omega)]
    have skip : ¬ okM n pF come t → wp_X9_sort_b35 (wp_X9_sort_L17 pF (nI n) come Q (m + 1)) (nI t) := by
      intro hno y ey
      rw [ey, nI_1]
      refine ih (t + 1) (by omega) (fun u hu => ?_)
      rcases Nat.lt_or_ge u t with z | z
      · exact hmin u z
      · rw [show u = t by omega]; exact hno
    refine ⟨fun q => skip (fun g => by rw [g.1] at q; exact absurd q (by decide)), fun hb => ⟨n + 1, rdy_in hn (by omega) n 0 1 (by omega) (Or.inr rfl) (fun r g1 g2 => ⟨g1, fun q => ?_, fun q => skip (fun g => ?_)⟩)⟩⟩
    · have := g2.mp q
      exact hQ t (by omega) ⟨by simpa using hb, fun o g => this.2 o (Nat.zero_le _) g⟩ hmin
    · exact absurd q (g2.mpr ⟨by decide, fun o _ g3 => g.2 o g3⟩)
theorem srt_out (hn : n ≤ 12) (hac : Acy (foM n pF)) {Q : (Nat → Int32) → Prop} (hQ : ∀ f', RowOK n (foM n pF) f' → Q f') : ∀ (m k : Nat) (come : Int32) (f : Nat → Int32), k + m = n → (∀ i, i < k → f i = nI (rowOf f i)) → (∀ i, i < k → Nxt n (foM n pF) (fun o => ∃ j, j < i ∧ rowOf f j = o) (rowOf f i)) → (∀ i, bt come i = true ↔ ∃ j, j < k ∧ rowOf f j = i) → ctB (bt come) n = k → wp_X9_sort_L4 pF (nI n) Q (m + 1) come (nI k) f := by
  intro m
  induction m with
  | zero =>
    intro k come f hk h1 h2 h3 h4
    rw [wp_X9_sort_L4]
    refine pk_le n k (fun _ => hQ f ?_) (fun q => absurd q (by omega))
    rw [show k = n by omega] at h1 h2
    exact ⟨h1, h2⟩
  | succ m ih =>
    intro k come f hk h1 h2 h3 h4
    obtain ⟨rk, hr⟩ := hac
    obtain ⟨t0, g1, g2, g3⟩ := nxt_ex foM_lt hr (come := bt come) (by omega)
    rw [wp_X9_sort_L4]
    refine pk_le n k (fun q => absurd q (by omega)) (fun q => ⟨t0 + 1, srt_in hn g1 ⟨g2, g3⟩ (fun t ht hok hmin => ⟨pk_in k 12 (by omega), fun f' ef x ex y ey => ?_⟩) t0 0 (by omega) (fun u hu => absurd hu (by omega))⟩)
    rw [cl_nI (by omega)] at ef
    have hx : Nxt n (foM n pF) (fun o => ∃ j, j < k ∧ rowOf f j = o) t := by
      refine ⟨ht, fun g => by have := hok.1; rw [(h3 t).mpr g] at this; exact absurd this (by decide), fun o g => (h3 o).mp (hok.2 o g), fun u hu => ?_⟩
      by_cases hc : bt come u = true
      · exact Or.inl ((h3 u).mp hc)
      · have hno := hmin u hu
        refine Or.inr (Classical.byContradiction (fun q2 => hno ⟨by simpa using hc, fun o ho2 => ?_⟩))
        exact Classical.byContradiction (fun q3 => q2 ⟨o, ho2, fun q4 => q3 ((h3 o).mpr q4)⟩)
    obtain ⟨n1, n2⟩ := row_next hn (by omega) h1 h2 hx
    rw [ey, nI_1, ef]
    refine ih (k + 1) x _ (by omega) n1 n2 (fun i => ?_) ?_
    · rw [ex, b_set (by omega), Bool.or_eq_true, h3 i, decide_eq_true_iff]
      constructor
      · rintro (⟨j, hj, q⟩ | q)
        · exact ⟨j, by omega, by rw [rowOf_upd (by omega), if_neg (by omega)]; exact q⟩
        · exact ⟨k, by omega, by rw [rowOf_upd (by omega), if_pos rfl]; exact q.symm⟩
      · rintro ⟨j, hj, q⟩
        rw [rowOf_upd (by omega)] at q
        by_cases hjk : j = k
        · rw [if_pos hjk] at q; exact Or.inr q.symm
        · rw [if_neg hjk] at q; exact Or.inl ⟨j, by omega, q⟩
    · rw [ctB_add (p := bt come) (q := bt x) (v := t) hok.1 (by rw [ex, b_set (by omega)]; simp) (fun i hi => by rw [ex, b_set (by omega)]; simp [hi]) n, h4, if_pos ht]
theorem wp_srt (hn : n ≤ 12) (hac : Acy (foM n pF)) {f : Nat → Int32} {Q : (Nat → Int32) → Prop} (hQ : ∀ f', RowOK n (foM n pF) f' → Q f') : wp_X9_sort (nI n) pF f Q := by
  refine ⟨n + 1, srt_out hn hac hQ n 0 0 f (by omega) (fun i h => absurd h (by omega)) (fun i h => absurd h (by omega)) (fun i => ?_) (ctB_none (fun k _ => b_0 k))⟩
  rw [b_0]
  exact ⟨fun h => absurd h (by decide), fun ⟨j, h, _⟩ => absurd h (by omega)⟩
end MGRAPH
