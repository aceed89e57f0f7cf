/-! the class: whom a task follows by rows of others, rings, the order, early and late -/
section CGRAPH
variable {n : Nat} {tBe : Nat → Int32}
theorem aB_in (hn : n ≤ 12) {kn : Int32} {Q : Int32 → Prop} : ∀ (m k : Nat) (x : Int32), k + m = n → (∀ r, (∀ i, bt r i = true ↔ bt x i = true ∨ ∃ o, k ≤ o ∧ o < n ∧ bt kn o = true ∧ bt (tBe o) i = true) → Q r) → wp_X5_allBefore_L31 tBe (nI n) kn Q (m + 1) x (nI k) := by
  intro m
  induction m with
  | zero =>
    intro k x hk hQ
    rw [wp_X5_allBefore_L31]
    refine pk_le n k (fun _ => hQ x (fun i => ⟨Or.inl, fun h => ?_⟩)) (fun q => absurd q (by omega))
    rcases h with h | ⟨o, h1, h2, _⟩
    · exact h
    · omega
  | succ m ih =>
    intro k x hk hQ
    rw [wp_X5_allBefore_L31]
    refine pk_le n k (fun q => absurd q (by omega)) (fun q => wp_bit (by omega) (fun hb => ?_) (fun hb => ⟨pk_in k 12 (by omega), fun y ey => ?_⟩))
    · intro y ey
      rw [ey, nI_1]
      refine ih (k + 1) x (by omega) (fun r hr => hQ r (fun i => ?_))
      rw [hr i]
      constructor
      · rintro (h | ⟨o, h1, h2, h3, h4⟩)
        · exact Or.inl h
        · exact Or.inr ⟨o, by omega, h2, h3, h4⟩
      · rintro (h | ⟨o, h1, h2, h3, h4⟩)
        · exact Or.inl h
        · rcases Nat.lt_or_ge k o with z | z
          · exact Or.inr ⟨o, by omega, h2, h3, h4⟩
          · rw [show o = k by omega, hb] at h3; exact absurd h3 (by decide)
    · intro z ez
      rw [cl_nI (by omega)] at ey
      rw [ez, nI_1]
      refine ih (k + 1) y (by omega) (fun r hr => hQ r (fun i => ?_))
      rw [hr i, ey, b_or]
      constructor
      · rintro (h | ⟨o, h1, h2, h3, h4⟩)
        · rcases (Bool.or_eq_true _ _).mp h with g | g
          · exact Or.inl g
          · exact Or.inr ⟨k, Nat.le_refl _, by omega, hb, g⟩
        · exact Or.inr ⟨o, by omega, h2, h3, h4⟩
      · rintro (h | ⟨o, h1, h2, h3, h4⟩)
        · exact Or.inl (by rw [h]; rfl)
        · rcases Nat.lt_or_ge k o with z | z
          · exact Or.inr ⟨o, by omega, h2, h3, h4⟩
          · rw [show o = k by omega] at h4; exact Or.inl (by rw [h4]; simp)
theorem aB_out (hn : n ≤ 12) (hb : BitsOK n tBe) {t : Nat} (ht : t < n) {Q : Int32 → Prop} (hQ : ∀ y, (∀ i, bt y i = true ↔ TC (foC n tBe) t i) → Q y) : ∀ (m r : Nat) (x kn : Int32), r + m = n → (∀ i, foC n tBe t i → bt x i = true) → (∀ i, bt x i = true → TC (foC n tBe) t i) → (∀ i, bt kn i = true → bt x i = true) → (∀ k o, foC n tBe k o → bt kn k = true → bt x o = true) → ((∀ o, TC (foC n tBe) t o → bt x o = true) ∨ r ≤ ctB (bt x) n) → wp_X5_allBefore_L12 tBe (nI n) Q (m + 1) x kn (nI r) := by
  intro m
  induction m with
  | zero =>
    intro r x kn hr h1 h2 h3 h4 h5
    rw [wp_X5_allBefore_L12]
    refine pk_le n r (fun _ => hQ x (fun i => ⟨h2 i, fun h => ?_⟩)) (fun q => absurd q (by omega))
    rcases h5 with g | g
    · exact g i h
    · exact ctB_all (p := bt x) (n := n) (by omega) i (h.lt foC_lt).2
  | succ m ih =>
    intro r x kn hr h1 h2 h3 h4 h5
    rw [wp_X5_allBefore_L12]
    refine pk_le n r (fun q => absurd q (by omega)) (fun q => ⟨fun e => hQ x (fun i => ⟨h2 i, fun h => ?_⟩), fun e => ⟨n + 1, aB_in hn n 0 x (by omega) (fun y hy => ?_)⟩⟩)
    · rcases clos_grow (t := t) (P := bt x) (Q := bt x) foC_lt (fun _ _ h => h) h1 (fun k o g1 g2 => h4 k o g1 (by rw [← e]; exact g2)) with g | g
      · exact g i h
      · omega
    · intro z ez
      rw [ez, nI_1]
      have hxy : ∀ i, bt x i = true → bt y i = true := fun i h => (hy i).mpr (Or.inl h)
      have hst : ∀ k o, foC n tBe k o → bt x k = true → bt y o = true := fun k o g1 g2 => (hy o).mpr (Or.inr ⟨k, Nat.zero_le _, g1.1, g2, g1.2.2⟩)
      refine ih (r + 1) y x (by omega) (fun i g => hxy i (h1 i g)) (fun i g => ?_) hxy hst ?_
      · rcases (hy i).mp g with g | ⟨o, g1, g2, g3, g4⟩
        · exact h2 i g
        · exact Relation.TransGen.tail (h2 o g3) ⟨g2, hb o g2 i g4, g4⟩
      · rcases clos_grow (t := t) (P := bt x) (Q := bt y) foC_lt (fun k _ h => hxy k h) (fun o g => hxy o (h1 o g)) hst with g | g
        · exact Or.inl g
        · rcases h5 with g5 | g5
          · exact Or.inl (fun o g6 => hxy o (g5 o g6))
          · exact Or.inr (by omega)
theorem wp_allB (hn : n ≤ 12) (hb : BitsOK n tBe) {t : Nat} (ht : t < n) {Q : Int32 → Prop} (hQ : ∀ y, (∀ i, bt y i = true ↔ TC (foC n tBe) t i) → Q y) : wp_X5_allBefore (nI n) tBe (nI t) Q := by
  refine ⟨pk_in t 12 (by omega), fun x e => ⟨n + 1, ?_⟩⟩
  rw [cl_nI (by omega)] at e
  refine aB_out hn hb ht hQ n 0 x 0 (by omega) (fun i g => by rw [e]; exact g.2.2) (fun i g => Relation.TransGen.single ⟨ht, hb t ht i (by rw [← e]; exact g), by rw [← e]; exact g⟩) (fun i g => ?_) (fun k o _ g => ?_) (Or.inr (Nat.zero_le _))
  · rw [b_0] at g; exact absurd g (by decide)
  · rw [b_0] at g; exact absurd g (by decide)
theorem ring_in (hn : n ≤ 12) (hb : BitsOK n tBe) {a : Nat} (ha : a < n) {x3 : Int32} {Q : Int32 → Prop} : ∀ (m k : Nat) (x : Int32), k + m = n → (∀ r, (∀ i, bt r i = true ↔ bt x i = true ∨ (k ≤ i ∧ i < n ∧ bt x3 i = true ∧ TC (foC n tBe) i a)) → Q r) → wp_X5_ringOf_L28 (nI a) tBe (nI n) x3 Q (m + 1) x (nI k) := by
  intro m
  induction m with
  | zero =>
    intro k x hk hQ
    rw [wp_X5_ringOf_L28]
    refine pk_le n k (fun _ => hQ x (fun i => ⟨Or.inl, fun h => ?_⟩)) (fun q => absurd q (by omega))
    rcases h with h | ⟨h1, h2, _⟩
    · exact h
    · omega
  | succ m ih =>
    intro k x hk hQ
    rw [wp_X5_ringOf_L28]
    have skip : ¬ (bt x3 k = true ∧ TC (foC n tBe) k a) → wp_X5_ringOf_b68 (wp_X5_ringOf_L28 (nI a) tBe (nI n) x3 Q (m + 1)) x (nI k) := by
      intro hno y ey
      rw [ey, nI_1]
      refine ih (k + 1) x (by omega) (fun r hr => hQ r (fun i => ?_))
      rw [hr i]
      constructor
      · rintro (h | ⟨h1, h2, h3, h4⟩)
        · exact Or.inl h
        · exact Or.inr ⟨by omega, h2, h3, h4⟩
      · rintro (h | ⟨h1, h2, h3, h4⟩)
        · exact Or.inl h
        · rcases Nat.lt_or_ge k i with z | z
          · exact Or.inr ⟨by omega, h2, h3, h4⟩
          · rw [show i = k by omega] at h3 h4; exact absurd ⟨h3, h4⟩ hno
    refine pk_le n k (fun q => absurd q (by omega)) (fun q => wp_bit (by omega) (fun hb0 => skip (fun g => by rw [hb0] at g; exact absurd g.1 (by decide))) (fun hb1 => wp_allB hn hb (by omega) (fun y hy => wp_bit (by omega) (fun h0 => skip (fun g => ?_)) (fun h1 z ez => ?_))))
    · rw [(hy a).mpr g.2] at h0; exact absurd h0 (by decide)
    · have hc := (hy a).mp h1
      intro w ew
      rw [ew, nI_1]
      refine ih (k + 1) z (by omega) (fun r hr => hQ r (fun i => ?_))
      rw [hr i, ez, b_set (by omega)]
      constructor
      · rintro (h | ⟨h1, h2, h3, h4⟩)
        · rcases (Bool.or_eq_true _ _).mp h with g | g
          · exact Or.inl g
          · rw [of_decide_eq_true g]; exact Or.inr ⟨Nat.le_refl _, by omega, hb1, hc⟩
        · exact Or.inr ⟨by omega, h2, h3, h4⟩
      · rintro (h | ⟨h1, h2, h3, h4⟩)
        · exact Or.inl (by rw [h]; rfl)
        · rcases Nat.lt_or_ge k i with z | z
          · exact Or.inr ⟨by omega, h2, h3, h4⟩
          · exact Or.inl (by rw [show i = k by omega]; simp)
theorem wp_ring (hn : n ≤ 12) (hb : BitsOK n tBe) {a z : Nat} (ha : a < n) (hz : z < n) {Q : Int32 → Prop} (hQ : ∀ y, (∀ i, bt y i = true ↔ (i = a ∨ TC (foC n tBe) i a) ∧ (i = z ∨ TC (foC n tBe) z i)) → Q y) : wp_X5_ringOf (nI n) tBe (nI a) (nI z) Q := by
  refine wp_allB hn hb hz (fun y hy x ex => ?_)
  have hx : ∀ i, bt x i = true ↔ TC (foC n tBe) z i ∨ i = z := fun i => by
    rw [ex, b_set (by omega), Bool.or_eq_true, hy i, decide_eq_true_iff]
  refine wp_bit' (by omega) (fun h0 => ?_) (fun h1 w ew => ⟨n + 1, ring_in hn hb ha n 0 w (by omega) (fun r hr => hQ r (fun i => ?_))⟩)
  · have hno : ¬ (TC (foC n tBe) z a ∨ a = z) := fun g => by rw [(hx a).mpr g] at h0; exact absurd h0 (by decide)
    refine hQ 0 (fun i => ⟨fun g => by rw [b_0] at g; exact absurd g (by decide), fun ⟨g1, g2⟩ => ?_⟩)
    exfalso
    rcases g1 with g1 | g1
    · rcases g2 with g2 | g2
      · exact hno (Or.inr (by omega))
      · rw [g1] at g2; exact hno (Or.inl g2)
    · rcases g2 with g2 | g2
      · rw [g2] at g1; exact hno (Or.inl g1)
      · exact hno (Or.inl (g2.tr g1))
  · have hra := (hx a).mp h1
    rw [hr i, ew, b_one (by omega), decide_eq_true_iff]
    constructor
    · rintro (h | ⟨g1, g2, g3, g4⟩)
      · subst h
        refine ⟨Or.inl rfl, ?_⟩
        rcases hra with q | q
        · exact Or.inr q
        · exact Or.inl q
      · refine ⟨Or.inr g4, ?_⟩
        rcases (hx i).mp g3 with q | q
        · exact Or.inr q
        · exact Or.inl q
    · rintro ⟨g1, g2⟩
      rcases g1 with g1 | g1
      · exact Or.inl g1
      · refine Or.inr ⟨Nat.zero_le _, (g1.lt foC_lt).1, (hx i).mpr ?_, g1⟩
        rcases g2 with q | q
        · exact Or.inr q
        · exact Or.inl q
/-- counting down -/
def mI (j : Nat) : Int32 := nI j + (-1)
theorem mI_s (k : Nat) : mI (k + 1) = nI k := pk_m1 k
theorem mI_0 : mI 0 < 0 := by decide
theorem mI_of (n : Nat) : nI n - 1 = mI n := Int32.sub_eq_add_neg _ _
/-- not come yet, and all that it follows have come -/
def okT (tBe : Nat → Int32) (come : Int32) (t : Nat) : Prop := bt come t = false ∧ ∀ i, i < 32 → bt (tBe t) i = true → bt come i = true
theorem arr_in (hn : n ≤ 12) {come : Int32} {Q : Int32 → Prop} : ∀ (j : Nat) (x : Int32), j ≤ n → (∀ r, ((r = x ∧ ∀ t, t < j → ¬ okT tBe come t) ∨ ∃ t, t < j ∧ r = nI t ∧ okT tBe come t ∧ ∀ u, u < t → ¬ okT tBe come u) → Q r) → wp_X5_arrange_L23 tBe come Q (j + 1) x (mI j) := by
  intro j
  induction j with
  | zero =>
    intro x hj hQ
    rw [wp_X5_arrange_L23]
    exact ⟨fun _ => hQ x (Or.inl ⟨rfl, fun t h => absurd h (by omega)⟩), fun q => absurd mI_0 q⟩
  | succ j ih =>
    intro x hj hQ
    rw [wp_X5_arrange_L23, mI_s]
    have skip : ¬ okT tBe come j → wp_X5_arrange_b55 (wp_X5_arrange_L23 tBe come Q (j + 1)) x (nI j) := by
      intro hno y ey
      have e2 : y = mI j := ey
      rw [e2]
      refine ih x (by omega) (fun r hr => hQ r ?_)
      rcases hr with ⟨h1, h2⟩ | ⟨t, h1, h2, h3, h4⟩
      · refine Or.inl ⟨h1, fun t ht => ?_⟩
        rcases Nat.lt_or_ge t j with z | z
        · exact h2 t z
        · rw [show t = j by omega]; exact hno
      · exact Or.inr ⟨t, by omega, h2, h3, h4⟩
    refine ⟨fun q => absurd q (nI_pos (by omega)), fun _ => wp_bit' (by omega) (fun h0 => ⟨pk_in j 12 (by omega), ?_⟩) (fun h1 => skip (fun g => by rw [g.1] at h1; exact absurd h1 (by decide)))⟩
    rw [cl_nI (by omega)]
    refine ⟨fun hne => skip (fun g => hne (b_sub.mpr g.2)), fun he => ?_⟩
    have hok : okT tBe come j := ⟨h0, b_sub.mp he⟩
    intro y ey
    have e2 : y = mI j := ey
    rw [e2]
    refine ih (nI j) (by omega) (fun r hr => hQ r ?_)
    rcases hr with ⟨h1, h2⟩ | ⟨t, h1, h2, h3, h4⟩
    · exact Or.inr ⟨j, by omega, h1, hok, h2⟩
    · exact Or.inr ⟨t, by omega, h2, h3, h4⟩
/-- a row of ints as places -/
def rowOf (f : Nat → Int32) (k : Nat) : Nat := (f k).toNatClampNeg
def RowOK (n : Nat) (fo : Nat → Nat → Prop) (f : Nat → Int32) : Prop := (∀ k, k < n → f k = nI (rowOf f k)) ∧ IsRow n fo (rowOf f)
theorem rowOf_upd {f : Nat → Int32} {k t : Nat} (ht : t < 2 ^ 31) (i : Nat) : rowOf (upd f k (nI t)) i = if i = k then t else rowOf f i := by
  unfold rowOf upd
  by_cases h : i = k
  · rw [if_pos h, if_pos h, cl_nI ht]
  · rw [if_neg h, if_neg h]
/-- the next entry of a row, set down -/
theorem row_next {fo : Nat → Nat → Prop} {f : Nat → Int32} {k t : Nat} (hn : n ≤ 12) (hk : k < n) (h1 : ∀ i, i < k → f i = nI (rowOf f i)) (h2 : ∀ i, i < k → Nxt n fo (fun o => ∃ j, j < i ∧ rowOf f j = o) (rowOf f i)) (h3 : Nxt n fo (fun o => ∃ j, j < k ∧ rowOf f j = o) t) :
    (∀ i, i < k + 1 → upd f k (nI t) i = nI (rowOf (upd f k (nI t)) i)) ∧ ∀ i, i < k + 1 → Nxt n fo (fun o => ∃ j, j < i ∧ rowOf (upd f k (nI t)) j = o) (rowOf (upd f k (nI t)) i) := by
  have ht := h3.1
  have e : ∀ i, rowOf (upd f k (nI t)) i = if i = k then t else rowOf f i := rowOf_upd (by omega)
  have ep : ∀ i, i ≤ k → (fun o => ∃ j, j < i ∧ rowOf (upd f k (nI t)) j = o) = (fun o => ∃ j, j < i ∧ rowOf f j = o) := by
    intro i hi
    funext o
    apply propext
    constructor
    · rintro ⟨j, hj, q⟩; rw [e j, if_neg (by omega)] at q; exact ⟨j, hj, q⟩
    · rintro ⟨j, hj, q⟩; exact ⟨j, hj, by rw [e j, if_neg (by omega)]; exact q⟩
  refine ⟨fun i hi => ?_, fun i hi => ?_⟩
  · rw [e i]
    by_cases h : i = k
    · rw [if_pos h, h, upd_at]
    · rw [if_neg h, upd_ne h]; exact h1 i (by omega)
  · rw [e i, ep i (by omega)]
    by_cases h : i = k
    · rw [if_pos h, h]; exact h3
    · rw [if_neg h]; exact h2 i (by omega)
theorem okT_nxt (hn : n ≤ 12) (hb : BitsOK n tBe) {come : Int32} {t : Nat} (ht : t < n) : okT tBe come t ↔ bt come t = false ∧ ∀ o, foC n tBe t o → bt come o = true := by
  constructor
  · rintro ⟨h1, h2⟩; exact ⟨h1, fun o h => h2 o (by have := h.2.1; omega) h.2.2⟩
  · rintro ⟨h1, h2⟩; exact ⟨h1, fun o _ h => h2 o ⟨ht, hb t ht o h, h⟩⟩
theorem arr_out (hn : n ≤ 12) (hb : BitsOK n tBe) (hac : Acy (foC n tBe)) {Q : (Nat → Int32) → Prop} (hQ : ∀ f', RowOK n (foC n tBe) f' → Q f') : ∀ (m k : Nat) (come : Int32) (f : Nat → Int32), k + m = n → (∀ i, i < k → f i = nI (rowOf f i)) → (∀ i, i < k → Nxt n (foC n tBe) (fun o => ∃ j, j < i ∧ rowOf f j = o) (rowOf f i)) → (∀ i, bt come i = true ↔ ∃ j, j < k ∧ rowOf f j = i) → ctB (bt come) n = k → wp_X5_arrange_L4 tBe (nI n) Q (m + 1) come (nI k) f := by
  intro m
  induction m with
  | zero =>
    intro k come f hk h1 h2 h3 h4
    rw [wp_X5_arrange_L4]
    refine pk_le n k (fun _ => hQ f ?_) (fun q => absurd q (by omega))
    rw [show k = n by omega] at h1 h2
    exact ⟨h1, h2⟩
  | succ m ih =>
    intro k come f hk h1 h2 h3 h4
    obtain ⟨rk, hr⟩ := hac
    obtain ⟨t0, g1, g2, g3⟩ := nxt_ex foC_lt hr (come := bt come) (by omega)
    have hok0 : okT tBe come t0 := (okT_nxt hn hb g1).mpr ⟨g2, g3⟩
    rw [wp_X5_arrange_L4]
    refine pk_le n k (fun q => absurd q (by omega)) (fun q y ey => ⟨n + 1, ?_⟩)
    rw [mI_of] at ey
    rw [ey]
    refine arr_in hn n 0 (Nat.le_refl _) (fun r hr2 => ⟨pk_in k 12 (by omega), fun f' ef x ex y ey => ?_⟩)
    rcases hr2 with ⟨_, h⟩ | ⟨t, ht, hrt, hok, hmin⟩
    · exact absurd hok0 (h t0 g1)
    rw [cl_nI (by omega), hrt] at ef
    rw [hrt] at ex
    have hx : Nxt n (foC n tBe) (fun o => ∃ j, j < k ∧ rowOf f j = o) t := by
      have ho := (okT_nxt hn hb ht).mp hok
      refine ⟨ht, fun g => by rw [(h3 t).mpr g] at ho; exact absurd ho.1 (by decide), fun o g => (h3 o).mp (ho.2 o g), fun u hu => ?_⟩
      by_cases hc : bt come u = true
      · exact Or.inl ((h3 u).mp hc)
      · have hno := hmin u hu
        rw [okT_nxt hn hb (by omega)] at hno
        refine Or.inr (Classical.byContradiction (fun q2 => hno ⟨by simpa using hc, fun o ho2 => ?_⟩))
        exact Classical.byContradiction (fun q3 => q2 ⟨o, ho2, fun q4 => q3 ((h3 o).mpr q4)⟩)
    obtain ⟨n1, n2⟩ := row_next hn (by omega) h1 h2 hx
    rw [ey, nI_1, ef]
    refine ih (k + 1) x _ (by omega) n1 n2 (fun i => ?_) ?_
    · rw [ex, b_set (by omega), Bool.or_eq_true, h3 i, decide_eq_true_iff]
      constructor
      · rintro (⟨j, hj, q⟩ | q)
        · exact ⟨j, by omega, by rw [rowOf_upd (by omega), if_neg (by omega)]; exact q⟩
        · exact ⟨k, by omega, by rw [rowOf_upd (by omega), if_pos rfl]; exact q.symm⟩
      · rintro ⟨j, hj, q⟩
        rw [rowOf_upd (by omega)] at q
        by_cases hjk : j = k
        · rw [if_pos hjk] at q; exact Or.inr q.symm
        · rw [if_neg hjk] at q; exact Or.inl ⟨j, by omega, q⟩
    · rw [ctB_add (p := bt come) (q := bt x) (v := t) hok.1 (by rw [ex, b_set (by omega)]; simp) (fun i hi => by rw [ex, b_set (by omega)]; simp [hi]) n, h4, if_pos ht]
theorem wp_arr (hn : n ≤ 12) (hb : BitsOK n tBe) (hac : Acy (foC n tBe)) {f : Nat → Int32} {Q : (Nat → Int32) → Prop} (hQ : ∀ f', RowOK n (foC n tBe) f' → Q f') : wp_X5_arrange f (nI n) tBe Q := by
  refine ⟨n + 1, arr_out hn hb hac hQ n 0 0 f (by omega) (fun i h => absurd h (by omega)) (fun i h => absurd h (by omega)) (fun i => ?_) (ctB_none (fun k _ => b_0 k))⟩
  rw [b_0]
  exact ⟨fun h => absurd h (by decide), fun ⟨j, h, _⟩ => absurd h (by omega)⟩
end CGRAPH
