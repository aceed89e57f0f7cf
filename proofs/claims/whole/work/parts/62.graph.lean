/-! who follows whom: rows of followers, rings, the order, early and late -/
theorem ctB_full {p : Nat → Bool} : ∀ {n : Nat}, (∀ k, k < n → p k = true) → ctB p n = n
  | 0, _ => rfl
  | n + 1, h => by rw [ctB, ctB_full (fun k hk => h k (by omega)), h n (by omega)]; rfl
theorem ctB_congr {p q : Nat → Bool} : ∀ {n : Nat}, (∀ k, k < n → p k = q k) → ctB p n = ctB q n
  | 0, _ => rfl
  | n + 1, h => by rw [ctB, ctB, ctB_congr (fun k hk => h k (by omega)), h n (by omega)]
theorem ctB_none {p : Nat → Bool} : ∀ {n : Nat}, (∀ k, k < n → p k = false) → ctB p n = 0
  | 0, _ => rfl
  | n + 1, h => by rw [ctB, ctB_none (fun k hk => h k (by omega)), h n (by omega)]; rfl
theorem ctB_add {p q : Nat → Bool} {v : Nat} (hp : p v = false) (hq : q v = true) (ho : ∀ k, k ≠ v → q k = p k) : ∀ n : Nat, ctB q n = ctB p n + (if v < n then 1 else 0)
  | 0 => by simp [ctB]
  | n + 1 => by
    rw [ctB, ctB, ctB_add hp hq ho n]
    rcases Nat.lt_trichotomy v n with z | z | z
    · have h1 : v < n + 1 := by omega
      rw [ho n (by omega)]
      simp only [z, h1, if_true]; omega
    · subst z
      have h1 : v < v + 1 := by omega
      have h2 : ¬ v < v := by omega
      simp [hp, hq]
    · have h1 : ¬ v < n + 1 := by omega
      have h2 : ¬ v < n := by omega
      rw [ho n (by omega)]
      simp only [h1, h2, if_false]; omega
/-- by a row of others -/
def TC (fo : Nat → Nat → Prop) : Nat → Nat → Prop := Relation.TransGen fo
section GRAPH
variable {n : Nat} {fo : Nat → Nat → Prop}
theorem TC.head {t o u : Nat} (h : fo t o) (h2 : TC fo o u) : TC fo t u := by
  induction h2 with
  | single g => exact Relation.TransGen.tail (Relation.TransGen.single h) g
  | tail _ g ih => exact Relation.TransGen.tail ih g
theorem TC.tr {t o u : Nat} (h : TC fo t o) (h2 : TC fo o u) : TC fo t u := by
  induction h2 with
  | single g => exact Relation.TransGen.tail h g
  | tail _ g ih => exact Relation.TransGen.tail ih g
theorem TC.cases {t u : Nat} (h : TC fo t u) : fo t u ∨ ∃ o, fo t o ∧ TC fo o u := by
  induction h with
  | single g => exact Or.inl g
  | tail h g ih =>
    rcases ih with q | ⟨o, q1, q2⟩
    · exact Or.inr ⟨_, q, Relation.TransGen.single g⟩
    · exact Or.inr ⟨o, q1, Relation.TransGen.tail q2 g⟩
theorem TC.rank {rk : Nat → Nat} (hr : ∀ t o, fo t o → rk o < rk t) {t u : Nat} (h : TC fo t u) : rk u < rk t := by
  induction h with
  | single g => exact hr _ _ g
  | tail _ g ih => have := hr _ _ g; omega
theorem TC.lt (hb : ∀ t o, fo t o → t < n ∧ o < n) {t u : Nat} (h : TC fo t u) : t < n ∧ u < n := by
  induction h with
  | single g => exact hb _ _ g
  | tail _ g ih => exact ⟨ih.1, (hb _ _ g).2⟩
theorem TC.mono {fo' : Nat → Nat → Prop} (hm : ∀ t o, fo t o → fo' t o) {t u : Nat} (h : TC fo t u) : TC fo' t u := by
  induction h with
  | single g => exact Relation.TransGen.single (hm _ _ g)
  | tail _ g ih => exact Relation.TransGen.tail ih (hm _ _ g)
/-- a round of search either has all, or finds one more -/
theorem clos_grow (hb : ∀ t o, fo t o → t < n ∧ o < n) {t : Nat} {P Q : Nat → Bool} (hPQ : ∀ k, k < n → P k = true → Q k = true) (hbase : ∀ o, fo t o → Q o = true) (hstep : ∀ k o, fo k o → P k = true → Q o = true) :
    (∀ o, TC fo t o → Q o = true) ∨ ctB P n < ctB Q n := by
  by_cases hv : ∃ v, v < n ∧ P v = false ∧ Q v = true
  · obtain ⟨v, h1, h2, h3⟩ := hv
    exact Or.inr (ctB_lt hPQ h1 h2 h3)
  · refine Or.inl (fun o h => ?_)
    induction h with
    | single g => exact hbase _ g
    | tail _ g ih =>
      rename_i x y w
      have hx := (hb _ _ g).1
      cases hp : P x with
      | true => exact hstep _ _ g hp
      | false => exact absurd ⟨x, hx, hp, ih⟩ hv
/-- one more pair: who comes to follow itself -/
theorem ring_iff {rk : Nat → Nat} (hr : ∀ t o, fo t o → rk o < rk t) {a z : Nat} {fo' : Nat → Nat → Prop} (hf : ∀ t o, fo' t o ↔ fo t o ∨ (t = a ∧ o = z)) (t : Nat) :
    TC fo' t t ↔ (t = a ∨ TC fo t a) ∧ (t = z ∨ TC fo z t) := by
  have key : ∀ x y, TC fo' x y → TC fo x y ∨ ((x = a ∨ TC fo x a) ∧ (y = z ∨ TC fo z y)) := by
    intro x y h
    induction h with
    | single g =>
      rcases (hf _ _).mp g with q | ⟨q1, q2⟩
      · exact Or.inl (Relation.TransGen.single q)
      · exact Or.inr ⟨Or.inl q1, Or.inl q2⟩
    | tail _ g ih =>
      rcases (hf _ _).mp g with q | ⟨q1, q2⟩
      · rcases ih with i1 | ⟨i1, i2⟩
        · exact Or.inl (Relation.TransGen.tail i1 q)
        · refine Or.inr ⟨i1, Or.inr ?_⟩
          rcases i2 with j | j
          · rw [← j]; exact Relation.TransGen.single q
          · exact Relation.TransGen.tail j q
      · refine Or.inr ⟨?_, Or.inl q2⟩
        rcases ih with i1 | ⟨i1, i2⟩
        · rw [q1] at i1; exact Or.inr i1
        · exact i1
  have up : ∀ x y, TC fo x y → TC fo' x y := fun x y h => h.mono (fun t o g => (hf t o).mpr (Or.inl g))
  have az : fo' a z := (hf a z).mpr (Or.inr ⟨rfl, rfl⟩)
  constructor
  · intro h
    rcases key t t h with q | q
    · have := q.rank hr; omega
    · exact q
  · rintro ⟨h1, h2⟩
    have s1 : TC fo' t z := by
      rcases h1 with q | q
      · rw [q]; exact Relation.TransGen.single az
      · exact Relation.TransGen.tail (up _ _ q) az
    rcases h2 with q | q
    · rw [← q] at s1; exact s1
    · exact s1.tr (up _ _ q)
/-- one more pair without a ring: ranks again -/
theorem rank_after {rk : Nat → Nat} (hr : ∀ t o, fo t o → rk o < rk t) {a z : Nat} {fo' : Nat → Nat → Prop} (hf : ∀ t o, fo' t o ↔ fo t o ∨ (t = a ∧ o = z)) (h0 : ¬ z = a) (h1 : ¬ TC fo z a) : ∃ rk' : Nat → Nat, ∀ t o, fo' t o → rk' o < rk' t := by
  refine ⟨fun t => rk t + @ite Nat (t = a ∨ TC fo t a) (Classical.propDecidable _) (rk z + 1) 0, fun t o h => ?_⟩
  dsimp only
  rcases (hf t o).mp h with q | ⟨q1, q2⟩
  · have := hr t o q
    by_cases c1 : o = a ∨ TC fo o a
    · have c2 : t = a ∨ TC fo t a := by
        rcases c1 with z1 | z1
        · rw [z1] at q; exact Or.inr (Relation.TransGen.single q)
        · exact Or.inr (TC.head q z1)
      rw [if_pos c1, if_pos c2]; omega
    · rw [if_neg c1]; omega
  · rw [q1, q2, if_pos (Or.inl rfl), if_neg (by rintro (x | x); exact h0 x; exact h1 x)]
    omega
/-- pairs that no row of others brings about -/
def Red (fo : Nat → Nat → Prop) (t o : Nat) : Prop := fo t o ∧ ¬ ∃ k, fo t k ∧ TC fo k o
theorem red_pl {rk : Nat → Nat} (hb : ∀ t o, fo t o → t < n ∧ o < n) (hr : ∀ t o, fo t o → rk o < rk t) {e h b f : Nat → Int} (hh : ∀ t, t < n → 0 ≤ h t) : Pl n e h (Red fo) b f ↔ Pl n e h fo b f := by
  constructor
  · intro P
    have key : ∀ m t o, rk t ≤ m → TC fo t o → f o ≤ b t := by
      intro m
      induction m with
      | zero => intro t o hm h; have := h.rank hr; omega
      | succ m ih =>
        intro t o hm h
        have inner : ∀ q k, fo t k → (k = o ∨ TC fo k o) → rk t ≤ rk k + q → f o ≤ b t := by
          intro q
          induction q with
          | zero => intro k hk _ hq; have := hr t k hk; omega
          | succ q iq =>
            intro k hk hko hq
            by_cases hred : ∃ k2, fo t k2 ∧ TC fo k2 k
            · obtain ⟨k2, g1, g2⟩ := hred
              refine iq k2 g1 (Or.inr ?_) (by have := g2.rank hr; omega)
              rcases hko with z | z
              · rw [← z]; exact g2
              · exact g2.tr z
            · have ht := (hb t k hk).1
              have hkn := (hb t k hk).2
              have p1 := (P t ht).2.2.2 k hkn ⟨hk, hred⟩
              rcases hko with z | z
              · rw [← z]; exact p1
              · have p2 := ih k o (by have := hr t k hk; omega) z
                have p3 := (P k hkn).2.1
                have p4 := hh k hkn
                omega
        rcases TC.cases h with g | ⟨k, g1, g2⟩
        · exact inner (rk t) o g (Or.inl rfl) (by omega)
        · exact inner (rk t) k g1 (Or.inr g2) (by omega)
    intro t ht
    obtain ⟨a1, a2, a3, _⟩ := P t ht
    exact ⟨a1, a2, a3, fun o ho q => key (rk t) t o (Nat.le_refl _) (Relation.TransGen.single q)⟩
  · intro P t ht
    obtain ⟨a1, a2, a3, a4⟩ := P t ht
    exact ⟨a1, a2, a3, fun o ho q => a4 o ho q.1⟩
theorem red_opt {rk : Nat → Nat} (hb : ∀ t o, fo t o → t < n ∧ o < n) (hr : ∀ t o, fo t o → rk o < rk t) {e h b f : Nat → Int} {c : Nat → Int → Int} {T : Int} (hh : ∀ t, t < n → 0 ≤ h t) : Opt n e h c (Red fo) T b f ↔ Opt n e h c fo T b f := by
  have k := fun b f => red_pl (e := e) (b := b) (f := f) hb hr hh
  constructor
  · rintro ⟨a1, a2, a3⟩
    exact ⟨(k _ _).mp a1, a2, fun b' f' h1 h2 => a3 b' f' ((k _ _).mpr h1) h2⟩
  · rintro ⟨a1, a2, a3⟩
    exact ⟨(k _ _).mpr a1, a2, fun b' f' h1 h2 => a3 b' f' ((k _ _).mp h1) h2⟩
theorem red_plan {rk : Nat → Nat} (hb : ∀ t o, fo t o → t < n ∧ o < n) (hr : ∀ t o, fo t o → rk o < rk t) {e h b f : Nat → Int} {c : Nat → Int → Int} {T : Int} (hh : ∀ t, t < n → 0 ≤ h t) : ThePlan n e h c (Red fo) T b f ↔ ThePlan n e h c fo T b f := by
  constructor
  · rintro ⟨a1, a2⟩
    exact ⟨(red_opt hb hr hh).mp a1, fun b' f' h1 => a2 b' f' ((red_opt hb hr hh).mpr h1)⟩
  · rintro ⟨a1, a2⟩
    exact ⟨(red_opt hb hr hh).mpr a1, fun b' f' h1 => a2 b' f' ((red_opt hb hr hh).mp h1)⟩
/-- the lowest next, again and again -/
def Nxt (n : Nat) (fo : Nat → Nat → Prop) (come : Nat → Prop) (t : Nat) : Prop := t < n ∧ ¬ come t ∧ (∀ o, fo t o → come o) ∧ ∀ u, u < t → come u ∨ ∃ o, fo u o ∧ ¬ come o
def IsRow (n : Nat) (fo : Nat → Nat → Prop) (row : Nat → Nat) : Prop := ∀ k, k < n → Nxt n fo (fun o => ∃ j, j < k ∧ row j = o) (row k)
theorem Nxt.one {come come' : Nat → Prop} {t u : Nat} (hc : ∀ o, come o ↔ come' o) (h : Nxt n fo come t) (h' : Nxt n fo come' u) : t = u := by
  rcases Nat.lt_trichotomy t u with q | q | q
  · rcases h'.2.2.2 t q with z | ⟨o, z1, z2⟩
    · exact absurd ((hc t).mpr z) h.2.1
    · exact absurd ((hc o).mp (h.2.2.1 o z1)) z2
  · exact q
  · rcases h.2.2.2 u q with z | ⟨o, z1, z2⟩
    · exact absurd ((hc u).mp z) h'.2.1
    · exact absurd ((hc o).mpr (h'.2.2.1 o z1)) z2
theorem IsRow.one {row row' : Nat → Nat} (h : IsRow n fo row) (h' : IsRow n fo row') : ∀ k, k < n → row k = row' k := by
  have key : ∀ m k, k ≤ m → k < n → row k = row' k := by
    intro m
    induction m with
    | zero =>
      intro k hk hn
      refine Nxt.one (fun o => ?_) (h k hn) (h' k hn)
      constructor <;> rintro ⟨j, hj, _⟩ <;> omega
    | succ m ih =>
      intro k hk hn
      refine Nxt.one (fun o => ?_) (h k hn) (h' k hn)
      constructor
      · rintro ⟨j, hj, e⟩; exact ⟨j, hj, by rw [← ih j (by omega) (by omega)]; exact e⟩
      · rintro ⟨j, hj, e⟩; exact ⟨j, hj, by rw [ih j (by omega) (by omega)]; exact e⟩
  exact fun k hk => key k k (Nat.le_refl _) hk
/-- there is a next one while not all have come -/
theorem nxt_ex {rk : Nat → Nat} (hb : ∀ t o, fo t o → t < n ∧ o < n) (hr : ∀ t o, fo t o → rk o < rk t) {come : Nat → Bool} (hc : ctB come n < n) : ∃ t, t < n ∧ come t = false ∧ ∀ o, fo t o → come o = true := by
  obtain ⟨v, hv, hv2⟩ : ∃ v, v < n ∧ come v = false := by
    apply Classical.byContradiction
    intro hn
    have := ctB_full (p := come) (n := n) (fun k hk => by
      cases hq : come k with
      | true => rfl
      | false => exact absurd ⟨k, hk, hq⟩ hn)
    omega
  have key : ∀ m v, rk v ≤ m → v < n → come v = false → ∃ t, t < n ∧ come t = false ∧ ∀ o, fo t o → come o = true := by
    intro m
    induction m with
    | zero =>
      intro v hm hv hc
      exact ⟨v, hv, hc, fun o ho => by have := hr v o ho; omega⟩
    | succ m ih =>
      intro v hm hv hc
      by_cases hh : ∃ o, fo v o ∧ come o = false
      · obtain ⟨o, h1, h2⟩ := hh
        exact ih o (by have := hr v o h1; omega) (hb v o h1).2 h2
      · refine ⟨v, hv, hc, fun o ho => ?_⟩
        cases hq : come o with
        | true => rfl
        | false => exact absurd ⟨o, ho, hq⟩ hh
  exact key (rk v) v (Nat.le_refl _) hv hv2
/-- when tasks begin with set spans -/
def Early (n : Nat) (fo : Nat → Nat → Prop) (sp B : Nat → Int) : Prop := ∀ t, t < n → 0 ≤ B t ∧ (∀ o, fo t o → B o + sp o ≤ B t) ∧ (B t = 0 ∨ ∃ o, fo t o ∧ B t = B o + sp o)
def LenOf (n : Nat) (sp B : Nat → Int) (L : Int) : Prop := 0 ≤ L ∧ (∀ t, t < n → B t + sp t ≤ L) ∧ (L = 0 ∨ ∃ t, t < n ∧ L = B t + sp t)
def Late (n : Nat) (fo : Nat → Nat → Prop) (sp : Nat → Int) (L : Int) (A : Nat → Int) : Prop := ∀ t, t < n → A t + sp t ≤ L ∧ (∀ u, fo u t → A t + sp t ≤ A u) ∧ (A t + sp t = L ∨ ∃ u, fo u t ∧ A t + sp t = A u)
theorem Early.one {rk : Nat → Nat} (hb : ∀ t o, fo t o → t < n ∧ o < n) (hr : ∀ t o, fo t o → rk o < rk t) {sp sp' B B' : Nat → Int} (hs : ∀ t, t < n → sp t = sp' t) (h : Early n fo sp B) (h' : Early n fo sp' B') : ∀ t, t < n → B t = B' t := by
  have key : ∀ m t, rk t ≤ m → t < n → B t = B' t := by
    intro m
    induction m with
    | zero =>
      intro t hm ht
      obtain ⟨a1, a2, a3⟩ := h t ht
      obtain ⟨c1, c2, c3⟩ := h' t ht
      have n1 : ∀ o, ¬ fo t o := fun o q => by have := hr t o q; omega
      rcases a3 with q | ⟨o, q, _⟩
      · rcases c3 with z | ⟨o, z, _⟩
        · omega
        · exact absurd z (n1 o)
      · exact absurd q (n1 o)
    | succ m ih =>
      intro t hm ht
      obtain ⟨a1, a2, a3⟩ := h t ht
      obtain ⟨c1, c2, c3⟩ := h' t ht
      have e : ∀ o, fo t o → B o + sp o = B' o + sp' o := fun o q => by
        rw [ih o (by have := hr t o q; omega) (hb t o q).2, hs o (hb t o q).2]
      have l1 : B t ≤ B' t := by
        rcases a3 with q | ⟨o, q, q2⟩
        · omega
        · have := c2 o q; have := e o q; omega
      have l2 : B' t ≤ B t := by
        rcases c3 with q | ⟨o, q, q2⟩
        · omega
        · have := a2 o q; have := e o q; omega
      omega
  exact fun t ht => key (rk t) t (Nat.le_refl _) ht
theorem LenOf.one {sp sp' B B' : Nat → Int} {L L' : Int} (hs : ∀ t, t < n → sp t = sp' t) (hB : ∀ t, t < n → B t = B' t) (h : LenOf n sp B L) (h' : LenOf n sp' B' L') : L = L' := by
  obtain ⟨a1, a2, a3⟩ := h
  obtain ⟨c1, c2, c3⟩ := h'
  have l1 : L ≤ L' := by
    rcases a3 with q | ⟨t, q, q2⟩
    · omega
    · have := c2 t q; rw [hs t q, hB t q] at q2; omega
  have l2 : L' ≤ L := by
    rcases c3 with q | ⟨t, q, q2⟩
    · omega
    · have := a2 t q; rw [hs t q, hB t q] at this; omega
  omega
theorem rank_top (rk : Nat → Nat) : ∀ n : Nat, ∃ M, ∀ t, t < n → rk t < M
  | 0 => ⟨0, fun t h => absurd h (by omega)⟩
  | n + 1 => by
    obtain ⟨M, h⟩ := rank_top rk n
    refine ⟨M + rk n + 1, fun t ht => ?_⟩
    rcases Nat.lt_or_ge t n with q | q
    · have := h t q; omega
    · rw [show t = n by omega]; omega
theorem Late.one {rk : Nat → Nat} (hb : ∀ t o, fo t o → t < n ∧ o < n) (hr : ∀ t o, fo t o → rk o < rk t) {sp sp' A A' : Nat → Int} {L : Int} (hs : ∀ t, t < n → sp t = sp' t) (h : Late n fo sp L A) (h' : Late n fo sp' L A') : ∀ t, t < n → A t = A' t := by
  obtain ⟨M, hM⟩ := rank_top rk n
  have key : ∀ m t, M ≤ rk t + m → t < n → A t = A' t := by
    intro m
    induction m with
    | zero => intro t hm ht; have := hM t ht; omega
    | succ m ih =>
      intro t hm ht
      obtain ⟨a1, a2, a3⟩ := h t ht
      obtain ⟨c1, c2, c3⟩ := h' t ht
      have e : ∀ u, fo u t → A u = A' u := fun u q => ih u (by have := hr u t q; omega) (hb u t q).1
      have es := hs t ht
      have l1 : A t ≤ A' t := by
        rcases c3 with q | ⟨o, q, q2⟩
        · omega
        · have := a2 o q; have := e o q; omega
      have l2 : A' t ≤ A t := by
        rcases a3 with q | ⟨o, q, q2⟩
        · omega
        · have := c2 o q; have := e o q; omega
      omega
  exact fun t ht => key M t (by omega) ht
/-- early moments are the least of all plans with at least these spans -/
theorem Early.least {rk : Nat → Nat} (hb : ∀ t o, fo t o → t < n ∧ o < n) (hr : ∀ t o, fo t o → rk o < rk t) {sp B b f : Nat → Int} (h : Early n fo sp B) (h0 : ∀ t, t < n → 0 ≤ b t ∧ b t + sp t ≤ f t ∧ ∀ o, fo t o → f o ≤ b t) : ∀ t, t < n → B t ≤ b t := by
  have key : ∀ m t, rk t ≤ m → t < n → B t ≤ b t := by
    intro m
    induction m with
    | zero =>
      intro t hm ht
      rcases (h t ht).2.2 with q | ⟨o, q, _⟩
      · have := (h0 t ht).1; omega
      · have := hr t o q; omega
    | succ m ih =>
      intro t hm ht
      rcases (h t ht).2.2 with q | ⟨o, q, q2⟩
      · have := (h0 t ht).1; omega
      · have := ih o (by have := hr t o q; omega) (hb t o q).2
        have := (h0 o (hb t o q).2).2.1
        have := (h0 t ht).2.2 o q
        omega
  exact fun t ht => key (rk t) t (Nat.le_refl _) ht
end GRAPH
