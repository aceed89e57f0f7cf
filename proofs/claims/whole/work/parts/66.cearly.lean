/-! rows cover all tasks; early and late along them; the class's beginEarly and beginBoth -/
section ROWS
variable {n : Nat} {fo : Nat → Nat → Prop} {row : Nat → Nat}
theorem IsRow.lt (h : IsRow n fo row) {k : Nat} (hk : k < n) : row k < n := (h k hk).1
theorem IsRow.inj (h : IsRow n fo row) {i j : Nat} (hi : i < n) (hj : j < n) (e : row i = row j) : i = j := by
  rcases Nat.lt_trichotomy i j with q | q | q
  · exact absurd ⟨i, q, e⟩ (h j hj).2.1
  · exact q
  · exact absurd ⟨j, q, e.symm⟩ (h i hi).2.1
theorem IsRow.pred (h : IsRow n fo row) {k o : Nat} (hk : k < n) (hf : fo (row k) o) : ∃ j, j < k ∧ row j = o := (h k hk).2.2.1 o hf
theorem IsRow.onto (h : IsRow n fo row) {t : Nat} (ht : t < n) : ∃ k, k < n ∧ row k = t := by
  have key : ∀ k, k ≤ n → k ≤ ctB (fun i => decide (∃ j, j < k ∧ row j = i)) n := by
    intro k
    induction k with
    | zero => intro _; exact Nat.zero_le _
    | succ k ih =>
      intro hk
      have h1 := ih (by omega)
      have h2 := ctB_lt (n := n) (p := fun i => decide (∃ j, j < k ∧ row j = i)) (q := fun i => decide (∃ j, j < k + 1 ∧ row j = i)) (fun i _ hp => by
        have ⟨j, hj, e⟩ := of_decide_eq_true hp
        exact decide_eq_true ⟨j, by omega, e⟩) (v := row k) (h.lt (by omega)) (by
        apply decide_eq_false
        rintro ⟨j, hj, e⟩
        have := h.inj (by omega) (by omega) e
        omega) (decide_eq_true ⟨k, by omega, rfl⟩)
      omega
  have := ctB_all (key n (Nat.le_refl _)) t ht
  exact of_decide_eq_true this
theorem IsRow.succ (h : IsRow n fo row) (hb : ∀ t o, fo t o → t < n ∧ o < n) {i u : Nat} (hi : i < n) (hf : fo u (row i)) : ∃ j, i < j ∧ j < n ∧ row j = u := by
  obtain ⟨j, hj, e⟩ := h.onto (hb _ _ hf).1
  rw [← e] at hf
  obtain ⟨i', h1, h2⟩ := h.pred hj hf
  have := h.inj (by omega) hi h2
  exact ⟨j, by omega, hj, e⟩
/-- early moments of the first k of a row -/
def EInv (fo : Nat → Nat → Prop) (row : Nat → Nat) (S E : Nat → Int) (k : Nat) : Prop := ∀ i, i < k → 0 ≤ E (row i) ∧ E (row i) + S (row i) ≤ 60 * (i + 1) ∧ (∀ o, fo (row i) o → E o + S o ≤ E (row i)) ∧ (E (row i) = 0 ∨ ∃ o, fo (row i) o ∧ E (row i) = E o + S o)
def LInv (row : Nat → Nat) (S E : Nat → Int) (k : Nat) (L : Int) : Prop := 0 ≤ L ∧ (∀ i, i < k → E (row i) + S (row i) ≤ L) ∧ (L = 0 ∨ ∃ i, i < k ∧ L = E (row i) + S (row i)) ∧ L ≤ 60 * k
variable {S E E' : Nat → Int} {k : Nat} {L : Int}
theorem EInv.next (hr : IsRow n fo row) (hS : ∀ t, t < n → 0 ≤ S t ∧ S t ≤ 60) (hk : k < n) (H : EInv fo row S E k) (hE : ∀ o, o ≠ row k → E' o = E o) (h1 : 0 ≤ E' (row k)) (h2 : E' (row k) ≤ 60 * k) (h3 : ∀ o, fo (row k) o → E o + S o ≤ E' (row k)) (h4 : E' (row k) = 0 ∨ ∃ o, fo (row k) o ∧ E' (row k) = E o + S o) : EInv fo row S E' (k + 1) := by
  have hne : ∀ j, j < k → row j ≠ row k := fun j hj e => by have := hr.inj (by omega) hk e; omega
  have hpo : ∀ i o, i ≤ k → fo (row i) o → E' o = E o := fun i o hi hf => by
    obtain ⟨j, hj, e⟩ := hr.pred (by omega) hf
    rw [← e]
    exact hE _ (hne j (by omega))
  intro i hi
  rcases Nat.lt_or_ge i k with q | q
  · obtain ⟨a1, a2, a3, a4⟩ := H i q
    rw [hE _ (hne i q)]
    refine ⟨a1, a2, fun o ho => by rw [hpo i o (by omega) ho]; exact a3 o ho, ?_⟩
    rcases a4 with z | ⟨o, z1, z2⟩
    · exact Or.inl z
    · exact Or.inr ⟨o, z1, by rw [hpo i o (by omega) z1]; exact z2⟩
  · rw [show i = k by omega]
    have := hS (row k) (hr.lt hk)
    refine ⟨h1, by omega, fun o ho => by rw [hpo k o (by omega) ho]; exact h3 o ho, ?_⟩
    rcases h4 with z | ⟨o, z1, z2⟩
    · exact Or.inl z
    · exact Or.inr ⟨o, z1, by rw [hpo k o (by omega) z1]; exact z2⟩
theorem LInv.next (hr : IsRow n fo row) (hS : ∀ t, t < n → 0 ≤ S t ∧ S t ≤ 60) (hk : k < n) (H : LInv row S E k L) (hE : ∀ o, o ≠ row k → E' o = E o) (h1 : 0 ≤ E' (row k)) (h2 : E' (row k) ≤ 60 * k) {L' : Int} (hL : L' = max L (E' (row k) + S (row k))) : LInv row S E' (k + 1) L' := by
  obtain ⟨a1, a2, a3, a4⟩ := H
  have hne : ∀ j, j < k → row j ≠ row k := fun j hj e => by have := hr.inj (by omega) hk e; omega
  have hs := hS (row k) (hr.lt hk)
  refine ⟨by omega, fun i hi => ?_, ?_, by omega⟩
  · rcases Nat.lt_or_ge i k with q | q
    · rw [hE _ (hne i q)]; have := a2 i q; omega
    · rw [show i = k by omega]; omega
  · rcases Int.le_total L (E' (row k) + S (row k)) with q | q
    · exact Or.inr ⟨k, by omega, by clear a3; omega⟩
    · rcases a3 with z | ⟨i, z1, z2⟩
      · exact Or.inl (by omega)
      · exact Or.inr ⟨i, by omega, by rw [hE _ (hne i z1)]; omega⟩
theorem EInv.fin (hr : IsRow n fo row) (H : EInv fo row S E n) : Early n fo S E ∧ ∀ t, t < n → E t + S t ≤ 60 * n := by
  refine ⟨fun t ht => ?_, fun t ht => ?_⟩
  · obtain ⟨k, hk, e⟩ := hr.onto ht
    rw [← e]
    obtain ⟨a1, a2, a3, a4⟩ := H k hk
    exact ⟨a1, a3, a4⟩
  · obtain ⟨k, hk, e⟩ := hr.onto ht
    rw [← e]
    have := (H k hk).2.1
    omega
theorem LInv.fin (hr : IsRow n fo row) (H : LInv row S E n L) : LenOf n S E L ∧ L ≤ 60 * n := by
  obtain ⟨a1, a2, a3, a4⟩ := H
  refine ⟨⟨a1, fun t ht => ?_, ?_⟩, a4⟩
  · obtain ⟨k, hk, e⟩ := hr.onto ht
    rw [← e]; exact a2 k hk
  · rcases a3 with z | ⟨i, z1, z2⟩
    · exact Or.inl z
    · exact Or.inr ⟨row i, hr.lt z1, z2⟩
/-- late moments of the places from k on -/
def AInv (n : Nat) (fo : Nat → Nat → Prop) (row : Nat → Nat) (S : Nat → Int) (L : Int) (A : Nat → Int) (k : Nat) : Prop := ∀ i, k ≤ i → i < n → A (row i) + S (row i) ≤ L ∧ (∀ u, fo u (row i) → A (row i) + S (row i) ≤ A u) ∧ (A (row i) + S (row i) = L ∨ ∃ u, fo u (row i) ∧ A (row i) + S (row i) = A u) ∧ L - 60 * (n - i) ≤ A (row i)
theorem AInv.next {A A' : Nat → Int} (hr : IsRow n fo row) (hb : ∀ t o, fo t o → t < n ∧ o < n) (hS : ∀ t, t < n → 0 ≤ S t ∧ S t ≤ 60) (hk : k < n) (H : AInv n fo row S L A (k + 1)) (hA : ∀ o, o ≠ row k → A' o = A o) (h1 : A' (row k) + S (row k) ≤ L) (h3 : ∀ u, fo u (row k) → A' (row k) + S (row k) ≤ A u) (h4 : A' (row k) + S (row k) = L ∨ ∃ u, fo u (row k) ∧ A' (row k) + S (row k) = A u) (h5 : L - 60 * (n - (k + 1)) ≤ A' (row k) + S (row k)) : AInv n fo row S L A' k := by
  have hne : ∀ j, k < j → j < n → row j ≠ row k := fun j hj hj2 e => by have := hr.inj hj2 hk e; omega
  have hpo : ∀ i u, k ≤ i → i < n → fo u (row i) → A' u = A u := fun i u hi hi2 hf => by
    obtain ⟨j, hj, hj2, e⟩ := hr.succ hb hi2 hf
    rw [← e]
    exact hA _ (hne j (by omega) hj2)
  intro i hi hi2
  rcases Nat.lt_or_ge k i with q | q
  · obtain ⟨a1, a2, a3, a4⟩ := H i (by omega) hi2
    rw [hA _ (hne i q hi2)]
    refine ⟨a1, fun u hu => by rw [hpo i u hi hi2 hu]; exact a2 u hu, ?_, a4⟩
    rcases a3 with z | ⟨o, z1, z2⟩
    · exact Or.inl z
    · exact Or.inr ⟨o, z1, by rw [hpo i o hi hi2 z1]; exact z2⟩
  · have e : i = k := by omega
    subst e
    have := hS (row i) (hr.lt hk)
    refine ⟨h1, fun u hu => by rw [hpo i u hi hi2 hu]; exact h3 u hu, ?_, by omega⟩
    rcases h4 with z | ⟨o, z1, z2⟩
    · exact Or.inl z
    · exact Or.inr ⟨o, z1, by rw [hpo i o hi hi2 z1]; exact z2⟩
theorem AInv.fin {A : Nat → Int} (hr : IsRow n fo row) (H : AInv n fo row S L A 0) : Late n fo S L A := by
  intro t ht
  obtain ⟨k, hk, e⟩ := hr.onto ht
  rw [← e]
  obtain ⟨a1, a2, a3, a4⟩ := H k (Nat.zero_le _) hk
  exact ⟨a1, a2, a3⟩
end ROWS
section CEARLY
variable {n : Nat} {tBe f2 iRo : Nat → Int32}
/-- spans of a row of ints -/
def SpOK (n : Nat) (f2 : Nat → Int32) : Prop := ∀ t, t < n → 0 ≤ (f2 t).toInt ∧ (f2 t).toInt ≤ 60
theorem be_in (hn : n ≤ 12) (hro : RowOK n (foC n tBe) iRo) {iEa : Nat → Int32} {k t : Nat} (hk : k < n) (ht : t < n) (hE : ∀ i, i < k → 0 ≤ (iEa (rowOf iRo i)).toInt ∧ 0 ≤ (f2 (rowOf iRo i)).toInt ∧ (iEa (rowOf iRo i)).toInt + (f2 (rowOf iRo i)).toInt ≤ 60 * k) {Q : Int32 → Prop} : ∀ (m j : Nat) (x : Int32), j + m = k → 0 ≤ x.toInt → x.toInt ≤ 60 * k → (∀ r : Int32, x.toInt ≤ r.toInt → r.toInt ≤ 60 * k → (∀ i, j ≤ i → i < k → foC n tBe t (rowOf iRo i) → (iEa (rowOf iRo i)).toInt + (f2 (rowOf iRo i)).toInt ≤ r.toInt) → (r.toInt = x.toInt ∨ ∃ i, j ≤ i ∧ i < k ∧ foC n tBe t (rowOf iRo i) ∧ r.toInt = (iEa (rowOf iRo i)).toInt + (f2 (rowOf iRo i)).toInt) → Q r) → wp_X6_beginEarly_L37 f2 tBe iRo (nI k) iEa (nI t) Q (m + 1) x (nI j) := by
  intro m
  induction m with
  | zero =>
    intro j x hj h0 h1 hQ
    rw [wp_X6_beginEarly_L37]
    exact pk_le k j (fun _ => hQ x (by omega) h1 (fun i g1 g2 => by omega) (Or.inl rfl)) (fun q => absurd q (by omega))
  | succ m ih =>
    intro j x hj h0 h1 hQ
    rw [wp_X6_beginEarly_L37]
    refine pk_le k j (fun q => absurd q (by omega)) (fun q => ⟨pk_in j 12 (by omega), fun y ey => ⟨pk_in t 12 (by omega), ?_⟩⟩)
    rw [cl_nI (by omega), hro.1 j (by omega)] at ey
    have hl := hro.2.lt (k := j) (by omega)
    have hEj := hE j (by omega)
    rw [ey, cl_nI (by omega)]
    refine wp_bit (by omega) (fun hb => ?_) (fun hb => ⟨pk_in (rowOf iRo j) 12 (by omega), pk_in (rowOf iRo j) 12 (by omega), fun z ez => ?_⟩)
    · intro z ez
      rw [ez, nI_1]
      refine ih (j + 1) x (by omega) h0 h1 (fun r g1 g2 g3 g4 => hQ r g1 g2 (fun i k1 k2 k3 => ?_) ?_)
      · rcases Nat.lt_or_ge j i with z | z
        · exact g3 i (by omega) k2 k3
        · rw [show i = j by omega] at k3; rw [k3.2.2] at hb; exact absurd hb (by decide)
      · rcases g4 with z | ⟨i, z1, z2, z3⟩
        · exact Or.inl z
        · exact Or.inr ⟨i, by omega, z2, z3⟩
    · rw [cl_nI (by omega)] at ez
      have hadd := i_add (a := iEa (rowOf iRo j)) (b := f2 (rowOf iRo j)) (by omega) (by omega)
      have ezi : z.toInt = max x.toInt ((iEa (rowOf iRo j)).toInt + (f2 (rowOf iRo j)).toInt) := by rw [ez, ifs_max, hadd]
      intro w ew
      rw [ew, nI_1]
      refine ih (j + 1) z (by omega) (by omega) (by omega) (fun r g1 g2 g3 g4 => hQ r (by omega) g2 (fun i k1 k2 k3 => ?_) ?_)
      · rcases Nat.lt_or_ge j i with z | z
        · exact g3 i (by omega) k2 k3
        · rw [show i = j by omega]; omega
      · rcases g4 with z | ⟨i, z1, z2, z3⟩
        · rcases Int.le_total x.toInt ((iEa (rowOf iRo j)).toInt + (f2 (rowOf iRo j)).toInt) with y | y
          · exact Or.inr ⟨j, Nat.le_refl _, by omega, ⟨ht, hl, hb⟩, by omega⟩
          · exact Or.inl (by omega)
        · exact Or.inr ⟨i, by omega, z2, z3⟩
theorem be_out (hn : n ≤ 12) (hro : RowOK n (foC n tBe) iRo) (hS : SpOK n f2) {Q : Int32 → (Nat → Int32) → Prop} (hQ : ∀ (r : Int32) (iEa : Nat → Int32), EInv (foC n tBe) (rowOf iRo) (iT f2) (iT iEa) n → LInv (rowOf iRo) (iT f2) (iT iEa) n r.toInt → Q r iEa) : ∀ (m k : Nat) (x : Int32) (iEa : Nat → Int32), k + m = n → EInv (foC n tBe) (rowOf iRo) (iT f2) (iT iEa) k → LInv (rowOf iRo) (iT f2) (iT iEa) k x.toInt → wp_X6_beginEarly_L13 f2 tBe (nI n) iRo Q (m + 1) x (nI k) iEa := by
  intro m
  induction m with
  | zero =>
    intro k x iEa hk h1 h2
    rw [wp_X6_beginEarly_L13]
    rw [show k = n by omega] at h1 h2 ⊢
    exact pk_le n n (fun _ => hQ x iEa h1 h2) (fun q => absurd q (by omega))
  | succ m ih =>
    intro k x iEa hk h1 h2
    rw [wp_X6_beginEarly_L13]
    refine pk_le n k (fun q => absurd q (by omega)) (fun q => ⟨pk_in k 12 (by omega), fun y ey => ⟨k + 1, ?_⟩⟩)
    rw [cl_nI (by omega), hro.1 k (by omega)] at ey
    have hl := hro.2.lt (k := k) (by omega)
    rw [ey]
    refine be_in hn hro (k := k) (t := rowOf iRo k) (by omega) hl (fun i hi => ?_) k 0 0 (by omega) (by decide) (by show (0 : Int) ≤ _; omega) (fun r g1 g2 g3 g4 => ⟨pk_in (rowOf iRo k) 12 (by omega), fun iE' eE => ⟨pk_in (rowOf iRo k) 12 (by omega), fun z ez w ew => ?_⟩⟩)
    · have a := h1 i hi
      have b := hS (rowOf iRo i) (hro.2.lt (by omega))
      have c : (iEa (rowOf iRo i)).toInt + (f2 (rowOf iRo i)).toInt ≤ 60 * (i + 1) := a.2.1
      exact ⟨a.1, b.1, by omega⟩
    · rw [cl_nI (by omega)] at eE ez
      have g1' : 0 ≤ r.toInt := g1
      have hs := hS (rowOf iRo k) hl
      have e1 : ∀ o, o ≠ rowOf iRo k → iT iE' o = iT iEa o := fun o ho => by unfold iT; rw [eE, upd_ne ho]
      have e2 : iT iE' (rowOf iRo k) = r.toInt := by unfold iT; rw [eE, upd_at]
      have hadd := i_add (a := r) (b := f2 (rowOf iRo k)) (by omega) (by omega)
      rw [ew, nI_1]
      refine ih (k + 1) z iE' (by omega) ?_ ?_
      · refine EInv.next hro.2 hS (by omega) h1 e1 (by rw [e2]; exact g1') (by rw [e2]; exact g2) (fun o ho => ?_) ?_
        · obtain ⟨j, hj, e⟩ := hro.2.pred (by omega) ho
          rw [e2, ← e]
          exact g3 j (Nat.zero_le _) hj (by rw [e]; exact ho)
        · rcases g4 with z | ⟨i, _, z2, z3, z4⟩
          · exact Or.inl (by rw [e2]; exact z)
          · exact Or.inr ⟨rowOf iRo i, z3, by rw [e2]; exact z4⟩
      · refine LInv.next hro.2 hS (by omega) h2 e1 (by rw [e2]; exact g1') (by rw [e2]; exact g2) ?_
        rw [ez, ifs_max, hadd, e2]
        try rfl
theorem wp_bE (hn : n ≤ 12) (hb : BitsOK n tBe) (hac : Acy (foC n tBe)) (hS : SpOK n f2) {iRo iEa : Nat → Int32} {Q : Int32 → (Nat → Int32) → (Nat → Int32) → Prop} (hQ : ∀ (r : Int32) (iRo iEa : Nat → Int32), RowOK n (foC n tBe) iRo → Early n (foC n tBe) (iT f2) (iT iEa) → LenOf n (iT f2) (iT iEa) r.toInt → (∀ t, t < n → (iEa t).toInt + (f2 t).toInt ≤ 720) → r.toInt ≤ 720 → Q r iRo iEa) : wp_X6_beginEarly f2 (nI n) tBe iRo iEa Q := by
  refine wp_arr hn hb hac (fun f' hro => ⟨n + 1, be_out hn hro hS (fun r iE h1 h2 => ?_) n 0 0 iEa (by omega) (fun i h => absurd h (by omega)) ⟨by decide, fun i h => absurd h (by omega), Or.inl rfl, by decide⟩⟩)
  obtain ⟨a1, a2⟩ := h1.fin hro.2
  obtain ⟨b1, b2⟩ := h2.fin hro.2
  exact hQ r f' iE hro a1 b1 (fun t ht => by have h := a2 t ht; have h2 : (iE t).toInt + (f2 t).toInt ≤ 60 * n := h; omega) (by omega)
theorem bb_in (hn : n ≤ 12) (hro : RowOK n (foC n tBe) iRo) {iLa : Nat → Int32} {k t : Nat} (ht : t < n) (hk : k < n) {Q : Int32 → Prop} : ∀ (m j : Nat) (x : Int32), k < j → j + m = n → (∀ r : Int32, r.toInt ≤ x.toInt → (∀ i, j ≤ i → i < n → foC n tBe (rowOf iRo i) t → r.toInt ≤ (iLa (rowOf iRo i)).toInt) → (r.toInt = x.toInt ∨ ∃ i, j ≤ i ∧ i < n ∧ foC n tBe (rowOf iRo i) t ∧ r.toInt = (iLa (rowOf iRo i)).toInt) → Q r) → wp_X6_beginBoth_L38 tBe (nI n) iRo iLa (nI t) Q (m + 1) x (nI j) := by
  intro m
  induction m with
  | zero =>
    intro j x hkj hj hQ
    rw [wp_X6_beginBoth_L38]
    exact pk_le n j (fun _ => hQ x (by omega) (fun i g1 g2 => by omega) (Or.inl rfl)) (fun q => absurd q (by omega))
  | succ m ih =>
    intro j x hkj hj hQ
    rw [wp_X6_beginBoth_L38]
    refine pk_le n j (fun q => absurd q (by omega)) (fun q => ⟨pk_in j 12 (by omega), fun y ey => ?_⟩)
    rw [cl_nI (by omega), hro.1 j (by omega)] at ey
    have hl := hro.2.lt (k := j) (by omega)
    rw [ey, cl_nI (by omega)]
    refine ⟨pk_in (rowOf iRo j) 12 (by omega), wp_bit (by omega) (fun hb => ?_) (fun hb => ⟨pk_in (rowOf iRo j) 12 (by omega), fun z ez => ?_⟩)⟩
    · intro z ez
      rw [ez, nI_1]
      refine ih (j + 1) x (by omega) (by omega) (fun r g1 g3 g4 => hQ r g1 (fun i k1 k2 k3 => ?_) ?_)
      · rcases Nat.lt_or_ge j i with z | z
        · exact g3 i (by omega) k2 k3
        · rw [show i = j by omega] at k3; rw [k3.2.2] at hb; exact absurd hb (by decide)
      · rcases g4 with z | ⟨i, z1, z2, z3⟩
        · exact Or.inl z
        · exact Or.inr ⟨i, by omega, z2, z3⟩
    · have ezi : z.toInt = min (iLa (rowOf iRo j)).toInt x.toInt := by rw [ez, ifs_min]
      intro w ew
      rw [ew, nI_1]
      refine ih (j + 1) z (by omega) (by omega) (fun r g1 g3 g4 => hQ r (by omega) (fun i k1 k2 k3 => ?_) ?_)
      · rcases Nat.lt_or_ge j i with z | z
        · exact g3 i (by omega) k2 k3
        · rw [show i = j by omega]; omega
      · rcases g4 with z | ⟨i, z1, z2, z3⟩
        · rcases Int.le_total x.toInt (iLa (rowOf iRo j)).toInt with y | y
          · exact Or.inl (by omega)
          · exact Or.inr ⟨j, Nat.le_refl _, by omega, ⟨hl, ht, hb⟩, by omega⟩
        · exact Or.inr ⟨i, by omega, z2, z3⟩
theorem bb_out (hn : n ≤ 12) (hro : RowOK n (foC n tBe) iRo) (hS : SpOK n f2) {L : Int32} (hL : 0 ≤ L.toInt ∧ L.toInt ≤ 720) {Q : (Nat → Int32) → Prop} (hQ : ∀ (iLa : Nat → Int32), AInv n (foC n tBe) (rowOf iRo) (iT f2) L.toInt (iT iLa) 0 → Q iLa) : ∀ (k : Nat) (iLa : Nat → Int32), k ≤ n → AInv n (foC n tBe) (rowOf iRo) (iT f2) L.toInt (iT iLa) k → wp_X6_beginBoth_L15 f2 tBe (nI n) L iRo Q (k + 1) (mI k) iLa := by
  intro k
  induction k with
  | zero =>
    intro iLa hk h
    rw [wp_X6_beginBoth_L15]
    exact ⟨fun _ => hQ iLa h, fun q => absurd mI_0 q⟩
  | succ k ih =>
    intro iLa hk h
    rw [wp_X6_beginBoth_L15, mI_s]
    refine ⟨fun q => absurd q (nI_pos (by omega)), fun _ => ⟨pk_in k 12 (by omega), fun y ey z ez => ⟨n - (k + 1) + 1, ?_⟩⟩⟩
    rw [cl_nI (by omega), hro.1 k (by omega)] at ey
    have hl := hro.2.lt (k := k) (by omega)
    rw [nI_1] at ez
    rw [ey, ez]
    refine bb_in (k := k) hn hro hl (by omega) (n - (k + 1)) (k + 1) L (by omega) (by omega) (fun r g1 g3 g4 => ⟨pk_in (rowOf iRo k) 12 (by omega), pk_in (rowOf iRo k) 12 (by omega), fun iL' eL w ew => ?_⟩)
    have e3 : w = mI k := ew
    rw [cl_nI (by omega)] at eL
    have hs := hS (rowOf iRo k) hl
    have hlow : L.toInt - 60 * (n - (k + 1)) ≤ r.toInt := by
      rcases g4 with z | ⟨i, z1, z2, z3, z4⟩
      · omega
      · have := (h i z1 z2).2.2.2
        have h9 : L.toInt - 60 * (n - i) ≤ (iLa (rowOf iRo i)).toInt := this
        omega
    have hsub := i_sub (a := r) (b := f2 (rowOf iRo k)) (by omega) (by omega)
    have e1 : ∀ o, o ≠ rowOf iRo k → iT iL' o = iT iLa o := fun o ho => by unfold iT; rw [eL, upd_ne ho]
    have e2 : iT iL' (rowOf iRo k) + iT f2 (rowOf iRo k) = r.toInt := by unfold iT; rw [eL, upd_at, hsub]; omega
    rw [e3]
    refine ih iL' (by omega) (AInv.next hro.2 foC_lt hS (by omega) h e1 (by rw [e2]; exact g1) (fun u hu => ?_) ?_ (by rw [e2]; exact hlow))
    · obtain ⟨j, hj, hj2, e⟩ := hro.2.succ foC_lt (by omega) hu
      rw [e2, ← e]
      exact g3 j (by omega) hj2 (by rw [e]; exact hu)
    · rcases g4 with z | ⟨i, _, z2, z3, z4⟩
      · exact Or.inl (by rw [e2]; exact z)
      · exact Or.inr ⟨rowOf iRo i, z3, by rw [e2]; exact z4⟩
theorem wp_bB (hn : n ≤ 12) (hb : BitsOK n tBe) (hac : Acy (foC n tBe)) (hS : SpOK n f2) {iRo iEa iLa : Nat → Int32} {Q : (Nat → Int32) → (Nat → Int32) → (Nat → Int32) → Prop} (hQ : ∀ (L : Int) (iRo iEa iLa : Nat → Int32), Early n (foC n tBe) (iT f2) (iT iEa) → LenOf n (iT f2) (iT iEa) L → Late n (foC n tBe) (iT f2) L (iT iLa) → Q iRo iEa iLa) : wp_X6_beginBoth f2 (nI n) tBe iRo iEa iLa Q := by
  refine wp_bE hn hb hac hS (fun r ro ea h1 h2 h3 h4 h5 x ex => ⟨n + 1, ?_⟩)
  rw [mI_of] at ex
  rw [ex]
  exact bb_out hn h1 hS ⟨h3.1, h5⟩ (fun la h => hQ r.toInt ro ea la h2 h3 (h.fin h1.2)) n iLa (Nat.le_refl _) (fun i g1 g2 => by omega)
end CEARLY
