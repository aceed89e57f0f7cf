/-! shortest ways: how often one can push along them -/
/-- a way of m steps out of the start -/
def Way (N : Nat) (A : Nat → Nat → Prop) (S0 : Nat → Prop) (p : Nat → Nat) (m : Nat) : Prop := S0 (p 0) ∧ (∀ i, i ≤ m → p i < N) ∧ ∀ i, i < m → A (p i) (p (i + 1))
/-- levels: no step goes up by more than one -/
def Lev (N : Nat) (A : Nat → Nat → Prop) (S0 : Nat → Prop) (l : Nat → Nat) : Prop := (∀ s, s < N → S0 s → l s = 0) ∧ ∀ u v, u < N → v < N → A u v → l v ≤ l u + 1
section EK
variable {N : Nat} {A : Nat → Nat → Prop} {S0 : Nat → Prop} {l : Nat → Nat}
theorem Lev.way (H : Lev N A S0 l) {p : Nat → Nat} {m : Nat} (W : Way N A S0 p m) : ∀ i, i ≤ m → l (p i) ≤ i := by
  intro i
  induction i with
  | zero => intro _; rw [H.1 _ (W.2.1 0 (Nat.zero_le _)) W.1]; exact Nat.le_refl _
  | succ i ih =>
    intro hi
    have h1 := ih (by omega)
    have h2 := H.2 _ _ (W.2.1 i (by omega)) (W.2.1 (i + 1) hi) (W.2.2 i (by omega))
    omega
/-- a way that ends as high as it is long goes up with every step -/
theorem Lev.steep (H : Lev N A S0 l) {p : Nat → Nat} {m : Nat} (W : Way N A S0 p m) (hm : m ≤ l (p m)) : ∀ i, i ≤ m → l (p i) = i := by
  have key : ∀ j i, i + j = m → i ≤ l (p i) := by
    intro j
    induction j with
    | zero => intro i hi; rw [show i = m by omega]; exact hm
    | succ j ih =>
      intro i hi
      have h1 := ih (i + 1) (by omega)
      have h2 := H.2 _ _ (W.2.1 i (by omega)) (W.2.1 (i + 1) (by omega)) (W.2.2 i (by omega))
      omega
  intro i hi
  have h1 := H.way W i hi
  have h2 := key (m - i) i (by omega)
  omega
/-- the levels by shortest ways, cut off at d -/
theorem lev_cut (N : Nat) (A : Nat → Nat → Prop) (S0 : Nat → Prop) (d : Nat) : ∃ l : Nat → Nat, Lev N A S0 l ∧ ∀ v, (∀ (p : Nat → Nat) (m : Nat), Way N A S0 p m → p m = v → d ≤ m) → (v < N → d ≤ l v) := by
  have hex : ∀ v, ∃ k, k ≤ d ∧ (k < d → ∃ p, Way N A S0 p k ∧ p k = v) ∧ ∀ (p : Nat → Nat) (m : Nat), Way N A S0 p m → p m = v → k ≤ m ∨ d ≤ m := by
    intro v
    by_cases h : ∃ m, m < d ∧ ∃ p, Way N A S0 p m ∧ p m = v
    · obtain ⟨k, hk, hmin⟩ := pk_least (fun m => m < d ∧ ∃ p, Way N A S0 p m ∧ p m = v) h
      refine ⟨k, by omega, fun _ => hk.2, fun p m W e => ?_⟩
      rcases Nat.lt_or_ge m d with z | z
      · rcases Nat.lt_or_ge m k with y | y
        · exact absurd ⟨z, p, W, e⟩ (hmin m y)
        · exact Or.inl y
      · exact Or.inr z
    · refine ⟨d, Nat.le_refl _, fun z => absurd z (by omega), fun p m W e => ?_⟩
      rcases Nat.lt_or_ge m d with z | z
      · exact absurd ⟨m, z, p, W, e⟩ h
      · exact Or.inr z
  refine ⟨fun v => Classical.choose (hex v), ⟨fun s hsN hs => ?_, fun u v hu hv ha => ?_⟩, fun v hv hN => ?_⟩
  · have h := Classical.choose_spec (hex s)
    have h2 := h.2.2 (fun _ => s) 0 ⟨hs, fun i hi => hsN, fun i hi => absurd hi (by omega)⟩ rfl
    show Classical.choose (hex s) = 0
    rcases h2 with z | z
    · omega
    · have := h.1; omega
  · show Classical.choose (hex v) ≤ Classical.choose (hex u) + 1
    have h := Classical.choose_spec (hex u)
    have h' := Classical.choose_spec (hex v)
    rcases Nat.lt_or_ge (Classical.choose (hex u)) d with z | z
    · obtain ⟨p, W, e⟩ := h.2.1 z
      have W2 : Way N A S0 (fun i => if i ≤ Classical.choose (hex u) then p i else v) (Classical.choose (hex u) + 1) := by
        refine ⟨?_, fun i hi => ?_, fun i hi => ?_⟩
        · show S0 (if 0 ≤ _ then p 0 else v)
          rw [if_pos (Nat.zero_le _)]; exact W.1
        · show (if i ≤ _ then p i else v) < N
          split
          · rename_i q; exact W.2.1 i q
          · exact hv
        · show A (if i ≤ _ then p i else v) (if i + 1 ≤ _ then p (i + 1) else v)
          rw [if_pos (by omega)]
          rcases Nat.lt_or_ge i (Classical.choose (hex u)) with y | y
          · rw [if_pos (by omega)]; exact W.2.2 i y
          · rw [if_neg (by omega), show i = Classical.choose (hex u) by omega, e]; exact ha
      have h2 := h'.2.2 _ _ W2 (by show (if _ + 1 ≤ _ then _ else v) = v; rw [if_neg (by omega)])
      have := h'.1
      omega
    · have := h'.1
      omega
  · show d ≤ Classical.choose (hex v)
    have h := Classical.choose_spec (hex v)
    rcases Nat.lt_or_ge (Classical.choose (hex v)) d with z | z
    · obtain ⟨p, W, e⟩ := h.2.1 z
      have := hv p _ W e
      omega
    · exact z
/-- the steps that go up by one -/
noncomputable def LA (N : Nat) (A : Nat → Nat → Prop) (l : Nat → Nat) : Nat → Bool := fun k => @decide (A (k / N) (k % N) ∧ l (k % N) = l (k / N) + 1) (Classical.propDecidable _)
theorem LA_iff {k : Nat} : LA N A l k = true ↔ A (k / N) (k % N) ∧ l (k % N) = l (k / N) + 1 := by
  unfold LA
  exact @decide_eq_true_iff _ (Classical.propDecidable _)
theorem pair_at {N u v : Nat} (hu : u < N) (hv : v < N) : u * N + v < N * N ∧ (u * N + v) / N = u ∧ (u * N + v) % N = v := by
  have hN : 0 < N := by omega
  refine ⟨?_, ?_, ?_⟩
  · have h1 : (u + 1) * N ≤ N * N := Nat.mul_le_mul_right N hu
    rw [Nat.succ_mul] at h1
    omega
  · rw [Nat.mul_comm, Nat.mul_add_div hN, Nat.div_eq_of_lt hv]; omega
  · rw [Nat.mul_comm, Nat.mul_add_mod, Nat.mod_eq_of_lt hv]
variable {A' : Nat → Nat → Prop} {Tm : Nat → Prop}
/-- a push along a steep way: the levels stay, a step up is lost -/
theorem Lev.push (H : Lev N A S0 l) {p : Nat → Nat} {m : Nat} (W : Way N A S0 p m) (hm : m ≤ l (p m)) (hA : ∀ u v, u < N → v < N → A' u v → A u v ∨ ∃ i, i < m ∧ u = p (i + 1) ∧ v = p i) (hlost : ∃ i, i < m ∧ ¬ A' (p i) (p (i + 1))) : Lev N A' S0 l ∧ ctB (LA N A' l) (N * N) < ctB (LA N A l) (N * N) := by
  have hs := H.steep W hm
  refine ⟨⟨H.1, fun u v hu hv ha => ?_⟩, ?_⟩
  · rcases hA u v hu hv ha with q | ⟨i, hi, rfl, rfl⟩
    · exact H.2 u v hu hv q
    · rw [hs i (by omega), hs (i + 1) (by omega)]; omega
  · obtain ⟨i, hi, hn⟩ := hlost
    have hu := W.2.1 i (by omega)
    have hv := W.2.1 (i + 1) (by omega)
    obtain ⟨k1, k2, k3⟩ := pair_at hu hv
    refine ctB_lt (v := p i * N + p (i + 1)) (fun k hk hp => ?_) k1 ?_ ?_
    · rw [LA_iff] at hp ⊢
      have hN : 0 < N := by omega
      have g1 : k / N < N := Nat.div_lt_of_lt_mul hk
      have g2 : k % N < N := Nat.mod_lt _ hN
      rcases hA _ _ g1 g2 hp.1 with q | ⟨j, hj, e1, e2⟩
      · exact ⟨q, hp.2⟩
      · exfalso
        have := hp.2
        rw [e1, e2, hs j (by omega), hs (j + 1) (by omega)] at this
        omega
    · cases hh : LA N A' l (p i * N + p (i + 1)) with
      | false => rfl
      | true =>
        rw [LA_iff, k2, k3] at hh
        exact absurd hh.1 hn
    · rw [LA_iff, k2, k3]
      exact ⟨W.2.2 i hi, by rw [hs i (by omega), hs (i + 1) (by omega)]⟩
/-- at most r pushes are left -/
def Pot (N : Nat) (A : Nat → Nat → Prop) (S0 Tm : Nat → Prop) (r : Nat) : Prop := ∃ (D : Nat) (l : Nat → Nat), Lev N A S0 l ∧ D ≤ N ∧ (∀ t, t < N → Tm t → D ≤ l t) ∧ (N - D) * (N * N + 1) + ctB (LA N A l) (N * N) ≤ r
theorem pot_start (N : Nat) (A : Nat → Nat → Prop) (S0 Tm : Nat → Prop) : Pot N A S0 Tm (N * (N * N + 1) + N * N) :=
  ⟨0, fun _ => 0, ⟨fun _ _ _ => rfl, fun _ _ _ _ _ => Nat.zero_le _⟩, Nat.zero_le _, fun _ _ _ => Nat.zero_le _, Nat.add_le_add_left (ctB_le _ _) _⟩
theorem pot_step {r : Nat} (H : Pot N A S0 Tm r) {p : Nat → Nat} {m : Nat} (W : Way N A S0 p m) (ht : Tm (p m)) (hmN : m ≤ N) (hsh : ∀ (p' : Nat → Nat) (m' : Nat), Way N A S0 p' m' → Tm (p' m') → m ≤ m') (hA : ∀ u v, u < N → v < N → A' u v → A u v ∨ ∃ i, i < m ∧ u = p (i + 1) ∧ v = p i) (hlost : ∃ i, i < m ∧ ¬ A' (p i) (p (i + 1))) : ∃ r', r' < r ∧ Pot N A' S0 Tm r' := by
  obtain ⟨D, l, h1, h2, h3, h4⟩ := H
  have hpm := W.2.1 m (Nat.le_refl _)
  have h5 := h1.way W m (Nat.le_refl _)
  have h6 := h3 _ hpm ht
  rcases Nat.lt_or_ge D m with q | q
  · obtain ⟨l', g1, g2⟩ := lev_cut N A S0 m
    have g3 : ∀ t, t < N → Tm t → m ≤ l' t := fun t htN hT => g2 t (fun p' m' W' e => hsh p' m' W' (by rw [e]; exact hT)) htN
    obtain ⟨k1, k2⟩ := g1.push W (g3 _ hpm ht) hA hlost
    refine ⟨(N - m) * (N * N + 1) + ctB (LA N A' l') (N * N), ?_, m, l', k1, hmN, g3, Nat.le_refl _⟩
    have k3 := ctB_le (LA N A l') (N * N)
    have k4 : (N - m + 1) * (N * N + 1) ≤ (N - D) * (N * N + 1) := Nat.mul_le_mul_right _ (by omega)
    rw [Nat.succ_mul] at k4
    omega
  · have e : D = m := by omega
    subst e
    obtain ⟨k1, k2⟩ := h1.push W h6 hA hlost
    exact ⟨(N - D) * (N * N + 1) + ctB (LA N A' l) (N * N), by omega, D, l, k1, h2, h3, Nat.le_refl _⟩
end EK
