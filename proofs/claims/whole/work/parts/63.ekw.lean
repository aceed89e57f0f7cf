/-! shortest ways where a step may bear more than one push -/
def sN (f : Nat → Nat) : Nat → Nat
  | 0 => 0
  | n + 1 => sN f n + f n
theorem sN_le {f g : Nat → Nat} : ∀ {n : Nat}, (∀ k, k < n → f k ≤ g k) → sN f n ≤ sN g n
  | 0, _ => Nat.le_refl _
  | n + 1, h => by
    have h1 := sN_le (n := n) (fun k hk => h k (by omega))
    have h2 := h n (by omega)
    rw [sN, sN]; omega
theorem sN_lt {f g : Nat → Nat} : ∀ {n : Nat}, (∀ k, k < n → f k ≤ g k) → ∀ {v : Nat}, v < n → f v < g v → sN f n < sN g n
  | 0, _, v, hv, _ => absurd hv (by omega)
  | n + 1, h, v, hv, h1 => by
    rw [sN, sN]
    rcases Nat.lt_or_ge v n with z | z
    · have a := sN_lt (n := n) (fun k hk => h k (by omega)) z h1
      have b := h n (by omega)
      omega
    · have e : v = n := by omega
      subst e
      have a := sN_le (n := v) (fun k hk => h k (by omega))
      omega
theorem sN_bound {f : Nat → Nat} {c : Nat} : ∀ {n : Nat}, (∀ k, k < n → f k ≤ c) → sN f n ≤ c * n
  | 0, _ => Nat.zero_le _
  | n + 1, h => by
    have h1 := sN_bound (n := n) (fun k hk => h k (by omega))
    have h2 := h n (by omega)
    rw [sN, Nat.mul_succ]; omega
def LW (N : Nat) (W : Nat → Nat → Nat) (l : Nat → Nat) : Nat → Nat := fun k => if l (k % N) = l (k / N) + 1 then W (k / N) (k % N) else 0
section EKW
variable {N : Nat} {W W' : Nat → Nat → Nat} {S0 Tm : Nat → Prop} {l : Nat → Nat}
theorem Lev.pushW (H : Lev N (fun u v => 0 < W u v) S0 l) {p : Nat → Nat} {m : Nat} (Wy : Way N (fun u v => 0 < W u v) S0 p m) (hm : m ≤ l (p m)) (hA : ∀ u v, u < N → v < N → W' u v ≤ W u v ∨ ∃ i, i < m ∧ u = p (i + 1) ∧ v = p i) (hlost : ∃ i, i < m ∧ W' (p i) (p (i + 1)) < W (p i) (p (i + 1))) : Lev N (fun u v => 0 < W' u v) S0 l ∧ sN (LW N W' l) (N * N) < sN (LW N W l) (N * N) := by
  have hs := H.steep Wy hm
  refine ⟨⟨H.1, fun u v hu hv ha => ?_⟩, ?_⟩
  · rcases hA u v hu hv with q | ⟨i, hi, rfl, rfl⟩
    · exact H.2 u v hu hv (by have : 0 < W' u v := ha; show 0 < W u v; omega)
    · rw [hs i (by omega), hs (i + 1) (by omega)]; omega
  · obtain ⟨i, hi, hn⟩ := hlost
    have hu := Wy.2.1 i (by omega)
    have hv := Wy.2.1 (i + 1) (by omega)
    obtain ⟨k1, k2, k3⟩ := pair_at hu hv
    refine sN_lt (v := p i * N + p (i + 1)) (fun k hk => ?_) k1 ?_
    · unfold LW
      by_cases hl : l (k % N) = l (k / N) + 1
      · rw [if_pos hl, if_pos hl]
        have hN : 0 < N := by omega
        have g1 : k / N < N := Nat.div_lt_of_lt_mul hk
        have g2 : k % N < N := Nat.mod_lt _ hN
        rcases hA _ _ g1 g2 with q | ⟨j, hj, e1, e2⟩
        · exact q
        · exfalso
          rw [e1, e2, hs j (by omega), hs (j + 1) (by omega)] at hl
          omega
      · rw [if_neg hl, if_neg hl]; exact Nat.le_refl _
    · unfold LW
      rw [k2, k3, if_pos (by rw [hs i (by omega), hs (i + 1) (by omega)]), if_pos (by rw [hs i (by omega), hs (i + 1) (by omega)])]
      exact hn
/-- at most r pushes are left -/
def PotW (N : Nat) (W : Nat → Nat → Nat) (S0 Tm : Nat → Prop) (r : Nat) : Prop := ∃ (D : Nat) (l : Nat → Nat), Lev N (fun u v => 0 < W u v) S0 l ∧ D ≤ N ∧ (∀ t, t < N → Tm t → D ≤ l t) ∧ (N - D) * (2 * (N * N) + 1) + sN (LW N W l) (N * N) ≤ r
theorem LW_le (hW : ∀ u v, W u v ≤ 2) : sN (LW N W l) (N * N) ≤ 2 * (N * N) := sN_bound (fun k _ => by unfold LW; split; exact hW _ _; omega)
theorem potW_start (hW : ∀ u v, W u v ≤ 2) (S0 Tm : Nat → Prop) : PotW N W S0 Tm (N * (2 * (N * N) + 1) + 2 * (N * N)) :=
  ⟨0, fun _ => 0, ⟨fun _ _ _ => rfl, fun _ _ _ _ _ => Nat.zero_le _⟩, Nat.zero_le _, fun _ _ _ => Nat.zero_le _, Nat.add_le_add_left (LW_le hW) _⟩
theorem potW_step {r : Nat} (hW : ∀ u v, W u v ≤ 2) (H : PotW N W S0 Tm r) {p : Nat → Nat} {m : Nat} (Wy : Way N (fun u v => 0 < W u v) S0 p m) (ht : Tm (p m)) (hmN : m ≤ N) (hsh : ∀ (p' : Nat → Nat) (m' : Nat), Way N (fun u v => 0 < W u v) S0 p' m' → Tm (p' m') → m ≤ m') (hA : ∀ u v, u < N → v < N → W' u v ≤ W u v ∨ ∃ i, i < m ∧ u = p (i + 1) ∧ v = p i) (hlost : ∃ i, i < m ∧ W' (p i) (p (i + 1)) < W (p i) (p (i + 1))) : ∃ r', r' < r ∧ PotW N W' S0 Tm r' := by
  obtain ⟨D, l, h1, h2, h3, h4⟩ := H
  have hpm := Wy.2.1 m (Nat.le_refl _)
  have h5 := h1.way Wy m (Nat.le_refl _)
  have h6 := h3 _ hpm ht
  rcases Nat.lt_or_ge D m with q | q
  · obtain ⟨l', g1, g2⟩ := lev_cut N (fun u v => 0 < W u v) S0 m
    have g3 : ∀ t, t < N → Tm t → m ≤ l' t := fun t htN hT => g2 t (fun p' m' W' e => hsh p' m' W' (by rw [e]; exact hT)) htN
    obtain ⟨k1, k2⟩ := g1.pushW Wy (g3 _ hpm ht) hA hlost
    refine ⟨(N - m) * (2 * (N * N) + 1) + sN (LW N W' l') (N * N), ?_, m, l', k1, hmN, g3, Nat.le_refl _⟩
    have k3 := LW_le (N := N) (l := l') hW
    have k4 : (N - m + 1) * (2 * (N * N) + 1) ≤ (N - D) * (2 * (N * N) + 1) := Nat.mul_le_mul_right _ (by omega)
    rw [Nat.succ_mul] at k4
    omega
  · have e : D = m := by omega
    subst e
    obtain ⟨k1, k2⟩ := h1.pushW Wy h6 hA hlost
    exact ⟨(N - D) * (2 * (N * N) + 1) + sN (LW N W' l) (N * N), by omega, D, l, k1, h2, h3, Nat.le_refl _⟩
end EKW
/-- a round brings one more node to its end -/
theorem LeastSol.grow {N : Nat} {E : Nat → Nat → Int → Prop} {B y x x' : Nat → Int} (H : LeastSol N E B y) (hB : ∀ v, v < N → B v ≤ x v) (hm : ∀ v, v < N → x v ≤ x' v) (hle : ∀ v, v < N → x' v ≤ y v) (hE : ∀ u v w, u < N → v < N → E u v w → x u + w ≤ x' v) :
    (∀ v, v < N → x' v = y v) ∨ ctB (fun v => decide (x v = y v)) N < ctB (fun v => decide (x' v = y v)) N := by
  have keep : ∀ v, v < N → x v = y v → x' v = y v := fun v hv q => by
    have := hm v hv
    have := hle v hv
    omega
  by_cases hall : ∀ v, v < N → x v = y v
  · exact Or.inl (fun v hv => keep v hv (hall v hv))
  · obtain ⟨v0, h0, h1⟩ : ∃ v0, v0 < N ∧ ¬ x v0 = y v0 := by
      apply Classical.byContradiction
      intro hn
      exact hall (fun v hv => Classical.byContradiction (fun q => hn ⟨v, hv, q⟩))
    obtain ⟨v, hv, hs, hh⟩ := H.held (fun v => decide (x v = y v)) h0 (by simpa using h1)
    have hs' : ¬ x v = y v := by simpa using hs
    have hfin : x' v = y v := by
      rcases hh with q | ⟨u, w, hu, hu2, he, q⟩
      · have := hB v hv
        have := hm v hv
        have := hle v hv
        omega
      · have hu3 : x u = y u := by simpa using hu2
        have := hE u v w hu hv he
        have := hle v hv
        omega
    exact Or.inr (ctB_lt (p := fun v => decide (x v = y v)) (q := fun v => decide (x' v = y v)) (n := N) (fun j hj hp => by simpa using keep j hj (by simpa using hp)) hv (by simpa using hs') (by simpa using hfin))
/-- begins and ends as nodes -/
def nod (b f : Nat → Int) (v : Nat) : Int := if v % 2 = 0 then b (v / 2) else f (v / 2)
theorem nod_b (b f : Nat → Int) (t : Nat) : nod b f (2 * t) = b t := by
  unfold nod; rw [if_pos (by omega), show 2 * t / 2 = t by omega]
theorem nod_f (b f : Nat → Int) (t : Nat) : nod b f (2 * t + 1) = f t := by
  unfold nod; rw [if_neg (by omega), show (2 * t + 1) / 2 = t by omega]
theorem nod_all {n : Nat} {P : Nat → Prop} (h : ∀ t, t < n → P (2 * t) ∧ P (2 * t + 1)) : ∀ v, v < 2 * n → P v := by
  intro v hv
  have := h (v / 2) (by omega)
  rcases Nat.mod_two_eq_zero_or_one v with q | q
  · rw [show v = 2 * (v / 2) by omega]; exact this.1
  · rw [show v = 2 * (v / 2) + 1 by omega]; exact this.2
/-- what a flow asks for, as pairs of nodes -/
def ET (n : Nat) (on off th : Nat → Int) (fr : Nat → Nat → Prop) (pa : Nat → Nat → Int) (u v : Nat) (w : Int) : Prop :=
  (∃ t, t < n ∧ u = 2 * t ∧ v = 2 * t + 1 ∧ w = on t) ∨ (∃ t, t < n ∧ u = 2 * t + 1 ∧ v = 2 * t ∧ w = - off t ∧ 0 < th t) ∨ (∃ t o, t < n ∧ o < n ∧ u = 2 * o + 1 ∧ v = 2 * t ∧ w = 0 ∧ fr t o) ∨ (∃ t o, t < n ∧ o < n ∧ u = 2 * t ∧ v = 2 * o + 1 ∧ w = 0 ∧ 0 < pa o t)
section NODES
variable {n : Nat} {on off th : Nat → Int} {fr : Nat → Nat → Prop} {pa : Nat → Nat → Int} {B C b f : Nat → Int}
theorem sol_nod {x : Nat → Int} : Sol (2 * n) (ET n on off th fr pa) (nod B C) x ↔ SolT n on off th fr pa (fun t => x (2 * t)) (fun t => x (2 * t + 1)) ∧ GeB n B C (fun t => x (2 * t)) (fun t => x (2 * t + 1)) := by
  constructor
  · rintro ⟨h1, h2⟩
    refine ⟨fun t ht => ⟨?_, fun q => ?_, fun o ho => ⟨fun q => ?_, fun q => ?_⟩⟩, fun t ht => ⟨?_, ?_⟩⟩
    · exact h2 (2 * t) (2 * t + 1) (on t) (by omega) (by omega) (Or.inl ⟨t, ht, rfl, rfl, rfl⟩)
    · have := h2 (2 * t + 1) (2 * t) (- off t) (by omega) (by omega) (Or.inr (Or.inl ⟨t, ht, rfl, rfl, rfl, q⟩))
      dsimp only; omega
    · have := h2 (2 * o + 1) (2 * t) 0 (by omega) (by omega) (Or.inr (Or.inr (Or.inl ⟨t, o, ht, ho, rfl, rfl, rfl, q⟩)))
      dsimp only; omega
    · have := h2 (2 * t) (2 * o + 1) 0 (by omega) (by omega) (Or.inr (Or.inr (Or.inr ⟨t, o, ht, ho, rfl, rfl, rfl, q⟩)))
      dsimp only; omega
    · have := h1 (2 * t) (by omega); rw [nod_b] at this; exact this
    · have := h1 (2 * t + 1) (by omega); rw [nod_f] at this; exact this
  · rintro ⟨h1, h2⟩
    refine ⟨nod_all (fun t ht => ⟨by rw [nod_b]; exact (h2 t ht).1, by rw [nod_f]; exact (h2 t ht).2⟩), ?_⟩
    rintro u v w hu hv (⟨t, ht, rfl, rfl, rfl⟩ | ⟨t, ht, rfl, rfl, rfl, q⟩ | ⟨t, o, ht, ho, rfl, rfl, rfl, q⟩ | ⟨t, o, ht, ho, rfl, rfl, rfl, q⟩)
    · exact (h1 t ht).1
    · have := (h1 t ht).2.1 q; dsimp only at this; omega
    · have := ((h1 t ht).2.2 o ho).1 q; dsimp only at this; omega
    · have := ((h1 t ht).2.2 o ho).2 q; dsimp only at this; omega
theorem lea_nod (H : LeaT n on off th fr pa B C b f) : LeastSol (2 * n) (ET n on off th fr pa) (nod B C) (nod b f) := by
  have e1 : (fun t => nod b f (2 * t)) = b := funext (fun t => nod_b b f t)
  have e2 : (fun t => nod b f (2 * t + 1)) = f := funext (fun t => nod_f b f t)
  refine ⟨sol_nod.mpr (by rw [e1, e2]; exact ⟨H.1, H.2.1⟩), fun z hz => ?_⟩
  obtain ⟨h1, h2⟩ := sol_nod.mp hz
  have := H.2.2 _ _ h1 h2
  exact nod_all (fun t ht => ⟨by rw [nod_b]; exact (this t ht).1, by rw [nod_f]; exact (this t ht).2⟩)
/-- how many moments are where they end -/
def atEnd (n : Nat) (b f b' f' : Nat → Int) : Nat := ctB (fun v => decide (nod b' f' v = nod b f v)) (2 * n)
theorem lea_grow (H : LeaT n on off th fr pa B C b f) {x x' z z' : Nat → Int} (hB : GeB n B C x z) (hm : ∀ t, t < n → x t ≤ x' t ∧ z t ≤ z' t) (hle : ∀ t, t < n → x' t ≤ b t ∧ z' t ≤ f t)
    (hE : ∀ t, t < n → x t + on t ≤ z' t ∧ (0 < th t → z t - off t ≤ x' t) ∧ ∀ o, o < n → (fr t o → z o ≤ x' t) ∧ (0 < pa o t → x t ≤ z' o)) :
    (∀ t, t < n → x' t = b t ∧ z' t = f t) ∨ atEnd n b f x z < atEnd n b f x' z' := by
  rcases (lea_nod H).grow (x := nod x z) (x' := nod x' z') (nod_all (fun t ht => ⟨by rw [nod_b, nod_b]; exact (hB t ht).1, by rw [nod_f, nod_f]; exact (hB t ht).2⟩)) (nod_all (fun t ht => ⟨by rw [nod_b, nod_b]; exact (hm t ht).1, by rw [nod_f, nod_f]; exact (hm t ht).2⟩)) (nod_all (fun t ht => ⟨by rw [nod_b, nod_b]; exact (hle t ht).1, by rw [nod_f, nod_f]; exact (hle t ht).2⟩)) (by
    rintro u v w hu hv (⟨t, ht, rfl, rfl, rfl⟩ | ⟨t, ht, rfl, rfl, rfl, q⟩ | ⟨t, o, ht, ho, rfl, rfl, rfl, q⟩ | ⟨t, o, ht, ho, rfl, rfl, rfl, q⟩)
    · rw [nod_b, nod_f]; exact (hE t ht).1
    · rw [nod_b, nod_f]; have := (hE t ht).2.1 q; omega
    · rw [nod_b, nod_f]; have := ((hE t ht).2.2 o ho).1 q; omega
    · rw [nod_b, nod_f]; have := ((hE t ht).2.2 o ho).2 q; omega) with q | q
  · refine Or.inl (fun t ht => ⟨?_, ?_⟩)
    · have := q (2 * t) (by omega); rw [nod_b, nod_b] at this; exact this
    · have := q (2 * t + 1) (by omega); rw [nod_f, nod_f] at this; exact this
  · exact Or.inr q
theorem atEnd_le : atEnd n b f B C ≤ 2 * n := ctB_le _ _
end NODES
