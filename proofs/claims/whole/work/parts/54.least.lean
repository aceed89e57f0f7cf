/-! least solutions of systems of lower bounds, and how rounds reach them -/
def ctB (p : Nat → Bool) : Nat → Nat
  | 0 => 0
  | n + 1 => ctB p n + (if p n then 1 else 0)
theorem ctB_le (p : Nat → Bool) : ∀ n, ctB p n ≤ n
  | 0 => Nat.le_refl _
  | n + 1 => by have := ctB_le p n; rw [ctB]; split <;> omega
theorem ctB_mono {p q : Nat → Bool} : ∀ {n : Nat}, (∀ k, k < n → p k = true → q k = true) → ctB p n ≤ ctB q n
  | 0, _ => Nat.le_refl _
  | n + 1, h => by
    have h1 := ctB_mono (n := n) (fun k hk => h k (by omega))
    have h2 := h n (by omega)
    rw [ctB, ctB]
    cases hp : p n with
    | false => simp; omega
    | true => simp [h2 hp]; omega
theorem ctB_lt {p q : Nat → Bool} : ∀ {n : Nat}, (∀ k, k < n → p k = true → q k = true) → ∀ {v : Nat}, v < n → p v = false → q v = true → ctB p n < ctB q n
  | 0, _, v, hv, _, _ => absurd hv (by omega)
  | n + 1, h, v, hv, h1, h2 => by
    rw [ctB, ctB]
    rcases Nat.lt_or_ge v n with z | z
    · have a := ctB_lt (n := n) (fun k hk => h k (by omega)) z h1 h2
      have b := h n (by omega)
      cases hp : p n with
      | false => simp; omega
      | true => simp [b hp]; omega
    · have e : v = n := by omega
      subst e
      have a := ctB_mono (n := v) (fun k hk => h k (by omega))
      simp [h1, h2]; omega
theorem ctB_all {p : Nat → Bool} : ∀ {n : Nat}, n ≤ ctB p n → ∀ k, k < n → p k = true
  | 0, _, k, hk => absurd hk (by omega)
  | n + 1, h, k, hk => by
    rw [ctB] at h
    have h1 := ctB_le p n
    have hn : p n = true := by
      cases hp : p n with
      | true => rfl
      | false => simp [hp] at h; omega
    simp [hn] at h
    rcases Nat.lt_or_ge k n with z | z
    · exact ctB_all (n := n) (by omega) k z
    · rw [show k = n by omega]; exact hn
/-- x keeps to bounds B from below and to pairs E: v is at least w behind u -/
def Sol (N : Nat) (E : Nat → Nat → Int → Prop) (B x : Nat → Int) : Prop := (∀ v, v < N → B v ≤ x v) ∧ ∀ u v w, u < N → v < N → E u v w → x u + w ≤ x v
def LeastSol (N : Nat) (E : Nat → Nat → Int → Prop) (B y : Nat → Int) : Prop := Sol N E B y ∧ ∀ z, Sol N E B z → ∀ v, v < N → y v ≤ z v
section LS
variable {N : Nat} {E : Nat → Nat → Int → Prop} {B y : Nat → Int}
/-- some node outside a set is held up from the set or from below -/
theorem LeastSol.held (H : LeastSol N E B y) (S : Nat → Bool) {v0 : Nat} (h0 : v0 < N) (hv : S v0 = false) : ∃ v, v < N ∧ S v = false ∧ (y v = B v ∨ ∃ u w, u < N ∧ S u = true ∧ E u v w ∧ y u + w = y v) := by
  apply Classical.byContradiction
  intro hn
  have key : ∀ v, v < N → S v = false → B v < y v ∧ ∀ u w, u < N → S u = true → E u v w → y u + w < y v := by
    intro v hv1 hv2
    refine ⟨?_, fun u w hu hs he => ?_⟩
    · have h1 := H.1.1 v hv1
      have h2 : ¬ y v = B v := fun q => hn ⟨v, hv1, hv2, Or.inl q⟩
      omega
    · have h1 := H.1.2 u v w hu hv1 he
      have h2 : ¬ y u + w = y v := fun q => hn ⟨v, hv1, hv2, Or.inr ⟨u, w, hu, hs, he, q⟩⟩
      omega
  have hz : Sol N E B (fun v => if S v then y v else y v - 1) := by
    refine ⟨fun v hv1 => ?_, fun u v w hu hv1 he => ?_⟩
    · show B v ≤ if S v then y v else y v - 1
      cases hs : S v with
      | true => simpa using H.1.1 v hv1
      | false => have := (key v hv1 hs).1; simp; omega
    · show (if S u then y u else y u - 1) + w ≤ if S v then y v else y v - 1
      have h1 := H.1.2 u v w hu hv1 he
      cases hs : S v with
      | true => cases hu2 : S u <;> simp <;> omega
      | false =>
        cases hu2 : S u with
        | true => have := (key v hv1 hs).2 u w hu hu2 he; simp; omega
        | false => simp; omega
  have := H.2 _ hz v0 h0
  have h3 : y v0 ≤ if S v0 then y v0 else y v0 - 1 := this
  rw [hv] at h3
  simp at h3
  omega
/-- after as many rounds as there are nodes all have come to the least solution -/
theorem LeastSol.rounds (H : LeastSol N E B y) (xs : Nat → Nat → Int) (hle : ∀ k v, v < N → xs k v ≤ y v) (hmono : ∀ k v, v < N → xs k v ≤ xs (k + 1) v) (hB : ∀ v, v < N → B v ≤ xs 0 v) (hE : ∀ k u v w, u < N → v < N → E u v w → xs k u + w ≤ xs (k + 1) v) : ∀ v, v < N → xs N v = y v := by
  have hBk : ∀ k v, v < N → B v ≤ xs k v := by
    intro k
    induction k with
    | zero => exact hB
    | succ k ih => intro v hv; have := ih v hv; have := hmono k v hv; omega
  have key : ∀ k, k ≤ N → (∀ v, v < N → xs k v = y v) ∨ k ≤ ctB (fun v => decide (xs k v = y v)) N := by
    intro k
    induction k with
    | zero => intro _; exact Or.inr (Nat.zero_le _)
    | succ k ih =>
      intro hk
      have keep : ∀ v, v < N → xs k v = y v → xs (k + 1) v = y v := fun v hv q => by
        have := hmono k v hv
        have := hle (k + 1) v hv
        omega
      rcases ih (by omega) with a | a
      · exact Or.inl (fun v hv => keep v hv (a v hv))
      · by_cases hall : ∀ v, v < N → xs k v = y v
        · exact Or.inl (fun v hv => keep v hv (hall v hv))
        · obtain ⟨v0, h0, h1⟩ : ∃ v0, v0 < N ∧ ¬ xs k v0 = y v0 := by
            apply Classical.byContradiction
            intro hn
            exact hall (fun v hv => Classical.byContradiction (fun q => hn ⟨v, hv, q⟩))
          obtain ⟨v, hv, hs, hh⟩ := H.held (fun v => decide (xs k v = y v)) h0 (by simpa using h1)
          have hs' : ¬ xs k v = y v := by simpa using hs
          have hfin : xs (k + 1) v = y v := by
            rcases hh with q | ⟨u, w, hu, hu2, he, q⟩
            · have := hBk k v hv
              have := hle k v hv
              omega
            · have hu3 : xs k u = y u := by simpa using hu2
              have := hE k u v w hu hv he
              have := hle (k + 1) v hv
              omega
          refine Or.inr ?_
          have := ctB_lt (p := fun v => decide (xs k v = y v)) (q := fun v => decide (xs (k + 1) v = y v)) (n := N) (fun j hj hp => by simpa using keep j hj (by simpa using hp)) hv (by simpa using hs') (by simpa using hfin)
          omega
  rcases key N (Nat.le_refl _) with a | a
  · exact a
  · intro v hv
    have := ctB_all a v hv
    simpa using this
end LS
