/-! the least moments that a flow asks for, and the plans that they are -/
theorem min_int (P : Int → Prop) (L : Int) (hL : ∀ v, P v → L ≤ v) (h : ∃ v, P v) : ∃ v, P v ∧ ∀ w, P w → v ≤ w := by
  obtain ⟨v, hv⟩ := h
  obtain ⟨k, hk, hm⟩ := pk_least (fun k : Nat => P (L + k)) ⟨(v - L).toNat, by
    have := hL v hv
    rw [show L + ((v - L).toNat : Int) = v by omega]; exact hv⟩
  refine ⟨L + k, hk, fun w hw => ?_⟩
  have h1 := hL w hw
  rcases Nat.lt_or_ge (w - L).toNat k with q | q
  · exact absurd (by rw [show L + ((w - L).toNat : Int) = w by omega]; exact hw) (hm _ q)
  · omega
/-- moments that keep to all that a flow asks for -/
def SolT (n : Nat) (on off th : Nat → Int) (fr : Nat → Nat → Prop) (pa : Nat → Nat → Int) (b f : Nat → Int) : Prop :=
  ∀ t, t < n → b t + on t ≤ f t ∧ (0 < th t → f t - off t ≤ b t) ∧ ∀ o, o < n → (fr t o → f o ≤ b t) ∧ (0 < pa o t → b t ≤ f o)
def GeB (n : Nat) (B C b f : Nat → Int) : Prop := ∀ t, t < n → B t ≤ b t ∧ C t ≤ f t
def LeaT (n : Nat) (on off th : Nat → Int) (fr : Nat → Nat → Prop) (pa : Nat → Nat → Int) (B C b f : Nat → Int) : Prop :=
  SolT n on off th fr pa b f ∧ GeB n B C b f ∧ ∀ b' f', SolT n on off th fr pa b' f' → GeB n B C b' f' → ∀ t, t < n → b t ≤ b' t ∧ f t ≤ f' t
section LEA
variable {n : Nat} {on off th : Nat → Int} {fr : Nat → Nat → Prop} {pa : Nat → Nat → Int} {B C b f b' f' : Nat → Int}
theorem SolT.sup (H : SolT n on off th fr pa b f) (H' : SolT n on off th fr pa b' f') : SolT n on off th fr pa (fun t => max (b t) (b' t)) (fun t => max (f t) (f' t)) := by
  intro t ht
  obtain ⟨a1, a2, a3⟩ := H t ht
  obtain ⟨c1, c2, c3⟩ := H' t ht
  dsimp only
  refine ⟨by omega, fun q => by have := a2 q; have := c2 q; omega, fun o ho => ⟨fun q => ?_, fun q => ?_⟩⟩
  · have := (a3 o ho).1 q; have := (c3 o ho).1 q; omega
  · have := (a3 o ho).2 q; have := (c3 o ho).2 q; omega
theorem SolT.shift (d : Int) (H : SolT n on off th fr pa b f) : SolT n on off th fr pa (fun t => d + b t) (fun t => d + f t) := by
  intro t ht
  obtain ⟨a1, a2, a3⟩ := H t ht
  dsimp only
  refine ⟨by omega, fun q => by have := a2 q; omega, fun o ho => ⟨fun q => ?_, fun q => ?_⟩⟩
  · have := (a3 o ho).1 q; omega
  · have := (a3 o ho).2 q; omega
theorem LeaT.ex (H : SolT n on off th fr pa b' f') (hB : GeB n B C b' f') : ∃ b f, LeaT n on off th fr pa B C b f := by
  have e1 : ∀ t, ∃ v, t < n → (∃ b f, SolT n on off th fr pa b f ∧ GeB n B C b f ∧ b t = v) ∧ ∀ b f, SolT n on off th fr pa b f → GeB n B C b f → v ≤ b t := by
    intro t
    by_cases ht : t < n
    · obtain ⟨v, h1, h2⟩ := min_int (fun v => ∃ b f, SolT n on off th fr pa b f ∧ GeB n B C b f ∧ b t = v) (B t) (fun v ⟨b, f, _, h2, h3⟩ => by rw [← h3]; exact (h2 t ht).1) ⟨b' t, b', f', H, hB, rfl⟩
      exact ⟨v, fun _ => ⟨h1, fun b f g1 g2 => h2 _ ⟨b, f, g1, g2, rfl⟩⟩⟩
    · exact ⟨0, fun q => absurd q ht⟩
  have e2 : ∀ t, ∃ v, t < n → (∃ b f, SolT n on off th fr pa b f ∧ GeB n B C b f ∧ f t = v) ∧ ∀ b f, SolT n on off th fr pa b f → GeB n B C b f → v ≤ f t := by
    intro t
    by_cases ht : t < n
    · obtain ⟨v, h1, h2⟩ := min_int (fun v => ∃ b f, SolT n on off th fr pa b f ∧ GeB n B C b f ∧ f t = v) (C t) (fun v ⟨b, f, _, h2, h3⟩ => by rw [← h3]; exact (h2 t ht).2) ⟨f' t, b', f', H, hB, rfl⟩
      exact ⟨v, fun _ => ⟨h1, fun b f g1 g2 => h2 _ ⟨b, f, g1, g2, rfl⟩⟩⟩
    · exact ⟨0, fun q => absurd q ht⟩
  refine ⟨fun t => Classical.choose (e1 t), fun t => Classical.choose (e2 t), ?_, ?_, fun b f g1 g2 t ht => ⟨(Classical.choose_spec (e1 t) ht).2 b f g1 g2, (Classical.choose_spec (e2 t) ht).2 b f g1 g2⟩⟩
  · intro t ht
    dsimp only
    have s1 := Classical.choose_spec (e1 t) ht
    have s2 := Classical.choose_spec (e2 t) ht
    refine ⟨?_, fun q => ?_, fun o ho => ⟨fun q => ?_, fun q => ?_⟩⟩
    · obtain ⟨b, f, g1, g2, g3⟩ := s2.1
      have := s1.2 b f g1 g2
      have := (g1 t ht).1
      omega
    · obtain ⟨b, f, g1, g2, g3⟩ := s1.1
      have := s2.2 b f g1 g2
      have := (g1 t ht).2.1 q
      omega
    · obtain ⟨b, f, g1, g2, g3⟩ := s1.1
      have := (Classical.choose_spec (e2 o) ho).2 b f g1 g2
      have := ((g1 t ht).2.2 o ho).1 q
      omega
    · obtain ⟨b, f, g1, g2, g3⟩ := (Classical.choose_spec (e2 o) ho).1
      have := s1.2 b f g1 g2
      have := ((g1 t ht).2.2 o ho).2 q
      omega
  · intro t ht
    obtain ⟨b, f, g1, g2, g3⟩ := (Classical.choose_spec (e1 t) ht).1
    obtain ⟨b2, f2, k1, k2, k3⟩ := (Classical.choose_spec (e2 t) ht).1
    dsimp only
    exact ⟨by rw [← g3]; exact (g2 t ht).1, by rw [← k3]; exact (k2 t ht).2⟩
/-- without flow a task ends as soon as it can -/
theorem LeaT.free (H : LeaT n on off th fr pa B C b f) {t : Nat} (ht : t < n) (h0 : ¬ 0 < th t) (hp : ∀ u, u < n → ¬ 0 < pa t u) (hC : C t ≤ b t + on t) : f t = b t + on t := by
  obtain ⟨hs, hg, hl⟩ := H
  have key := hl b (fun u => if u = t then b t + on t else f u) (by
    intro u hu
    obtain ⟨a1, a2, a3⟩ := hs u hu
    have ft := (hs t ht).1
    dsimp only
    by_cases hut : u = t
    · subst hut
      rw [if_pos rfl]
      refine ⟨by omega, fun q => absurd q h0, fun o ho => ⟨fun q => ?_, fun q => ?_⟩⟩
      · have := (a3 o ho).1 q
        by_cases hot : o = u
        · rw [if_pos hot]; rw [hot] at this; omega
        · rw [if_neg hot]; exact this
      · by_cases hot : o = u
        · rw [hot] at q; exact absurd q (hp u hu)
        · rw [if_neg hot]; exact (a3 o ho).2 q
    · rw [if_neg hut]
      refine ⟨a1, a2, fun o ho => ⟨fun q => ?_, fun q => ?_⟩⟩
      · have := (a3 o ho).1 q
        by_cases hot : o = t
        · rw [if_pos hot]; rw [hot] at this; omega
        · rw [if_neg hot]; exact this
      · by_cases hot : o = t
        · rw [hot] at q; exact absurd q (hp u hu)
        · rw [if_neg hot]; exact (a3 o ho).2 q) (by
    intro u hu
    have := hg u hu
    dsimp only
    by_cases hut : u = t
    · subst hut; rw [if_pos rfl]; omega
    · rw [if_neg hut]; exact this) t ht
  have k2 := key.2
  rw [if_pos rfl] at k2
  have := (hs t ht).1
  omega
theorem LeaT.one (H : LeaT n on off th fr pa B C b f) (H' : LeaT n on off th fr pa B C b' f') : ∀ t, t < n → b t = b' t ∧ f t = f' t := by
  intro t ht
  have h1 := H.2.2 b' f' H'.1 H'.2.1 t ht
  have h2 := H'.2.2 b f H.1 H.2.1 t ht
  omega
/-- where the search for a way ended: all that was not reached can go down by one -/
theorem next_len (Sol : SolT n on off th fr pa b f) (hg : GeB n (fun _ => 0) (fun _ => 0) b f) (hon : ∀ t, t < n → 0 ≤ on t) {rk : Nat → Nat} {M : Nat} (hrk : ∀ t o, t < n → o < n → fr t o → rk o < rk t) (hM : ∀ t, t < n → rk t < M) {len : Int} {R : Nat → Bool}
    (hroot : ∀ t, t < n → (∀ o, o < n → ¬ fr t o) → b t = 0 → R (2 * t) = true)
    (h1 : ∀ t, t < n → R (2 * t) = true → b t + on t = f t → R (2 * t + 1) = true)
    (h2 : ∀ t, t < n → R (2 * t + 1) = true → 0 < th t → b t + off t = f t → R (2 * t) = true)
    (h3 : ∀ t o, t < n → o < n → fr t o → R (2 * o + 1) = true → b t = f o → R (2 * t) = true)
    (h4 : ∀ t o, t < n → o < n → 0 < pa o t → R (2 * t) = true → f o = b t → R (2 * o + 1) = true)
    (hterm : ∀ t, t < n → R (2 * t + 1) = true → f t = len → ∃ u, u < n ∧ fr u t) (hlen : ∀ t, t < n → f t ≤ len) :
    SolT n on off th fr pa (fun t => if R (2 * t) then b t else b t - 1) (fun t => if R (2 * t + 1) then f t else f t - 1) ∧ GeB n (fun _ => 0) (fun _ => 0) (fun t => if R (2 * t) then b t else b t - 1) (fun t => if R (2 * t + 1) then f t else f t - 1) ∧ ∀ t, t < n → (if R (2 * t + 1) then f t else f t - 1) ≤ len - 1 := by
  have z0 : ∀ k t, t < n → rk t ≤ k → b t = 0 → R (2 * t) = true := by
    intro k
    induction k with
    | zero =>
      intro t ht hk hb
      exact hroot t ht (fun o ho q => by have := hrk t o ht ho q; omega) hb
    | succ k ih =>
      intro t ht hk hb
      by_cases hno : ∀ o, o < n → ¬ fr t o
      · exact hroot t ht hno hb
      · obtain ⟨o, ho, hf⟩ : ∃ o, o < n ∧ fr t o := Classical.byContradiction (fun q => hno (fun o ho hf => q ⟨o, ho, hf⟩))
        have a1 := ((Sol t ht).2.2 o ho).1 hf
        have a2 := (Sol o ho).1
        have a3 := hon o ho
        have a4 : 0 ≤ b o := (hg o ho).1
        have r1 := ih o ho (by have := hrk t o ht ho hf; omega) (by omega)
        have r2 := h1 o ho r1 (by omega)
        exact h3 t o ht ho hf r2 (by omega)
  have z1 : ∀ t, t < n → b t = 0 → R (2 * t) = true := fun t ht hb => z0 (rk t) t ht (Nat.le_refl _) hb
  have z2 : ∀ t, t < n → f t = 0 → R (2 * t + 1) = true := fun t ht hf => by
    have a2 := (Sol t ht).1
    have a3 := hon t ht
    have a4 : 0 ≤ b t := (hg t ht).1
    exact h1 t ht (z1 t ht (by omega)) (by omega)
  have z3 : ∀ k t, t < n → M ≤ rk t + k → R (2 * t + 1) = true → f t = len → False := by
    intro k
    induction k with
    | zero => intro t ht hk _ _; have := hM t ht; omega
    | succ k ih =>
      intro t ht hk hR hf
      obtain ⟨u, hu, hfu⟩ := hterm t ht hR hf
      have a1 := ((Sol u hu).2.2 t ht).1 hfu
      have a2 := (Sol u hu).1
      have a3 := hon u hu
      have a4 := hlen u hu
      have r1 := h3 u t hu ht hfu hR (by omega)
      have r2 := h1 u hu r1 (by omega)
      exact ih u hu (by have := hrk u t hu ht hfu; omega) r2 (by omega)
  refine ⟨?_, ?_, ?_⟩
  · intro t ht
    obtain ⟨a1, a2, a3⟩ := Sol t ht
    dsimp only
    refine ⟨?_, fun q => ?_, fun o ho => ⟨fun q => ?_, fun q => ?_⟩⟩
    · cases r1 : R (2 * t) with
      | true =>
        cases r2 : R (2 * t + 1) with
        | true => simpa using a1
        | false =>
          have : ¬ b t + on t = f t := fun z => by have := h1 t ht r1 z; rw [r2] at this; exact absurd this (by decide)
          simp; omega
      | false => cases r2 : R (2 * t + 1) <;> simp <;> omega
    · have a2 := a2 q
      cases r1 : R (2 * t + 1) with
      | true =>
        cases r2 : R (2 * t) with
        | true => simpa using a2
        | false =>
          have : ¬ b t + off t = f t := fun z => by have := h2 t ht r1 q z; rw [r2] at this; exact absurd this (by decide)
          simp; omega
      | false => cases r2 : R (2 * t) <;> simp <;> omega
    · have a2 := (a3 o ho).1 q
      cases r1 : R (2 * o + 1) with
      | true =>
        cases r2 : R (2 * t) with
        | true => simpa using a2
        | false =>
          have : ¬ b t = f o := fun z => by have := h3 t o ht ho q r1 z; rw [r2] at this; exact absurd this (by decide)
          simp; omega
      | false => cases r2 : R (2 * t) <;> simp <;> omega
    · have a2 := (a3 o ho).2 q
      cases r1 : R (2 * t) with
      | true =>
        cases r2 : R (2 * o + 1) with
        | true => simpa using a2
        | false =>
          have : ¬ f o = b t := fun z => by have := h4 t o ht ho q r1 z; rw [r2] at this; exact absurd this (by decide)
          simp; omega
      | false => cases r2 : R (2 * o + 1) <;> simp <;> omega
  · intro t ht
    have a : 0 ≤ b t ∧ 0 ≤ f t := hg t ht
    have b1 := z1 t ht
    have b2 := z2 t ht
    dsimp only
    constructor
    · cases r1 : R (2 * t) with
      | true => simpa using a.1
      | false =>
        have : ¬ b t = 0 := fun z => by have := b1 z; rw [r1] at this; exact absurd this (by decide)
        simp; omega
    · cases r1 : R (2 * t + 1) with
      | true => simpa using a.2
      | false =>
        have : ¬ f t = 0 := fun z => by have := b2 z; rw [r1] at this; exact absurd this (by decide)
        simp; omega
  · intro t ht
    have a := hlen t ht
    cases r1 : R (2 * t + 1) with
    | true =>
      have : ¬ f t = len := fun z => z3 M t ht (by omega) r1 z
      simp; omega
    | false => simp; omega
end LEA
