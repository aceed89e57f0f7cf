/-! flows are dual to plans: what a flow says of every plan's cost -/
theorem sT_mulr (g : Nat → Int) (c : Int) : ∀ n : Nat, sT (fun k => g k * c) n = sT g n * c
  | 0 => by simp [sT]
  | n + 1 => by rw [sT, sT, sT_mulr g c n, Int.add_mul]
theorem sT_sub (f g : Nat → Int) : ∀ n : Nat, sT (fun k => f k - g k) n = sT f n - sT g n
  | 0 => by simp [sT]
  | n + 1 => by rw [sT, sT, sT, sT_sub f g n]; omega
theorem sT_swap (g : Nat → Nat → Int) (m : Nat) : ∀ n : Nat, sT (fun a => sT (fun b => g a b) n) m = sT (fun b => sT (fun a => g a b) m) n
  | 0 => by simp only [sT]; exact sT_zero m
  | n + 1 => by
    have : sT (fun a => sT (fun b => g a b) (n + 1)) m = sT (fun a => sT (fun b => g a b) n + g a n) m := rfl
    rw [this, sT_add, sT_swap g m n, sT]
theorem sT_pos_zero {f : Nat → Int} : ∀ {n : Nat}, (∀ k, k < n → 0 ≤ f k) → sT f n = 0 → ∀ k, k < n → f k = 0 := by
  intro n h h0 k hk
  have a := sT_part (n := n) h hk
  have b := h k hk
  omega
section DUAL
variable {n : Nat} {th ou inn : Nat → Int} {pa : Nat → Nat → Int} {b f : Nat → Int}
theorem flow_sum (hend : ∀ t, t < n → th t = ou t + sT (fun u => pa t u) n) (hbeg : ∀ t, t < n → th t = inn t + sT (fun o => pa o t) n) :
    sT (fun t => th t * (f t - b t)) n = sT (fun t => ou t * f t) n - sT (fun t => inn t * b t) n + sT (fun t => sT (fun u => pa t u * (f t - b u)) n) n := by
  have e1 : ∀ t, t < n → th t * (f t - b t) = (ou t * f t + sT (fun u => pa t u) n * f t) - (inn t * b t + sT (fun o => pa o t) n * b t) := by
    intro t ht
    rw [Int.mul_sub, ← Int.add_mul, ← Int.add_mul, ← hend t ht, ← hbeg t ht]
  have e2 : ∀ t, t < n → sT (fun u => pa t u * (f t - b u)) n = sT (fun u => pa t u) n * f t - sT (fun u => pa t u * b u) n := by
    intro t _
    rw [← sT_mulr, ← sT_sub]
    exact sT_congr (fun u _ => Int.mul_sub _ _ _)
  have e3 : sT (fun t => sT (fun u => pa t u * b u) n) n = sT (fun u => sT (fun o => pa o u) n * b u) n := by
    rw [sT_swap]
    exact sT_congr (fun u _ => sT_mulr (fun o => pa o u) (b u) n)
  rw [sT_congr e1, sT_congr e2, sT_sub, sT_add, sT_add, sT_sub, e3]
  omega
variable {T : Int} {c : Nat → Int → Int} {mn : Nat → Int}
/-- how much a plan costs above what the flow says: four kinds of slack -/
theorem slack_sum (hend : ∀ t, t < n → th t = ou t + sT (fun u => pa t u) n) (hbeg : ∀ t, t < n → th t = inn t + sT (fun o => pa o t) n) :
    Cost n c b f - (sT mn n - sT ou n * T) = sT (fun t => c t (f t - b t) + th t * (f t - b t) - mn t) n + sT (fun t => ou t * (T - f t)) n + sT (fun t => inn t * b t) n + sT (fun t => sT (fun u => pa t u * (b u - f t)) n) n := by
  have h1 := flow_sum (b := b) (f := f) hend hbeg
  have h2 : sT (fun t => c t (f t - b t) + th t * (f t - b t) - mn t) n = Cost n c b f + sT (fun t => th t * (f t - b t)) n - sT mn n := by
    rw [sT_sub, sT_add]; rfl
  have h3 : sT (fun t => ou t * (T - f t)) n = sT ou n * T - sT (fun t => ou t * f t) n := by
    rw [← sT_mulr, ← sT_sub]
    exact sT_congr (fun t _ => Int.mul_sub _ _ _)
  have h4 : sT (fun t => sT (fun u => pa t u * (b u - f t)) n) n = - sT (fun t => sT (fun u => pa t u * (f t - b u)) n) n := by
    have h5 : sT (fun t => sT (fun u => pa t u * (b u - f t)) n) n + sT (fun t => sT (fun u => pa t u * (f t - b u)) n) n = 0 := by
      rw [← sT_add]
      have : ∀ t, t < n → (sT (fun u => pa t u * (b u - f t)) n + sT (fun u => pa t u * (f t - b u)) n) = 0 := by
        intro t _
        rw [← sT_add]
        have h6 : ∀ u, u < n → pa t u * (b u - f t) + pa t u * (f t - b u) = 0 := by
          intro u _
          rw [← Int.mul_add, show b u - f t + (f t - b u) = 0 by omega, Int.mul_zero]
        rw [sT_congr h6, sT_zero]
      rw [sT_congr this, sT_zero]
    omega
  rw [h2, h3, h4, h1]
  omega
variable {e h : Nat → Int} {fo : Nat → Nat → Prop}
/-- a flow: nothing below 0, what goes in comes out, only along pairs that follow -/
def Flow (n : Nat) (fo : Nat → Nat → Prop) (th ou inn : Nat → Int) (pa : Nat → Nat → Int) : Prop :=
  (∀ t, t < n → 0 ≤ th t ∧ 0 ≤ ou t ∧ 0 ≤ inn t ∧ th t = ou t + sT (fun u => pa t u) n ∧ th t = inn t + sT (fun o => pa o t) n) ∧ ∀ o t, o < n → t < n → 0 ≤ pa o t ∧ (pa o t ≠ 0 → fo t o)
/-- mn is the least of what a span costs together with its flow -/
def Least (n : Nat) (e h : Nat → Int) (c : Nat → Int → Int) (th mn : Nat → Int) : Prop := ∀ t, t < n → ∀ x, h t ≤ x → x ≤ e t → mn t ≤ c t x + th t * x
theorem slack_nonneg (F : Flow n fo th ou inn pa) (L : Least n e h c th mn) (P : Pl n e h fo b f) (hT : Len n T f) :
    0 ≤ sT (fun t => c t (f t - b t) + th t * (f t - b t) - mn t) n ∧ 0 ≤ sT (fun t => ou t * (T - f t)) n ∧ 0 ≤ sT (fun t => inn t * b t) n ∧ 0 ≤ sT (fun t => sT (fun u => pa t u * (b u - f t)) n) n := by
  refine ⟨sT_nonneg (fun t ht => ?_), sT_nonneg (fun t ht => ?_), sT_nonneg (fun t ht => ?_), sT_nonneg (fun t ht => sT_nonneg (fun u hu => ?_))⟩
  · obtain ⟨a1, a2, a3, a4⟩ := P t ht
    have := L t ht _ a2 a3
    omega
  · exact Int.mul_nonneg (F.1 t ht).2.1 (by have := hT t ht; omega)
  · exact Int.mul_nonneg (F.1 t ht).2.2.1 (P t ht).1
  · by_cases hz : pa t u = 0
    · rw [hz, Int.zero_mul]; exact Int.le_refl _
    · have := (P u hu).2.2.2 t ht ((F.2 t u ht hu).2 hz)
      exact Int.mul_nonneg (F.2 t u ht hu).1 (by omega)
/-- no plan is cheaper than a flow says -/
theorem dual_le (F : Flow n fo th ou inn pa) (L : Least n e h c th mn) (P : Pl n e h fo b f) (hT : Len n T f) : sT mn n - sT ou n * T ≤ Cost n c b f := by
  have h1 := slack_sum (b := b) (f := f) (T := T) (c := c) (mn := mn) (fun t ht => (F.1 t ht).2.2.2.1) (fun t ht => (F.1 t ht).2.2.2.2)
  have h2 := slack_nonneg F L P hT
  omega
/-- a plan without slack -/
def Tight (n : Nat) (c : Nat → Int → Int) (T : Int) (th ou inn mn : Nat → Int) (pa : Nat → Nat → Int) (b f : Nat → Int) : Prop :=
  (∀ t, t < n → c t (f t - b t) + th t * (f t - b t) = mn t ∧ (ou t ≠ 0 → f t = T) ∧ (inn t ≠ 0 → b t = 0)) ∧ ∀ o t, o < n → t < n → pa o t ≠ 0 → f o = b t
theorem tight_cost (F : Flow n fo th ou inn pa) (G : Tight n c T th ou inn mn pa b f) : Cost n c b f = sT mn n - sT ou n * T := by
  have h1 := slack_sum (b := b) (f := f) (T := T) (c := c) (mn := mn) (fun t ht => (F.1 t ht).2.2.2.1) (fun t ht => (F.1 t ht).2.2.2.2)
  have z1 : ∀ t, t < n → c t (f t - b t) + th t * (f t - b t) - mn t = 0 := fun t ht => by have := (G.1 t ht).1; omega
  have z2 : ∀ t, t < n → ou t * (T - f t) = 0 := fun t ht => by
    by_cases hz : ou t = 0
    · rw [hz, Int.zero_mul]
    · rw [(G.1 t ht).2.1 hz, Int.sub_self, Int.mul_zero]
  have z3 : ∀ t, t < n → inn t * b t = 0 := fun t ht => by
    by_cases hz : inn t = 0
    · rw [hz, Int.zero_mul]
    · rw [(G.1 t ht).2.2 hz, Int.mul_zero]
  have z4 : ∀ t, t < n → sT (fun u => pa t u * (b u - f t)) n = 0 := fun t ht => by
    have : ∀ u, u < n → pa t u * (b u - f t) = 0 := fun u hu => by
      by_cases hz : pa t u = 0
      · rw [hz, Int.zero_mul]
      · rw [G.2 t u ht hu hz, Int.sub_self, Int.mul_zero]
    rw [sT_congr this, sT_zero]
  rw [sT_congr z1, sT_congr z2, sT_congr z3, sT_congr z4, sT_zero] at h1
  omega
/-- a plan without slack is a cheapest one -/
theorem tight_opt (F : Flow n fo th ou inn pa) (L : Least n e h c th mn) (P : Pl n e h fo b f) (hT : Len n T f) (G : Tight n c T th ou inn mn pa b f) : Opt n e h c fo T b f := by
  refine ⟨P, hT, fun b' f' P' hT' => ?_⟩
  rw [tight_cost F G]
  exact dual_le F L P' hT'
/-- and then every cheapest plan has no slack -/
theorem opt_tight (F : Flow n fo th ou inn pa) (L : Least n e h c th mn) (P : Pl n e h fo b f) (hT : Len n T f) (G : Tight n c T th ou inn mn pa b f) {b' f' : Nat → Int} (O : Opt n e h c fo T b' f') : Tight n c T th ou inn mn pa b' f' := by
  have hc : Cost n c b' f' = sT mn n - sT ou n * T := by
    rw [← tight_cost F G]
    exact O.one (tight_opt F L P hT G)
  have h1 := slack_sum (b := b') (f := f') (T := T) (c := c) (mn := mn) (fun t ht => (F.1 t ht).2.2.2.1) (fun t ht => (F.1 t ht).2.2.2.2)
  obtain ⟨g1, g2, g3, g4⟩ := slack_nonneg F L O.1 O.2.1
  have k1 : sT (fun t => c t (f' t - b' t) + th t * (f' t - b' t) - mn t) n = 0 := by omega
  have k2 : sT (fun t => ou t * (T - f' t)) n = 0 := by omega
  have k3 : sT (fun t => inn t * b' t) n = 0 := by omega
  have k4 : sT (fun t => sT (fun u => pa t u * (b' u - f' t)) n) n = 0 := by omega
  have m1 := sT_pos_zero (fun t ht => by
    obtain ⟨a1, a2, a3, a4⟩ := O.1 t ht
    have := L t ht _ a2 a3
    show 0 ≤ c t (f' t - b' t) + th t * (f' t - b' t) - mn t
    omega) k1
  have m2 := sT_pos_zero (fun t ht => Int.mul_nonneg (F.1 t ht).2.1 (by have := O.2.1 t ht; omega)) k2
  have m3 := sT_pos_zero (fun t ht => Int.mul_nonneg (F.1 t ht).2.2.1 (O.1 t ht).1) k3
  have p4 : ∀ t, t < n → ∀ u, u < n → 0 ≤ pa t u * (b' u - f' t) := fun t ht u hu => by
    by_cases hz : pa t u = 0
    · rw [hz, Int.zero_mul]; exact Int.le_refl _
    · have := (O.1 u hu).2.2.2 t ht ((F.2 t u ht hu).2 hz)
      exact Int.mul_nonneg (F.2 t u ht hu).1 (by omega)
  have m4 := sT_pos_zero (fun t ht => sT_nonneg (p4 t ht)) k4
  refine ⟨fun t ht => ⟨by have := m1 t ht; omega, fun hz => ?_, fun hz => ?_⟩, fun o t ho ht hz => ?_⟩
  · rcases Int.mul_eq_zero.mp (m2 t ht) with q | q
    · exact absurd q hz
    · omega
  · rcases Int.mul_eq_zero.mp (m3 t ht) with q | q
    · exact absurd q hz
    · exact q
  · have m5 := sT_pos_zero (p4 o ho) (m4 o ho) t ht
    rcases Int.mul_eq_zero.mp m5 with q | q
    · exact absurd q hz
    · omega
end DUAL
