/-! cheapest plans, and how a step of one leads to them -/
theorem Pl.congr {n : Nat} {e h : Nat → Int} {fo : Nat → Nat → Prop} {b f b' f' : Nat → Int} (H : Pl n e h fo b f) (hb : ∀ t, t < n → b t = b' t) (hf : ∀ t, t < n → f t = f' t) : Pl n e h fo b' f' := by
  intro t ht
  obtain ⟨a1, a2, a3, a4⟩ := H t ht
  rw [← hb t ht, ← hf t ht]
  exact ⟨a1, a2, a3, fun o ho h => by rw [← hf o ho]; exact a4 o ho h⟩
theorem Len.congr {n : Nat} {T : Int} {f f' : Nat → Int} (H : Len n T f) (hf : ∀ t, t < n → f t = f' t) : Len n T f' := fun t ht => by rw [← hf t ht]; exact H t ht
theorem Cost.congr {n : Nat} {c : Nat → Int → Int} {b f b' f' : Nat → Int} (hb : ∀ t, t < n → b t = b' t) (hf : ∀ t, t < n → f t = f' t) : Cost n c b f = Cost n c b' f' := sT_congr (fun t ht => by show c t (f t - b t) = c t (f' t - b' t); rw [hb t ht, hf t ht])
/-- a plan that is as cheap as any that is not longer than T -/
def Opt (n : Nat) (e h : Nat → Int) (c : Nat → Int → Int) (fo : Nat → Nat → Prop) (T : Int) (b f : Nat → Int) : Prop :=
  Pl n e h fo b f ∧ Len n T f ∧ ∀ b' f', Pl n e h fo b' f' → Len n T f' → Cost n c b f ≤ Cost n c b' f'
/-- THE PLAN: of all these the one with the least moments -/
def ThePlan (n : Nat) (e h : Nat → Int) (c : Nat → Int → Int) (fo : Nat → Nat → Prop) (T : Int) (b f : Nat → Int) : Prop :=
  Opt n e h c fo T b f ∧ ∀ b' f', Opt n e h c fo T b' f' → ∀ t, t < n → b t ≤ b' t ∧ f t ≤ f' t
theorem ThePlan.one {n : Nat} {e h : Nat → Int} {c : Nat → Int → Int} {fo : Nat → Nat → Prop} {T : Int} {b f b' f' : Nat → Int} (H : ThePlan n e h c fo T b f) (H' : ThePlan n e h c fo T b' f') : ∀ t, t < n → b t = b' t ∧ f t = f' t := by
  intro t ht
  have h1 := H.2 b' f' H'.1 t ht
  have h2 := H'.2 b f H.1 t ht
  omega
theorem Opt.one {n : Nat} {e h : Nat → Int} {c : Nat → Int → Int} {fo : Nat → Nat → Prop} {T : Int} {b f b' f' : Nat → Int} (H : Opt n e h c fo T b f) (H' : Opt n e h c fo T b' f') : Cost n c b f = Cost n c b' f' := by
  have h1 := H.2.2 b' f' H'.1 H'.2.1
  have h2 := H'.2.2 b f H.1 H.2.1
  omega
/-- a set of moments goes up by one -/
def up1 (x : Nat → Int) (X : Nat → Bool) : Nat → Int := fun t => x t + (if X t then 1 else 0)
def dn1 (x : Nat → Int) (X : Nat → Bool) : Nat → Int := fun t => x t - (if X t then 1 else 0)
section STEPS
variable {n : Nat} {e h : Nat → Int} {c : Nat → Int → Int} {fo : Nat → Nat → Prop} {T : Int}
/-- the least of the cheapest steps up doesn't pass THE PLAN -/
theorem up_le (hc : ∀ t, t < n → Cvx (c t) (h t) (e t)) {b f b' f' : Nat → Int} (H' : ThePlan n e h c fo T b' f') (hle : ∀ t, t < n → b t ≤ b' t ∧ f t ≤ f' t) {X Y : Nat → Bool}
    (hp : Pl n e h fo (up1 b X) (up1 f Y))
    (hl : ∀ X' Y' : Nat → Bool, Pl n e h fo (up1 b X') (up1 f Y') → Len n T (up1 f Y') → Cost n c (up1 b X') (up1 f Y') ≤ Cost n c (up1 b X) (up1 f Y) → ∀ t, t < n → (X t = true → X' t = true) ∧ (Y t = true → Y' t = true)) (hT : Len n T (up1 f Y)) :
    ∀ t, t < n → up1 b X t ≤ b' t ∧ up1 f Y t ≤ f' t := by
  have hmin := Pl.inf hp H'.1.1
  have hmax := Pl.sup hp H'.1.1
  have hlat := Cost.lat hc hp H'.1.1
  have hT' : Len n T (fun t => max (up1 f Y t) (f' t)) := fun t ht => by
    have h1 := hT t ht
    have h2 := H'.1.2.1 t ht
    show max _ _ ≤ T
    omega
  have hge := H'.1.2.2 _ _ hmax hT'
  have e1 : ∀ t, t < n → min (up1 b X t) (b' t) = up1 b (fun t => X t && decide (b t < b' t)) t := by
    intro t ht
    have h1 := (hle t ht).1
    simp only [up1]
    by_cases hx : X t = true
    · by_cases hb : b t < b' t
      · simp [hx, hb]; omega
      · simp [hx, hb]; omega
    · simp [hx]; omega
  have e2 : ∀ t, t < n → min (up1 f Y t) (f' t) = up1 f (fun t => Y t && decide (f t < f' t)) t := by
    intro t ht
    have h1 := (hle t ht).2
    simp only [up1]
    by_cases hx : Y t = true
    · by_cases hb : f t < f' t
      · simp [hx, hb]; omega
      · simp [hx, hb]; omega
    · simp [hx]; omega
  have hp2 := hmin.congr e1 e2
  have hT2 : Len n T (up1 f (fun t => Y t && decide (f t < f' t))) := fun t ht => by
    rw [← e2 t ht]
    have := hT t ht
    omega
  have hc2 := Cost.congr (c := c) e1 e2
  have key := hl _ _ hp2 hT2 (by omega)
  intro t ht
  have h1 := (hle t ht).1
  have h2 := (hle t ht).2
  have k := key t ht
  simp only [up1]
  constructor
  · by_cases hx : X t = true
    · have := k.1 hx
      simp [hx] at this
      simp [hx]; omega
    · simp [hx]; omega
  · by_cases hx : Y t = true
    · have := k.2 hx
      simp [hx] at this
      simp [hx]; omega
    · simp [hx]; omega
/-- a greatest value below n -/
theorem max_below (g : Nat → Int) : ∀ n : Nat, 0 < n → ∃ t, t < n ∧ ∀ k, k < n → g k ≤ g t
  | 0, h => absurd h (by omega)
  | 1, _ => ⟨0, by omega, fun k hk => by rw [show k = 0 by omega]; exact Int.le_refl _⟩
  | n + 2, _ => by
    obtain ⟨t, ht, h⟩ := max_below g (n + 1) (by omega)
    rcases Int.le_total (g (n + 1)) (g t) with q | q
    · refine ⟨t, by omega, fun k hk => ?_⟩
      rcases Nat.lt_or_ge k (n + 1) with z | z
      · exact h k z
      · rw [show k = n + 1 by omega]; exact q
    · refine ⟨n + 1, by omega, fun k hk => ?_⟩
      rcases Nat.lt_or_ge k (n + 1) with z | z
      · exact Int.le_trans (h k z) q
      · rw [show k = n + 1 by omega]; exact Int.le_refl _
/-- where no step up is cheaper, THE PLAN is reached -/
theorem up_end (hc : ∀ t, t < n → Cvx (c t) (h t) (e t)) {b f b' f' : Nat → Int} (hp : Pl n e h fo b f) (H' : ThePlan n e h c fo T b' f') (hle : ∀ t, t < n → b t ≤ b' t ∧ f t ≤ f' t)
    (hl : ∀ X' Y' : Nat → Bool, Pl n e h fo (up1 b X') (up1 f Y') → Len n T (up1 f Y') → Cost n c b f ≤ Cost n c (up1 b X') (up1 f Y')) :
    ∀ t, t < n → b t = b' t ∧ f t = f' t := by
  rcases Nat.eq_zero_or_pos n with h0 | h0
  · intro t ht; omega
  obtain ⟨m, hm, hmax⟩ := max_below (fun t => max (b' t - b t) (f' t - f t)) n h0
  have hm' := hle m hm
  generalize hα : max (b' m - b m) (f' m - f m) = α at hmax
  rcases Int.lt_or_le α 1 with hz | hz
  · intro t ht
    have h1 := hmax t ht
    have h2 := hle t ht
    have h3 : max (b' t - b t) (f' t - f t) ≤ α := h1
    omega
  · exfalso
    have hall : ∀ t, t < n → b' t - b t ≤ α ∧ f' t - f t ≤ α := fun t ht => by
      have h3 : max (b' t - b t) (f' t - f t) ≤ α := hmax t ht
      omega
    have hs := Pl.shift (α - 1) H'.1.1 hp
    have hsm := Pl.shiftm (d := α - 1) (by omega) H'.1.1 hp
    have hcs := Cost.shift (α - 1) hc H'.1.1 hp
    have e1 : ∀ t, t < n → max (b' t - (α - 1)) (b t) = up1 b (fun t => decide (b' t - b t = α)) t := by
      intro t ht
      have h2 := hle t ht
      have h3 := hall t ht
      simp only [up1]
      by_cases hx : b' t - b t = α
      · simp [hx]; omega
      · simp [hx]; omega
    have e2 : ∀ t, t < n → max (f' t - (α - 1)) (f t) = up1 f (fun t => decide (f' t - f t = α)) t := by
      intro t ht
      have h2 := hle t ht
      have h3 := hall t ht
      simp only [up1]
      by_cases hx : f' t - f t = α
      · simp [hx]; omega
      · simp [hx]; omega
    have hT2 : Len n T (up1 f (fun t => decide (f' t - f t = α))) := fun t ht => by
      rw [← e2 t ht]
      have h2 := hle t ht
      have h4 := H'.1.2.1 t ht
      omega
    have hge := hl _ _ (hs.congr e1 e2) hT2
    have hc2 := Cost.congr (c := c) e1 e2
    have hTm : Len n T (fun t => min (f' t) (f t + (α - 1))) := fun t ht => by
      have h4 := H'.1.2.1 t ht
      show min _ _ ≤ T
      omega
    have hopt : Opt n e h c fo T (fun t => min (b' t) (b t + (α - 1))) (fun t => min (f' t) (f t + (α - 1))) := by
      refine ⟨hsm, hTm, fun b2 f2 g1 g2 => ?_⟩
      have := H'.1.2.2 b2 f2 g1 g2
      omega
    have hlo := H'.2 _ _ hopt m hm
    have k1 : b' m ≤ min (b' m) (b m + (α - 1)) := hlo.1
    have k2 : f' m ≤ min (f' m) (f m + (α - 1)) := hlo.2
    omega
/-- one step down from a cheapest plan of length T + 1 reaches a cheapest one of length T -/
theorem down_one (hc : ∀ t, t < n → Cvx (c t) (h t) (e t)) {b f b' f' : Nat → Int} (H : Opt n e h c fo (T + 1) b f) (H' : Opt n e h c fo T b' f') :
    ∃ X Y : Nat → Bool, Pl n e h fo (dn1 b X) (dn1 f Y) ∧ Len n T (dn1 f Y) ∧ Cost n c (dn1 b X) (dn1 f Y) ≤ Cost n c b' f' := by
  have a1 := Pl.shiftm (d := 1) (by omega) H.1 H'.1
  have a2 := Pl.shift 1 H.1 H'.1
  have a3 := Cost.shift 1 hc H.1 H'.1
  have a4 := H.2.2 _ _ a1 (fun t ht => by
    have := H.2.1 t ht
    show min _ _ ≤ T + 1
    omega)
  have b1 := Pl.inf a2 H.1
  have b2 := Pl.sup a2 H.1
  have b3 := Cost.lat hc a2 H.1
  have b4 := H.2.2 _ _ b2 (fun t ht => by
    have h1 := H.2.1 t ht
    have h2 := H'.2.1 t ht
    show max (max _ _) _ ≤ T + 1
    omega)
  have e1 : ∀ t, t < n → min (max (b t - 1) (b' t)) (b t) = dn1 b (fun t => decide (b' t < b t)) t := by
    intro t ht
    simp only [dn1]
    by_cases hx : b' t < b t
    · simp [hx]; omega
    · simp [hx]; omega
  have e2 : ∀ t, t < n → min (max (f t - 1) (f' t)) (f t) = dn1 f (fun t => decide (f' t < f t)) t := by
    intro t ht
    simp only [dn1]
    by_cases hx : f' t < f t
    · simp [hx]; omega
    · simp [hx]; omega
  refine ⟨_, _, b1.congr e1 e2, fun t ht => ?_, ?_⟩
  · rw [← e2 t ht]
    have h1 := H.2.1 t ht
    have h2 := H'.2.1 t ht
    omega
  · rw [← Cost.congr (c := c) e1 e2]
    omega
end STEPS
