/-! plans: spans, costs, the lattice of plans -/
/-- the sum of the first n -/
def sT (f : Nat → Int) : Nat → Int
  | 0 => 0
  | n + 1 => sT f n + f n
theorem sT_congr {f g : Nat → Int} : ∀ {n : Nat}, (∀ k, k < n → f k = g k) → sT f n = sT g n
  | 0, _ => rfl
  | n + 1, h => by rw [sT, sT, sT_congr (fun k hk => h k (by omega)), h n (by omega)]
theorem sT_add (f g : Nat → Int) : ∀ n : Nat, sT (fun k => f k + g k) n = sT f n + sT g n
  | 0 => rfl
  | n + 1 => by rw [sT, sT, sT, sT_add f g n]; omega
theorem sT_le {f g : Nat → Int} : ∀ {n : Nat}, (∀ k, k < n → f k ≤ g k) → sT f n ≤ sT g n
  | 0, _ => Int.le_refl _
  | n + 1, h => by
    rw [sT, sT]
    have h1 := sT_le (n := n) (fun k hk => h k (by omega))
    have h2 := h n (by omega)
    omega
/-- a cost of a span that bends upward between h and e -/
def Cvx (c : Int → Int) (h e : Int) : Prop := ∀ x, h ≤ x - 1 → x + 1 ≤ e → 2 * c x ≤ c (x + 1) + c (x - 1)
/-- a step further out never falls by more -/
theorem Cvx.slope {c : Int → Int} {h e : Int} (H : Cvx c h e) : ∀ (n : Nat) (x : Int), h ≤ x → x + n + 1 ≤ e → c (x + 1) - c x ≤ c (x + n + 1) - c (x + n) := by
  intro n
  induction n with
  | zero => intro x _ _; simp
  | succ n ih =>
    intro x h1 h2
    have a := ih x h1 (by omega)
    have b := H (x + n + 1) (by omega) (by omega)
    have e1 : x + (n + 1 : Nat) + 1 = x + n + 1 + 1 := by omega
    have e2 : x + (n + 1 : Nat) = x + n + 1 := by omega
    have e3 : x + n + 1 - 1 = x + n := by omega
    rw [e1, e2]
    rw [e3] at b
    omega
/-- moving two spans towards each other by d costs nothing -/
theorem Cvx.near {c : Int → Int} {h e : Int} (H : Cvx c h e) : ∀ (d : Nat) (p s : Int), h ≤ p → s ≤ e → p + 2 * d ≤ s → c (p + d) + c (s - d) ≤ c p + c s := by
  intro d
  induction d with
  | zero => intro p s _ _ _; simp
  | succ d ih =>
    intro p s h1 h2 h3
    have a := ih p s h1 h2 (by omega)
    have b := H.slope (s - p - 2 * d - 1).toNat (p + d) (by omega) (by omega)
    have e0 : ((s - p - 2 * d - 1).toNat : Int) = s - p - 2 * d - 1 := by omega
    rw [e0] at b
    have e1 : p + ↑d + (s - p - 2 * ↑d - 1) + 1 = s - d := by omega
    have e2 : p + ↑d + (s - p - 2 * ↑d - 1) = s - d - 1 := by omega
    rw [e1, e2] at b
    have e3 : p + ((d + 1 : Nat) : Int) = p + d + 1 := by omega
    have e4 : s - ((d + 1 : Nat) : Int) = s - d - 1 := by omega
    rw [e3, e4]
    omega
theorem Cvx.four {c : Int → Int} {h e : Int} (H : Cvx c h e) {p q r s : Int} (hp : h ≤ p) (hs : s ≤ e) (h1 : p ≤ q) (h2 : p ≤ r) (h3 : q + r = p + s) : c q + c r ≤ c p + c s := by
  rcases Int.le_total q r with hq | hq
  · have a := H.near (q - p).toNat p s hp hs (by omega)
    rw [show p + ((q - p).toNat : Int) = q by omega, show s - ((q - p).toNat : Int) = r by omega] at a
    exact a
  · have a := H.near (r - p).toNat p s hp hs (by omega)
    rw [show p + ((r - p).toNat : Int) = r by omega, show s - ((r - p).toNat : Int) = q by omega] at a
    omega
/-- the spans of the lower and the upper plan -/
theorem Cvx.lat {c : Int → Int} {h e : Int} (H : Cvx c h e) {a0 a1 b0 b1 : Int} (ha : h ≤ a1 - a0) (ha2 : a1 - a0 ≤ e) (hb : h ≤ b1 - b0) (hb2 : b1 - b0 ≤ e) :
    c (min a1 b1 - min a0 b0) + c (max a1 b1 - max a0 b0) ≤ c (a1 - a0) + c (b1 - b0) := by
  rcases Int.le_total a0 b0 with h0 | h0 <;> rcases Int.le_total a1 b1 with h1 | h1
  · rw [Int.min_eq_left h1, Int.min_eq_left h0, Int.max_eq_right h1, Int.max_eq_right h0]; omega
  · rw [Int.min_eq_right h1, Int.min_eq_left h0, Int.max_eq_left h1, Int.max_eq_right h0]
    have := H.four (p := b1 - b0) (q := b1 - a0) (r := a1 - b0) (s := a1 - a0) hb ha2 (by omega) (by omega) (by omega)
    omega
  · rw [Int.min_eq_left h1, Int.min_eq_right h0, Int.max_eq_right h1, Int.max_eq_left h0]
    have := H.four (p := a1 - a0) (q := a1 - b0) (r := b1 - a0) (s := b1 - b0) ha hb2 (by omega) (by omega) (by omega)
    omega
  · rw [Int.min_eq_right h1, Int.min_eq_right h0, Int.max_eq_left h1, Int.max_eq_left h0]; omega
/-- tasks: how many, easy and hard spans, what a span costs, whom each follows -/
def Pl (n : Nat) (e h : Nat → Int) (fo : Nat → Nat → Prop) (b f : Nat → Int) : Prop :=
  ∀ t, t < n → 0 ≤ b t ∧ h t ≤ f t - b t ∧ f t - b t ≤ e t ∧ ∀ o, o < n → fo t o → f o ≤ b t
/-- not longer than T -/
def Len (n : Nat) (T : Int) (f : Nat → Int) : Prop := ∀ t, t < n → f t ≤ T
def Cost (n : Nat) (c : Nat → Int → Int) (b f : Nat → Int) : Int := sT (fun t => c t (f t - b t)) n
theorem Pl.inf {n : Nat} {e h : Nat → Int} {fo : Nat → Nat → Prop} {b f b' f' : Nat → Int} (H : Pl n e h fo b f) (H' : Pl n e h fo b' f') : Pl n e h fo (fun t => min (b t) (b' t)) (fun t => min (f t) (f' t)) := by
  intro t ht
  obtain ⟨a1, a2, a3, a4⟩ := H t ht
  obtain ⟨c1, c2, c3, c4⟩ := H' t ht
  dsimp only
  refine ⟨by omega, by omega, by omega, fun o ho hf => ?_⟩
  have := a4 o ho hf
  have := c4 o ho hf
  omega
theorem Pl.sup {n : Nat} {e h : Nat → Int} {fo : Nat → Nat → Prop} {b f b' f' : Nat → Int} (H : Pl n e h fo b f) (H' : Pl n e h fo b' f') : Pl n e h fo (fun t => max (b t) (b' t)) (fun t => max (f t) (f' t)) := by
  intro t ht
  obtain ⟨a1, a2, a3, a4⟩ := H t ht
  obtain ⟨c1, c2, c3, c4⟩ := H' t ht
  dsimp only
  refine ⟨by omega, by omega, by omega, fun o ho hf => ?_⟩
  have := a4 o ho hf
  have := c4 o ho hf
  omega
theorem Cost.lat {n : Nat} {e h : Nat → Int} {c : Nat → Int → Int} {fo : Nat → Nat → Prop} {b f b' f' : Nat → Int} (hc : ∀ t, t < n → Cvx (c t) (h t) (e t)) (H : Pl n e h fo b f) (H' : Pl n e h fo b' f') :
    Cost n c (fun t => min (b t) (b' t)) (fun t => min (f t) (f' t)) + Cost n c (fun t => max (b t) (b' t)) (fun t => max (f t) (f' t)) ≤ Cost n c b f + Cost n c b' f' := by
  unfold Cost
  rw [← sT_add, ← sT_add]
  refine sT_le (fun t ht => ?_)
  obtain ⟨a1, a2, a3, a4⟩ := H t ht
  obtain ⟨c1, c2, c3, c4⟩ := H' t ht
  exact (hc t ht).lat a2 a3 c2 c3
/-- a plan moved by d, cut off at another one from below: again a plan -/
theorem Pl.shift {n : Nat} {e h : Nat → Int} {fo : Nat → Nat → Prop} {b f b' f' : Nat → Int} (d : Int) (H : Pl n e h fo b f) (H' : Pl n e h fo b' f') : Pl n e h fo (fun t => max (b t - d) (b' t)) (fun t => max (f t - d) (f' t)) := by
  intro t ht
  obtain ⟨a1, a2, a3, a4⟩ := H t ht
  obtain ⟨c1, c2, c3, c4⟩ := H' t ht
  dsimp only
  refine ⟨by omega, by omega, by omega, fun o ho hf => ?_⟩
  have := a4 o ho hf
  have := c4 o ho hf
  omega
theorem Pl.shiftm {n : Nat} {e h : Nat → Int} {fo : Nat → Nat → Prop} {b f b' f' : Nat → Int} {d : Int} (hd : 0 ≤ d) (H : Pl n e h fo b f) (H' : Pl n e h fo b' f') : Pl n e h fo (fun t => min (b t) (b' t + d)) (fun t => min (f t) (f' t + d)) := by
  intro t ht
  obtain ⟨a1, a2, a3, a4⟩ := H t ht
  obtain ⟨c1, c2, c3, c4⟩ := H' t ht
  dsimp only
  refine ⟨by omega, by omega, by omega, fun o ho hf => ?_⟩
  have := a4 o ho hf
  have := c4 o ho hf
  omega
/-- the same with a shift -/
theorem Cost.shift {n : Nat} {e h : Nat → Int} {c : Nat → Int → Int} {fo : Nat → Nat → Prop} {b f b' f' : Nat → Int} (d : Int) (hc : ∀ t, t < n → Cvx (c t) (h t) (e t)) (H : Pl n e h fo b f) (H' : Pl n e h fo b' f') :
    Cost n c (fun t => min (b t) (b' t + d)) (fun t => min (f t) (f' t + d)) + Cost n c (fun t => max (b t - d) (b' t)) (fun t => max (f t - d) (f' t)) ≤ Cost n c b f + Cost n c b' f' := by
  unfold Cost
  rw [← sT_add, ← sT_add]
  refine sT_le (fun t ht => ?_)
  obtain ⟨a1, a2, a3, a4⟩ := H t ht
  obtain ⟨c1, c2, c3, c4⟩ := H' t ht
  have := (hc t ht).lat (a0 := b t - d) (a1 := f t - d) (b0 := b' t) (b1 := f' t) (by omega) (by omega) c2 c3
  have e1 : min (f t) (f' t + d) - min (b t) (b' t + d) = min (f t - d) (f' t) - min (b t - d) (b' t) := by omega
  have e2 : f t - d - (b t - d) = f t - b t := by omega
  rw [e2] at this
  show c t (min (f t) (f' t + d) - min (b t) (b' t + d)) + c t (max (f t - d) (f' t) - max (b t - d) (b' t)) ≤ _
  rw [e1]
  exact this
/-! cheapest plans, and how a step of one leads to them -/
theorem Pl.congr {n : Nat} {e h : Nat → Int} {fo : Nat → Nat → Prop} {b f b' f' : Nat → Int} (H : Pl n e h fo b f) (hb : ∀ t, t < n → b t = b' t) (hf : ∀ t, t < n → f t = f' t) : Pl n e h fo b' f' := by
  intro t ht
  obtain ⟨a1, a2, a3, a4⟩ := H t ht
  rw [← hb t ht, ← hf t ht]
  exact ⟨a1, a2, a3, fun o ho h => by rw [← hf o ho]; exact a4 o ho h⟩
theorem Len.congr {n : Nat} {T : Int} {f f' : Nat → Int} (H : Len n T f) (hf : ∀ t, t < n → f t = f' t) : Len n T f' := fun t ht => by rw [← hf t ht]; exact H t ht
theorem Cost.congr {n : Nat} {c : Nat → Int → Int} {b f b' f' : Nat → Int} (hb : ∀ t, t < n → b t = b' t) (hf : ∀ t, t < n → f t = f' t) : Cost n c b f = Cost n c b' f' := sT_congr (fun t ht => by show c t (f t - b t) = c t (f' t - b' t); rw [hb t ht, hf t ht])
/-- a plan that is as cheap as any that is not longer than T -/
def Opt (n : Nat) (e h : Nat → Int) (c : Nat → Int → Int) (fo : Nat → Nat → Prop) (T : Int) (b f : Nat → Int) : Prop :=
  Pl n e h fo b f ∧ Len n T f ∧ ∀ b' f', Pl n e h fo b' f' → Len n T f' → Cost n c b f ≤ Cost n c b' f'
/-- THE PLAN: of all these the one with the least moments -/
def ThePlan (n : Nat) (e h : Nat → Int) (c : Nat → Int → Int) (fo : Nat → Nat → Prop) (T : Int) (b f : Nat → Int) : Prop :=
  Opt n e h c fo T b f ∧ ∀ b' f', Opt n e h c fo T b' f' → ∀ t, t < n → b t ≤ b' t ∧ f t ≤ f' t
theorem ThePlan.one {n : Nat} {e h : Nat → Int} {c : Nat → Int → Int} {fo : Nat → Nat → Prop} {T : Int} {b f b' f' : Nat → Int} (H : ThePlan n e h c fo T b f) (H' : ThePlan n e h c fo T b' f') : ∀ t, t < n → b t = b' t ∧ f t = f' t := by
  intro t ht
  have h1 := H.2 b' f' H'.1 t ht
  have h2 := H'.2 b f H.1 t ht
  omega
theorem Opt.one {n : Nat} {e h : Nat → Int} {c : Nat → Int → Int} {fo : Nat → Nat → Prop} {T : Int} {b f b' f' : Nat → Int} (H : Opt n e h c fo T b f) (H' : Opt n e h c fo T b' f') : Cost n c b f = Cost n c b' f' := by
  have h1 := H.2.2 b' f' H'.1 H'.2.1
  have h2 := H'.2.2 b f H.1 H.2.1
  omega
/-- a set of moments goes up by one -/
def up1 (x : Nat → Int) (X : Nat → Bool) : Nat → Int := fun t => x t + (if X t then 1 else 0)
def dn1 (x : Nat → Int) (X : Nat → Bool) : Nat → Int := fun t => x t - (if X t then 1 else 0)
section STEPS
variable {n : Nat} {e h : Nat → Int} {c : Nat → Int → Int} {fo : Nat → Nat → Prop} {T : Int}
/-- the least of the cheapest steps up doesn't pass THE PLAN -/
theorem up_le (hc : ∀ t, t < n → Cvx (c t) (h t) (e t)) {b f b' f' : Nat → Int} (H' : ThePlan n e h c fo T b' f') (hle : ∀ t, t < n → b t ≤ b' t ∧ f t ≤ f' t) {X Y : Nat → Bool}
    (hp : Pl n e h fo (up1 b X) (up1 f Y))
    (hl : ∀ X' Y' : Nat → Bool, Pl n e h fo (up1 b X') (up1 f Y') → Len n T (up1 f Y') → Cost n c (up1 b X') (up1 f Y') ≤ Cost n c (up1 b X) (up1 f Y) → ∀ t, t < n → (X t = true → X' t = true) ∧ (Y t = true → Y' t = true)) (hT : Len n T (up1 f Y)) :
    ∀ t, t < n → up1 b X t ≤ b' t ∧ up1 f Y t ≤ f' t := by
  have hmin := Pl.inf hp H'.1.1
  have hmax := Pl.sup hp H'.1.1
  have hlat := Cost.lat hc hp H'.1.1
  have hT' : Len n T (fun t => max (up1 f Y t) (f' t)) := fun t ht => by
    have h1 := hT t ht
    have h2 := H'.1.2.1 t ht
    show max _ _ ≤ T
    omega
  have hge := H'.1.2.2 _ _ hmax hT'
  have e1 : ∀ t, t < n → min (up1 b X t) (b' t) = up1 b (fun t => X t && decide (b t < b' t)) t := by
    intro t ht
    have h1 := (hle t ht).1
    simp only [up1]
    by_cases hx : X t = true
    · by_cases hb : b t < b' t
      · simp [hx, hb]; omega
      · simp [hx, hb]; omega
    · simp [hx]; omega
  have e2 : ∀ t, t < n → min (up1 f Y t) (f' t) = up1 f (fun t => Y t && decide (f t < f' t)) t := by
    intro t ht
    have h1 := (hle t ht).2
    simp only [up1]
    by_cases hx : Y t = true
    · by_cases hb : f t < f' t
      · simp [hx, hb]; omega
      · simp [hx, hb]; omega
    · simp [hx]; omega
  have hp2 := hmin.congr e1 e2
  have hT2 : Len n T (up1 f (fun t => Y t && decide (f t < f' t))) := fun t ht => by
    rw [← e2 t ht]
    have := hT t ht
    omega
  have hc2 := Cost.congr (c := c) e1 e2
  have key := hl _ _ hp2 hT2 (by omega)
  intro t ht
  have h1 := (hle t ht).1
  have h2 := (hle t ht).2
  have k := key t ht
  simp only [up1]
  constructor
  · by_cases hx : X t = true
    · have := k.1 hx
      simp [hx] at this
      simp [hx]; omega
    · simp [hx]; omega
  · by_cases hx : Y t = true
    · have := k.2 hx
      simp [hx] at this
      simp [hx]; omega
    · simp [hx]; omega
/-- a greatest value below n -/
theorem max_below (g : Nat → Int) : ∀ n : Nat, 0 < n → ∃ t, t < n ∧ ∀ k, k < n → g k ≤ g t
  | 0, h => absurd h (by omega)
  | 1, _ => ⟨0, by omega, fun k hk => by rw [show k = 0 by omega]; exact Int.le_refl _⟩
  | n + 2, _ => by
    obtain ⟨t, ht, h⟩ := max_below g (n + 1) (by omega)
    rcases Int.le_total (g (n + 1)) (g t) with q | q
    · refine ⟨t, by omega, fun k hk => ?_⟩
      rcases Nat.lt_or_ge k (n + 1) with z | z
      · exact h k z
      · rw [show k = n + 1 by omega]; exact q
    · refine ⟨n + 1, by omega, fun k hk => ?_⟩
      rcases Nat.lt_or_ge k (n + 1) with z | z
      · exact Int.le_trans (h k z) q
      · rw [show k = n + 1 by omega]; exact Int.le_refl _
/-- where no step up is cheaper, THE PLAN is reached -/
theorem up_end (hc : ∀ t, t < n → Cvx (c t) (h t) (e t)) {b f b' f' : Nat → Int} (hp : Pl n e h fo b f) (H' : ThePlan n e h c fo T b' f') (hle : ∀ t, t < n → b t ≤ b' t ∧ f t ≤ f' t)
    (hl : ∀ X' Y' : Nat → Bool, Pl n e h fo (up1 b X') (up1 f Y') → Len n T (up1 f Y') → Cost n c b f ≤ Cost n c (up1 b X') (up1 f Y')) :
    ∀ t, t < n → b t = b' t ∧ f t = f' t := by
  rcases Nat.eq_zero_or_pos n with h0 | h0
  · intro t ht; omega
  obtain ⟨m, hm, hmax⟩ := max_below (fun t => max (b' t - b t) (f' t - f t)) n h0
  have hm' := hle m hm
  generalize hα : max (b' m - b m) (f' m - f m) = α at hmax
  rcases Int.lt_or_le α 1 with hz | hz
  · intro t ht
    have h1 := hmax t ht
    have h2 := hle t ht
    have h3 : max (b' t - b t) (f' t - f t) ≤ α := h1
    omega
  · exfalso
    have hall : ∀ t, t < n → b' t - b t ≤ α ∧ f' t - f t ≤ α := fun t ht => by
      have h3 : max (b' t - b t) (f' t - f t) ≤ α := hmax t ht
      omega
    have hs := Pl.shift (α - 1) H'.1.1 hp
    have hsm := Pl.shiftm (d := α - 1) (by omega) H'.1.1 hp
    have hcs := Cost.shift (α - 1) hc H'.1.1 hp
    have e1 : ∀ t, t < n → max (b' t - (α - 1)) (b t) = up1 b (fun t => decide (b' t - b t = α)) t := by
      intro t ht
      have h2 := hle t ht
      have h3 := hall t ht
      simp only [up1]
      by_cases hx : b' t - b t = α
      · simp [hx]; omega
      · simp [hx]; omega
    have e2 : ∀ t, t < n → max (f' t - (α - 1)) (f t) = up1 f (fun t => decide (f' t - f t = α)) t := by
      intro t ht
      have h2 := hle t ht
      have h3 := hall t ht
      simp only [up1]
      by_cases hx : f' t - f t = α
      · simp [hx]; omega
      · simp [hx]; omega
    have hT2 : Len n T (up1 f (fun t => decide (f' t - f t = α))) := fun t ht => by
      rw [← e2 t ht]
      have h2 := hle t ht
      have h4 := H'.1.2.1 t ht
      omega
    have hge := hl _ _ (hs.congr e1 e2) hT2
    have hc2 := Cost.congr (c := c) e1 e2
    have hTm : Len n T (fun t => min (f' t) (f t + (α - 1))) := fun t ht => by
      have h4 := H'.1.2.1 t ht
      show min _ _ ≤ T
      omega
    have hopt : Opt n e h c fo T (fun t => min (b' t) (b t + (α - 1))) (fun t => min (f' t) (f t + (α - 1))) := by
      refine ⟨hsm, hTm, fun b2 f2 g1 g2 => ?_⟩
      have := H'.1.2.2 b2 f2 g1 g2
      omega
    have hlo := H'.2 _ _ hopt m hm
    have k1 : b' m ≤ min (b' m) (b m + (α - 1)) := hlo.1
    have k2 : f' m ≤ min (f' m) (f m + (α - 1)) := hlo.2
    omega
/-- one step down from a cheapest plan of length T + 1 reaches a cheapest one of length T -/
theorem down_one (hc : ∀ t, t < n → Cvx (c t) (h t) (e t)) {b f b' f' : Nat → Int} (H : Opt n e h c fo (T + 1) b f) (H' : Opt n e h c fo T b' f') :
    ∃ X Y : Nat → Bool, Pl n e h fo (dn1 b X) (dn1 f Y) ∧ Len n T (dn1 f Y) ∧ Cost n c (dn1 b X) (dn1 f Y) ≤ Cost n c b' f' := by
  have a1 := Pl.shiftm (d := 1) (by omega) H.1 H'.1
  have a2 := Pl.shift 1 H.1 H'.1
  have a3 := Cost.shift 1 hc H.1 H'.1
  have a4 := H.2.2 _ _ a1 (fun t ht => by
    have := H.2.1 t ht
    show min _ _ ≤ T + 1
    omega)
  have b1 := Pl.inf a2 H.1
  have b2 := Pl.sup a2 H.1
  have b3 := Cost.lat hc a2 H.1
  have b4 := H.2.2 _ _ b2 (fun t ht => by
    have h1 := H.2.1 t ht
    have h2 := H'.2.1 t ht
    show max (max _ _) _ ≤ T + 1
    omega)
  have e1 : ∀ t, t < n → min (max (b t - 1) (b' t)) (b t) = dn1 b (fun t => decide (b' t < b t)) t := by
    intro t ht
    simp only [dn1]
    by_cases hx : b' t < b t
    · simp [hx]; omega
    · simp [hx]; omega
  have e2 : ∀ t, t < n → min (max (f t - 1) (f' t)) (f t) = dn1 f (fun t => decide (f' t < f t)) t := by
    intro t ht
    simp only [dn1]
    by_cases hx : f' t < f t
    · simp [hx]; omega
    · simp [hx]; omega
  refine ⟨_, _, b1.congr e1 e2, fun t ht => ?_, ?_⟩
  · rw [← e2 t ht]
    have h1 := H.2.1 t ht
    have h2 := H'.2.1 t ht
    omega
  · rw [← Cost.congr (c := c) e1 e2]
    omega
end STEPS
/-! cuts of a net of rooms, and what a push along a way changes -/
def bI (b : Bool) : Int := if b then 1 else 0
theorem bI_t : bI true = 1 := rfl
theorem bI_f : bI false = 0 := rfl
theorem sT_zero : ∀ n : Nat, sT (fun _ => 0) n = 0
  | 0 => rfl
  | n + 1 => by rw [sT, sT_zero n]; rfl
theorem sT_nonneg {f : Nat → Int} {n : Nat} (h : ∀ k, k < n → 0 ≤ f k) : 0 ≤ sT f n := by
  have := sT_le (f := fun _ => 0) (g := f) (n := n) h
  rw [sT_zero] at this
  exact this
theorem sT_part {f : Nat → Int} : ∀ {n : Nat}, (∀ k, k < n → 0 ≤ f k) → ∀ {i : Nat}, i < n → f i ≤ sT f n
  | 0, _, i, hi => absurd hi (by omega)
  | n + 1, h, i, hi => by
    rw [sT]
    have h0 := sT_nonneg (f := f) (n := n) (fun k hk => h k (by omega))
    have hn := h n (by omega)
    rcases Nat.lt_or_ge i n with q | q
    · have := sT_part (n := n) (fun k hk => h k (by omega)) q
      omega
    · rw [show i = n by omega]; omega
/-- one summand more -/
theorem sT_one (f : Nat → Int) (i : Nat) (d : Int) : ∀ n : Nat, sT (fun k => f k + (if k = i then d else 0)) n = sT f n + (if i < n then d else 0)
  | 0 => by simp [sT]
  | n + 1 => by
    rw [sT, sT, sT_one f i d n]
    rcases Nat.lt_trichotomy i n with q | q | q
    · rw [if_pos q, if_neg (by omega), if_pos (by omega)]; omega
    · subst q; rw [if_neg (by omega), if_pos rfl, if_pos (by omega)]; omega
    · rw [if_neg (by omega), if_neg (by omega), if_neg (by omega)]; omega
/-- what goes out of a set -/
def cutv (r : Nat → Nat → Int) (N : Nat) (Y : Nat → Bool) : Int := sT (fun a => sT (fun c => if Y a && !Y c then r a c else 0) N) N
/-- the room of one pair changes -/
def addE (r : Nat → Nat → Int) (u v : Nat) (d : Int) : Nat → Nat → Int := fun a c => r a c + (if a = u ∧ c = v then d else 0)
theorem cutv_addE {r : Nat → Nat → Int} {N u v : Nat} {d : Int} {Y : Nat → Bool} (hu : u < N) (hv : v < N) : cutv (addE r u v d) N Y = cutv r N Y + (if Y u && !Y v then d else 0) := by
  have h1 : ∀ a, sT (fun c => if Y a && !Y c then addE r u v d a c else 0) N = sT (fun c => if Y a && !Y c then r a c else 0) N + (if a = u then (if Y u && !Y v then d else 0) else 0) := by
    intro a
    by_cases ha : a = u
    · subst ha
      have e : ∀ c, c < N → (if Y a && !Y c then addE r a v d a c else 0) = (if Y a && !Y c then r a c else 0) + (if c = v then (if Y a && !Y v then d else 0) else 0) := by
        intro c _
        by_cases hc : c = v
        · subst hc
          simp only [addE, and_self, if_true]
          split <;> simp
        · simp only [addE, hc, and_false, if_false]
          simp
      rw [sT_congr e, sT_one, if_pos hv, if_pos rfl]
    · rw [if_neg ha]
      have e : ∀ c, c < N → (if Y a && !Y c then addE r u v d a c else 0) = (if Y a && !Y c then r a c else 0) := by
        intro c _
        simp only [addE, ha, false_and, if_false]
        simp
      rw [sT_congr e]; simp
  unfold cutv
  rw [sT_congr (fun a _ => h1 a), sT_one, if_pos hu]
/-- d goes from u to v -/
def pushE (r : Nat → Nat → Int) (u v : Nat) (d : Int) : Nat → Nat → Int := addE (addE r u v (-d)) v u d
theorem cutv_push {r : Nat → Nat → Int} {N u v : Nat} {d : Int} {Y : Nat → Bool} (hu : u < N) (hv : v < N) : cutv (pushE r u v d) N Y = cutv r N Y + d * (bI (Y v) - bI (Y u)) := by
  unfold pushE
  rw [cutv_addE hv hu, cutv_addE hu hv]
  cases Y u <;> cases Y v <;> simp [bI] <;> omega
theorem cutv_nonneg {r : Nat → Nat → Int} {N : Nat} {Y : Nat → Bool} (h : ∀ a c, a < N → c < N → 0 ≤ r a c) : 0 ≤ cutv r N Y := by
  refine sT_nonneg (fun a ha => sT_nonneg (fun c hc => ?_))
  have := h a c ha hc
  split <;> omega
/-- a room that leaves a set is in its cut -/
theorem cutv_ge {r : Nat → Nat → Int} {N : Nat} {Y : Nat → Bool} (h : ∀ a c, a < N → c < N → 0 ≤ r a c) {u v : Nat} (hu : u < N) (hv : v < N) (h1 : Y u = true) (h2 : Y v = false) : r u v ≤ cutv r N Y := by
  have hin : ∀ a, a < N → ∀ c, c < N → 0 ≤ (if Y a && !Y c then r a c else 0) := fun a ha c hc => by
    have := h a c ha hc
    split <;> omega
  have g1 := sT_part (n := N) (hin u hu) hv
  have g2 := sT_part (f := fun a => sT (fun c => if Y a && !Y c then r a c else 0) N) (n := N) (fun a ha => sT_nonneg (hin a ha)) hu
  have e : (if Y u && !Y v then r u v else 0) = r u v := by simp [h1, h2]
  rw [e] at g1
  exact Int.le_trans g1 g2
theorem cutv_zero {r : Nat → Nat → Int} {N : Nat} {Y : Nat → Bool} (h : ∀ a c, a < N → c < N → Y a = true → Y c = false → r a c = 0) : cutv r N Y = 0 := by
  have e : ∀ a, a < N → sT (fun c => if Y a && !Y c then r a c else 0) N = 0 := by
    intro a ha
    have e2 : ∀ c, c < N → (if Y a && !Y c then r a c else 0) = 0 := by
      intro c hc
      cases h1 : Y a <;> cases h2 : Y c <;> simp
      exact h a c ha hc h1 h2
    rw [sT_congr e2, sT_zero]
  unfold cutv
  rw [sT_congr e, sT_zero]
/-- what a search found: the least of the least cuts -/
theorem min_cut {r0 r : Nat → Nat → Int} {N s t : Nat} {F : Int} {R : Nat → Bool} (hr : ∀ a c, a < N → c < N → 0 ≤ r a c) (hF : ∀ Y : Nat → Bool, Y s = true → Y t = false → cutv r N Y = cutv r0 N Y - F) (hs : R s = true) (ht : R t = false)
    (hR : ∀ a c, a < N → c < N → R a = true → R c = false → r a c = 0) (rk : Nat → Nat) (fr : Nat → Nat) (hw : ∀ c, c < N → R c = true → c ≠ s → fr c < N ∧ R (fr c) = true ∧ rk (fr c) < rk c ∧ r (fr c) c ≠ 0) :
    (∀ Y : Nat → Bool, Y s = true → Y t = false → cutv r0 N R ≤ cutv r0 N Y) ∧ ∀ Y : Nat → Bool, Y s = true → Y t = false → cutv r0 N Y ≤ cutv r0 N R → ∀ c, c < N → R c = true → Y c = true := by
  have h0 := cutv_zero hR
  have hRF := hF R hs ht
  refine ⟨fun Y h1 h2 => ?_, fun Y h1 h2 h3 => ?_⟩
  · have a := cutv_nonneg (Y := Y) hr
    have b := hF Y h1 h2
    omega
  · have b := hF Y h1 h2
    have key : ∀ (k c : Nat), rk c ≤ k → c < N → R c = true → Y c = true := by
      intro k
      induction k with
      | zero =>
        intro c hk hc hRc
        by_cases hcs : c = s
        · rw [hcs]; exact h1
        · have := (hw c hc hRc hcs).2.2.1
          omega
      | succ k ih =>
        intro c hk hc hRc
        by_cases hcs : c = s
        · rw [hcs]; exact h1
        · obtain ⟨g1, g2, g3, g4⟩ := hw c hc hRc hcs
          have hy := ih (fr c) (by omega) g1 g2
          cases hyc : Y c with
          | true => rfl
          | false =>
            exfalso
            have g5 := cutv_ge hr g1 hc hy hyc
            have g6 := hr (fr c) c g1 hc
            omega
    exact fun c hc hRc => key (rk c) c (Nat.le_refl _) hc hRc
/-! flows are dual to plans: what a flow says of every plan's cost -/
theorem sT_mulr (g : Nat → Int) (c : Int) : ∀ n : Nat, sT (fun k => g k * c) n = sT g n * c
  | 0 => by simp [sT]
  | n + 1 => by rw [sT, sT, sT_mulr g c n, Int.add_mul]
theorem sT_sub (f g : Nat → Int) : ∀ n : Nat, sT (fun k => f k - g k) n = sT f n - sT g n
  | 0 => by simp [sT]
  | n + 1 => by rw [sT, sT, sT, sT_sub f g n]; omega
theorem sT_swap (g : Nat → Nat → Int) (m : Nat) : ∀ n : Nat, sT (fun a => sT (fun b => g a b) n) m = sT (fun b => sT (fun a => g a b) m) n
  | 0 => by simp only [sT]; exact sT_zero m
  | n + 1 => by
    have : sT (fun a => sT (fun b => g a b) (n + 1)) m = sT (fun a => sT (fun b => g a b) n + g a n) m := rfl
    rw [this, sT_add, sT_swap g m n, sT]
theorem sT_pos_zero {f : Nat → Int} : ∀ {n : Nat}, (∀ k, k < n → 0 ≤ f k) → sT f n = 0 → ∀ k, k < n → f k = 0 := by
  intro n h h0 k hk
  have a := sT_part (n := n) h hk
  have b := h k hk
  omega
section DUAL
variable {n : Nat} {th ou inn : Nat → Int} {pa : Nat → Nat → Int} {b f : Nat → Int}
theorem flow_sum (hend : ∀ t, t < n → th t = ou t + sT (fun u => pa t u) n) (hbeg : ∀ t, t < n → th t = inn t + sT (fun o => pa o t) n) :
    sT (fun t => th t * (f t - b t)) n = sT (fun t => ou t * f t) n - sT (fun t => inn t * b t) n + sT (fun t => sT (fun u => pa t u * (f t - b u)) n) n := by
  have e1 : ∀ t, t < n → th t * (f t - b t) = (ou t * f t + sT (fun u => pa t u) n * f t) - (inn t * b t + sT (fun o => pa o t) n * b t) := by
    intro t ht
    rw [Int.mul_sub, ← Int.add_mul, ← Int.add_mul, ← hend t ht, ← hbeg t ht]
  have e2 : ∀ t, t < n → sT (fun u => pa t u * (f t - b u)) n = sT (fun u => pa t u) n * f t - sT (fun u => pa t u * b u) n := by
    intro t _
    rw [← sT_mulr, ← sT_sub]
    exact sT_congr (fun u _ => Int.mul_sub _ _ _)
  have e3 : sT (fun t => sT (fun u => pa t u * b u) n) n = sT (fun u => sT (fun o => pa o u) n * b u) n := by
    rw [sT_swap]
    exact sT_congr (fun u _ => sT_mulr (fun o => pa o u) (b u) n)
  rw [sT_congr e1, sT_congr e2, sT_sub, sT_add, sT_add, sT_sub, e3]
  omega
variable {T : Int} {c : Nat → Int → Int} {mn : Nat → Int}
/-- how much a plan costs above what the flow says: four kinds of slack -/
theorem slack_sum (hend : ∀ t, t < n → th t = ou t + sT (fun u => pa t u) n) (hbeg : ∀ t, t < n → th t = inn t + sT (fun o => pa o t) n) :
    Cost n c b f - (sT mn n - sT ou n * T) = sT (fun t => c t (f t - b t) + th t * (f t - b t) - mn t) n + sT (fun t => ou t * (T - f t)) n + sT (fun t => inn t * b t) n + sT (fun t => sT (fun u => pa t u * (b u - f t)) n) n := by
  have h1 := flow_sum (b := b) (f := f) hend hbeg
  have h2 : sT (fun t => c t (f t - b t) + th t * (f t - b t) - mn t) n = Cost n c b f + sT (fun t => th t * (f t - b t)) n - sT mn n := by
    rw [sT_sub, sT_add]; rfl
  have h3 : sT (fun t => ou t * (T - f t)) n = sT ou n * T - sT (fun t => ou t * f t) n := by
    rw [← sT_mulr, ← sT_sub]
    exact sT_congr (fun t _ => Int.mul_sub _ _ _)
  have h4 : sT (fun t => sT (fun u => pa t u * (b u - f t)) n) n = - sT (fun t => sT (fun u => pa t u * (f t - b u)) n) n := by
    have h5 : sT (fun t => sT (fun u => pa t u * (b u - f t)) n) n + sT (fun t => sT (fun u => pa t u * (f t - b u)) n) n = 0 := by
      rw [← sT_add]
      have : ∀ t, t < n → (sT (fun u => pa t u * (b u - f t)) n + sT (fun u => pa t u * (f t - b u)) n) = 0 := by
        intro t _
        rw [← sT_add]
        have h6 : ∀ u, u < n → pa t u * (b u - f t) + pa t u * (f t - b u) = 0 := by
          intro u _
          rw [← Int.mul_add, show b u - f t + (f t - b u) = 0 by omega, Int.mul_zero]
        rw [sT_congr h6, sT_zero]
      rw [sT_congr this, sT_zero]
    omega
  rw [h2, h3, h4, h1]
  omega
variable {e h : Nat → Int} {fo : Nat → Nat → Prop}
/-- a flow: nothing below 0, what goes in comes out, only along pairs that follow -/
def Flow (n : Nat) (fo : Nat → Nat → Prop) (th ou inn : Nat → Int) (pa : Nat → Nat → Int) : Prop :=
  (∀ t, t < n → 0 ≤ th t ∧ 0 ≤ ou t ∧ 0 ≤ inn t ∧ th t = ou t + sT (fun u => pa t u) n ∧ th t = inn t + sT (fun o => pa o t) n) ∧ ∀ o t, o < n → t < n → 0 ≤ pa o t ∧ (pa o t ≠ 0 → fo t o)
/-- mn is the least of what a span costs together with its flow -/
def Least (n : Nat) (e h : Nat → Int) (c : Nat → Int → Int) (th mn : Nat → Int) : Prop := ∀ t, t < n → ∀ x, h t ≤ x → x ≤ e t → mn t ≤ c t x + th t * x
theorem slack_nonneg (F : Flow n fo th ou inn pa) (L : Least n e h c th mn) (P : Pl n e h fo b f) (hT : Len n T f) :
    0 ≤ sT (fun t => c t (f t - b t) + th t * (f t - b t) - mn t) n ∧ 0 ≤ sT (fun t => ou t * (T - f t)) n ∧ 0 ≤ sT (fun t => inn t * b t) n ∧ 0 ≤ sT (fun t => sT (fun u => pa t u * (b u - f t)) n) n := by
  refine ⟨sT_nonneg (fun t ht => ?_), sT_nonneg (fun t ht => ?_), sT_nonneg (fun t ht => ?_), sT_nonneg (fun t ht => sT_nonneg (fun u hu => ?_))⟩
  · obtain ⟨a1, a2, a3, a4⟩ := P t ht
    have := L t ht _ a2 a3
    omega
  · exact Int.mul_nonneg (F.1 t ht).2.1 (by have := hT t ht; omega)
  · exact Int.mul_nonneg (F.1 t ht).2.2.1 (P t ht).1
  · by_cases hz : pa t u = 0
    · rw [hz, Int.zero_mul]; exact Int.le_refl _
    · have := (P u hu).2.2.2 t ht ((F.2 t u ht hu).2 hz)
      exact Int.mul_nonneg (F.2 t u ht hu).1 (by omega)
/-- no plan is cheaper than a flow says -/
theorem dual_le (F : Flow n fo th ou inn pa) (L : Least n e h c th mn) (P : Pl n e h fo b f) (hT : Len n T f) : sT mn n - sT ou n * T ≤ Cost n c b f := by
  have h1 := slack_sum (b := b) (f := f) (T := T) (c := c) (mn := mn) (fun t ht => (F.1 t ht).2.2.2.1) (fun t ht => (F.1 t ht).2.2.2.2)
  have h2 := slack_nonneg F L P hT
  omega
/-- a plan without slack -/
def Tight (n : Nat) (c : Nat → Int → Int) (T : Int) (th ou inn mn : Nat → Int) (pa : Nat → Nat → Int) (b f : Nat → Int) : Prop :=
  (∀ t, t < n → c t (f t - b t) + th t * (f t - b t) = mn t ∧ (ou t ≠ 0 → f t = T) ∧ (inn t ≠ 0 → b t = 0)) ∧ ∀ o t, o < n → t < n → pa o t ≠ 0 → f o = b t
theorem tight_cost (F : Flow n fo th ou inn pa) (G : Tight n c T th ou inn mn pa b f) : Cost n c b f = sT mn n - sT ou n * T := by
  have h1 := slack_sum (b := b) (f := f) (T := T) (c := c) (mn := mn) (fun t ht => (F.1 t ht).2.2.2.1) (fun t ht => (F.1 t ht).2.2.2.2)
  have z1 : ∀ t, t < n → c t (f t - b t) + th t * (f t - b t) - mn t = 0 := fun t ht => by have := (G.1 t ht).1; omega
  have z2 : ∀ t, t < n → ou t * (T - f t) = 0 := fun t ht => by
    by_cases hz : ou t = 0
    · rw [hz, Int.zero_mul]
    · rw [(G.1 t ht).2.1 hz, Int.sub_self, Int.mul_zero]
  have z3 : ∀ t, t < n → inn t * b t = 0 := fun t ht => by
    by_cases hz : inn t = 0
    · rw [hz, Int.zero_mul]
    · rw [(G.1 t ht).2.2 hz, Int.mul_zero]
  have z4 : ∀ t, t < n → sT (fun u => pa t u * (b u - f t)) n = 0 := fun t ht => by
    have : ∀ u, u < n → pa t u * (b u - f t) = 0 := fun u hu => by
      by_cases hz : pa t u = 0
      · rw [hz, Int.zero_mul]
      · rw [G.2 t u ht hu hz, Int.sub_self, Int.mul_zero]
    rw [sT_congr this, sT_zero]
  rw [sT_congr z1, sT_congr z2, sT_congr z3, sT_congr z4, sT_zero] at h1
  omega
/-- a plan without slack is a cheapest one -/
theorem tight_opt (F : Flow n fo th ou inn pa) (L : Least n e h c th mn) (P : Pl n e h fo b f) (hT : Len n T f) (G : Tight n c T th ou inn mn pa b f) : Opt n e h c fo T b f := by
  refine ⟨P, hT, fun b' f' P' hT' => ?_⟩
  rw [tight_cost F G]
  exact dual_le F L P' hT'
/-- and then every cheapest plan has no slack -/
theorem opt_tight (F : Flow n fo th ou inn pa) (L : Least n e h c th mn) (P : Pl n e h fo b f) (hT : Len n T f) (G : Tight n c T th ou inn mn pa b f) {b' f' : Nat → Int} (O : Opt n e h c fo T b' f') : Tight n c T th ou inn mn pa b' f' := by
  have hc : Cost n c b' f' = sT mn n - sT ou n * T := by
    rw [← tight_cost F G]
    exact O.one (tight_opt F L P hT G)
  have h1 := slack_sum (b := b') (f := f') (T := T) (c := c) (mn := mn) (fun t ht => (F.1 t ht).2.2.2.1) (fun t ht => (F.1 t ht).2.2.2.2)
  obtain ⟨g1, g2, g3, g4⟩ := slack_nonneg F L O.1 O.2.1
  have k1 : sT (fun t => c t (f' t - b' t) + th t * (f' t - b' t) - mn t) n = 0 := by omega
  have k2 : sT (fun t => ou t * (T - f' t)) n = 0 := by omega
  have k3 : sT (fun t => inn t * b' t) n = 0 := by omega
  have k4 : sT (fun t => sT (fun u => pa t u * (b' u - f' t)) n) n = 0 := by omega
  have m1 := sT_pos_zero (fun t ht => by
    obtain ⟨a1, a2, a3, a4⟩ := O.1 t ht
    have := L t ht _ a2 a3
    show 0 ≤ c t (f' t - b' t) + th t * (f' t - b' t) - mn t
    omega) k1
  have m2 := sT_pos_zero (fun t ht => Int.mul_nonneg (F.1 t ht).2.1 (by have := O.2.1 t ht; omega)) k2
  have m3 := sT_pos_zero (fun t ht => Int.mul_nonneg (F.1 t ht).2.2.1 (O.1 t ht).1) k3
  have p4 : ∀ t, t < n → ∀ u, u < n → 0 ≤ pa t u * (b' u - f' t) := fun t ht u hu => by
    by_cases hz : pa t u = 0
    · rw [hz, Int.zero_mul]; exact Int.le_refl _
    · have := (O.1 u hu).2.2.2 t ht ((F.2 t u ht hu).2 hz)
      exact Int.mul_nonneg (F.2 t u ht hu).1 (by omega)
  have m4 := sT_pos_zero (fun t ht => sT_nonneg (p4 t ht)) k4
  refine ⟨fun t ht => ⟨by have := m1 t ht; omega, fun hz => ?_, fun hz => ?_⟩, fun o t ho ht hz => ?_⟩
  · rcases Int.mul_eq_zero.mp (m2 t ht) with q | q
    · exact absurd q hz
    · omega
  · rcases Int.mul_eq_zero.mp (m3 t ht) with q | q
    · exact absurd q hz
    · exact q
  · have m5 := sT_pos_zero (p4 o ho) (m4 o ho) t ht
    rcases Int.mul_eq_zero.mp m5 with q | q
    · exact absurd q hz
    · omega
end DUAL
/-! least solutions of systems of lower bounds, and how rounds reach them -/
def ctB (p : Nat → Bool) : Nat → Nat
  | 0 => 0
  | n + 1 => ctB p n + (if p n then 1 else 0)
theorem ctB_le (p : Nat → Bool) : ∀ n, ctB p n ≤ n
  | 0 => Nat.le_refl _
  | n + 1 => by have := ctB_le p n; rw [ctB]; split <;> omega
theorem ctB_mono {p q : Nat → Bool} : ∀ {n : Nat}, (∀ k, k < n → p k = true → q k = true) → ctB p n ≤ ctB q n
  | 0, _ => Nat.le_refl _
  | n + 1, h => by
    have h1 := ctB_mono (n := n) (fun k hk => h k (by omega))
    have h2 := h n (by omega)
    rw [ctB, ctB]
    cases hp : p n with
    | false => simp; omega
    | true => simp [h2 hp]; omega
theorem ctB_lt {p q : Nat → Bool} : ∀ {n : Nat}, (∀ k, k < n → p k = true → q k = true) → ∀ {v : Nat}, v < n → p v = false → q v = true → ctB p n < ctB q n
  | 0, _, v, hv, _, _ => absurd hv (by omega)
  | n + 1, h, v, hv, h1, h2 => by
    rw [ctB, ctB]
    rcases Nat.lt_or_ge v n with z | z
    · have a := ctB_lt (n := n) (fun k hk => h k (by omega)) z h1 h2
      have b := h n (by omega)
      cases hp : p n with
      | false => simp; omega
      | true => simp [b hp]; omega
    · have e : v = n := by omega
      subst e
      have a := ctB_mono (n := v) (fun k hk => h k (by omega))
      simp [h1, h2]; omega
theorem ctB_all {p : Nat → Bool} : ∀ {n : Nat}, n ≤ ctB p n → ∀ k, k < n → p k = true
  | 0, _, k, hk => absurd hk (by omega)
  | n + 1, h, k, hk => by
    rw [ctB] at h
    have h1 := ctB_le p n
    have hn : p n = true := by
      cases hp : p n with
      | true => rfl
      | false => simp [hp] at h; omega
    simp [hn] at h
    rcases Nat.lt_or_ge k n with z | z
    · exact ctB_all (n := n) (by omega) k z
    · rw [show k = n by omega]; exact hn
/-- x keeps to bounds B from below and to pairs E: v is at least w behind u -/
def Sol (N : Nat) (E : Nat → Nat → Int → Prop) (B x : Nat → Int) : Prop := (∀ v, v < N → B v ≤ x v) ∧ ∀ u v w, u < N → v < N → E u v w → x u + w ≤ x v
def LeastSol (N : Nat) (E : Nat → Nat → Int → Prop) (B y : Nat → Int) : Prop := Sol N E B y ∧ ∀ z, Sol N E B z → ∀ v, v < N → y v ≤ z v
section LS
variable {N : Nat} {E : Nat → Nat → Int → Prop} {B y : Nat → Int}
/-- some node outside a set is held up from the set or from below -/
theorem LeastSol.held (H : LeastSol N E B y) (S : Nat → Bool) {v0 : Nat} (h0 : v0 < N) (hv : S v0 = false) : ∃ v, v < N ∧ S v = false ∧ (y v = B v ∨ ∃ u w, u < N ∧ S u = true ∧ E u v w ∧ y u + w = y v) := by
  apply Classical.byContradiction
  intro hn
  have key : ∀ v, v < N → S v = false → B v < y v ∧ ∀ u w, u < N → S u = true → E u v w → y u + w < y v := by
    intro v hv1 hv2
    refine ⟨?_, fun u w hu hs he => ?_⟩
    · have h1 := H.1.1 v hv1
      have h2 : ¬ y v = B v := fun q => hn ⟨v, hv1, hv2, Or.inl q⟩
      omega
    · have h1 := H.1.2 u v w hu hv1 he
      have h2 : ¬ y u + w = y v := fun q => hn ⟨v, hv1, hv2, Or.inr ⟨u, w, hu, hs, he, q⟩⟩
      omega
  have hz : Sol N E B (fun v => if S v then y v else y v - 1) := by
    refine ⟨fun v hv1 => ?_, fun u v w hu hv1 he => ?_⟩
    · show B v ≤ if S v then y v else y v - 1
      cases hs : S v with
      | true => simpa using H.1.1 v hv1
      | false => have := (key v hv1 hs).1; simp; omega
    · show (if S u then y u else y u - 1) + w ≤ if S v then y v else y v - 1
      have h1 := H.1.2 u v w hu hv1 he
      cases hs : S v with
      | true => cases hu2 : S u <;> simp <;> omega
      | false =>
        cases hu2 : S u with
        | true => have := (key v hv1 hs).2 u w hu hu2 he; simp; omega
        | false => simp; omega
  have := H.2 _ hz v0 h0
  have h3 : y v0 ≤ if S v0 then y v0 else y v0 - 1 := this
  rw [hv] at h3
  simp at h3
  omega
/-- after as many rounds as there are nodes all have come to the least solution -/
theorem LeastSol.rounds (H : LeastSol N E B y) (xs : Nat → Nat → Int) (hle : ∀ k v, v < N → xs k v ≤ y v) (hmono : ∀ k v, v < N → xs k v ≤ xs (k + 1) v) (hB : ∀ v, v < N → B v ≤ xs 0 v) (hE : ∀ k u v w, u < N → v < N → E u v w → xs k u + w ≤ xs (k + 1) v) : ∀ v, v < N → xs N v = y v := by
  have hBk : ∀ k v, v < N → B v ≤ xs k v := by
    intro k
    induction k with
    | zero => exact hB
    | succ k ih => intro v hv; have := ih v hv; have := hmono k v hv; omega
  have key : ∀ k, k ≤ N → (∀ v, v < N → xs k v = y v) ∨ k ≤ ctB (fun v => decide (xs k v = y v)) N := by
    intro k
    induction k with
    | zero => intro _; exact Or.inr (Nat.zero_le _)
    | succ k ih =>
      intro hk
      have keep : ∀ v, v < N → xs k v = y v → xs (k + 1) v = y v := fun v hv q => by
        have := hmono k v hv
        have := hle (k + 1) v hv
        omega
      rcases ih (by omega) with a | a
      · exact Or.inl (fun v hv => keep v hv (a v hv))
      · by_cases hall : ∀ v, v < N → xs k v = y v
        · exact Or.inl (fun v hv => keep v hv (hall v hv))
        · obtain ⟨v0, h0, h1⟩ : ∃ v0, v0 < N ∧ ¬ xs k v0 = y v0 := by
            apply Classical.byContradiction
            intro hn
            exact hall (fun v hv => Classical.byContradiction (fun q => hn ⟨v, hv, q⟩))
          obtain ⟨v, hv, hs, hh⟩ := H.held (fun v => decide (xs k v = y v)) h0 (by simpa using h1)
          have hs' : ¬ xs k v = y v := by simpa using hs
          have hfin : xs (k + 1) v = y v := by
            rcases hh with q | ⟨u, w, hu, hu2, he, q⟩
            · have := hBk k v hv
              have := hle k v hv
              omega
            · have hu3 : xs k u = y u := by simpa using hu2
              have := hE k u v w hu hv he
              have := hle (k + 1) v hv
              omega
          refine Or.inr ?_
          have := ctB_lt (p := fun v => decide (xs k v = y v)) (q := fun v => decide (xs (k + 1) v = y v)) (n := N) (fun j hj hp => by simpa using keep j hj (by simpa using hp)) hv (by simpa using hs') (by simpa using hfin)
          omega
  rcases key N (Nat.le_refl _) with a | a
  · exact a
  · intro v hv
    have := ctB_all a v hv
    simpa using this
end LS
/-! shortest ways: how often one can push along them -/
/-- a way of m steps out of the start -/
def Way (N : Nat) (A : Nat → Nat → Prop) (S0 : Nat → Prop) (p : Nat → Nat) (m : Nat) : Prop := S0 (p 0) ∧ (∀ i, i ≤ m → p i < N) ∧ ∀ i, i < m → A (p i) (p (i + 1))
/-- levels: no step goes up by more than one -/
def Lev (N : Nat) (A : Nat → Nat → Prop) (S0 : Nat → Prop) (l : Nat → Nat) : Prop := (∀ s, s < N → S0 s → l s = 0) ∧ ∀ u v, u < N → v < N → A u v → l v ≤ l u + 1
section EK
variable {N : Nat} {A : Nat → Nat → Prop} {S0 : Nat → Prop} {l : Nat → Nat}
theorem Lev.way (H : Lev N A S0 l) {p : Nat → Nat} {m : Nat} (W : Way N A S0 p m) : ∀ i, i ≤ m → l (p i) ≤ i := by
  intro i
  induction i with
  | zero => intro _; rw [H.1 _ (W.2.1 0 (Nat.zero_le _)) W.1]; exact Nat.le_refl _
  | succ i ih =>
    intro hi
    have h1 := ih (by omega)
    have h2 := H.2 _ _ (W.2.1 i (by omega)) (W.2.1 (i + 1) hi) (W.2.2 i (by omega))
    omega
/-- a way that ends as high as it is long goes up with every step -/
theorem Lev.steep (H : Lev N A S0 l) {p : Nat → Nat} {m : Nat} (W : Way N A S0 p m) (hm : m ≤ l (p m)) : ∀ i, i ≤ m → l (p i) = i := by
  have key : ∀ j i, i + j = m → i ≤ l (p i) := by
    intro j
    induction j with
    | zero => intro i hi; rw [show i = m by omega]; exact hm
    | succ j ih =>
      intro i hi
      have h1 := ih (i + 1) (by omega)
      have h2 := H.2 _ _ (W.2.1 i (by omega)) (W.2.1 (i + 1) (by omega)) (W.2.2 i (by omega))
      omega
  intro i hi
  have h1 := H.way W i hi
  have h2 := key (m - i) i (by omega)
  omega
/-- the levels by shortest ways, cut off at d -/
theorem lev_cut (N : Nat) (A : Nat → Nat → Prop) (S0 : Nat → Prop) (d : Nat) : ∃ l : Nat → Nat, Lev N A S0 l ∧ ∀ v, (∀ (p : Nat → Nat) (m : Nat), Way N A S0 p m → p m = v → d ≤ m) → (v < N → d ≤ l v) := by
  have hex : ∀ v, ∃ k, k ≤ d ∧ (k < d → ∃ p, Way N A S0 p k ∧ p k = v) ∧ ∀ (p : Nat → Nat) (m : Nat), Way N A S0 p m → p m = v → k ≤ m ∨ d ≤ m := by
    intro v
    by_cases h : ∃ m, m < d ∧ ∃ p, Way N A S0 p m ∧ p m = v
    · obtain ⟨k, hk, hmin⟩ := pk_least (fun m => m < d ∧ ∃ p, Way N A S0 p m ∧ p m = v) h
      refine ⟨k, by omega, fun _ => hk.2, fun p m W e => ?_⟩
      rcases Nat.lt_or_ge m d with z | z
      · rcases Nat.lt_or_ge m k with y | y
        · exact absurd ⟨z, p, W, e⟩ (hmin m y)
        · exact Or.inl y
      · exact Or.inr z
    · refine ⟨d, Nat.le_refl _, fun z => absurd z (by omega), fun p m W e => ?_⟩
      rcases Nat.lt_or_ge m d with z | z
      · exact absurd ⟨m, z, p, W, e⟩ h
      · exact Or.inr z
  refine ⟨fun v => Classical.choose (hex v), ⟨fun s hsN hs => ?_, fun u v hu hv ha => ?_⟩, fun v hv hN => ?_⟩
  · have h := Classical.choose_spec (hex s)
    have h2 := h.2.2 (fun _ => s) 0 ⟨hs, fun i hi => hsN, fun i hi => absurd hi (by omega)⟩ rfl
    show Classical.choose (hex s) = 0
    rcases h2 with z | z
    · omega
    · have := h.1; omega
  · show Classical.choose (hex v) ≤ Classical.choose (hex u) + 1
    have h := Classical.choose_spec (hex u)
    have h' := Classical.choose_spec (hex v)
    rcases Nat.lt_or_ge (Classical.choose (hex u)) d with z | z
    · obtain ⟨p, W, e⟩ := h.2.1 z
      have W2 : Way N A S0 (fun i => if i ≤ Classical.choose (hex u) then p i else v) (Classical.choose (hex u) + 1) := by
        refine ⟨?_, fun i hi => ?_, fun i hi => ?_⟩
        · show S0 (if 0 ≤ _ then p 0 else v)
          rw [if_pos (Nat.zero_le _)]; exact W.1
        · show (if i ≤ _ then p i else v) < N
          split
          · rename_i q; exact W.2.1 i q
          · exact hv
        · show A (if i ≤ _ then p i else v) (if i + 1 ≤ _ then p (i + 1) else v)
          rw [if_pos (by omega)]
          rcases Nat.lt_or_ge i (Classical.choose (hex u)) with y | y
          · rw [if_pos (by omega)]; exact W.2.2 i y
          · rw [if_neg (by omega), show i = Classical.choose (hex u) by omega, e]; exact ha
      have h2 := h'.2.2 _ _ W2 (by show (if _ + 1 ≤ _ then _ else v) = v; rw [if_neg (by omega)])
      have := h'.1
      omega
    · have := h'.1
      omega
  · show d ≤ Classical.choose (hex v)
    have h := Classical.choose_spec (hex v)
    rcases Nat.lt_or_ge (Classical.choose (hex v)) d with z | z
    · obtain ⟨p, W, e⟩ := h.2.1 z
      have := hv p _ W e
      omega
    · exact z
/-- the steps that go up by one -/
noncomputable def LA (N : Nat) (A : Nat → Nat → Prop) (l : Nat → Nat) : Nat → Bool := fun k => @decide (A (k / N) (k % N) ∧ l (k % N) = l (k / N) + 1) (Classical.propDecidable _)
theorem LA_iff {k : Nat} : LA N A l k = true ↔ A (k / N) (k % N) ∧ l (k % N) = l (k / N) + 1 := by
  unfold LA
  exact @decide_eq_true_iff _ (Classical.propDecidable _)
theorem pair_at {N u v : Nat} (hu : u < N) (hv : v < N) : u * N + v < N * N ∧ (u * N + v) / N = u ∧ (u * N + v) % N = v := by
  have hN : 0 < N := by omega
  refine ⟨?_, ?_, ?_⟩
  · have h1 : (u + 1) * N ≤ N * N := Nat.mul_le_mul_right N hu
    rw [Nat.succ_mul] at h1
    omega
  · rw [Nat.mul_comm, Nat.mul_add_div hN, Nat.div_eq_of_lt hv]; omega
  · rw [Nat.mul_comm, Nat.mul_add_mod, Nat.mod_eq_of_lt hv]
variable {A' : Nat → Nat → Prop} {Tm : Nat → Prop}
/-- a push along a steep way: the levels stay, a step up is lost -/
theorem Lev.push (H : Lev N A S0 l) {p : Nat → Nat} {m : Nat} (W : Way N A S0 p m) (hm : m ≤ l (p m)) (hA : ∀ u v, u < N → v < N → A' u v → A u v ∨ ∃ i, i < m ∧ u = p (i + 1) ∧ v = p i) (hlost : ∃ i, i < m ∧ ¬ A' (p i) (p (i + 1))) : Lev N A' S0 l ∧ ctB (LA N A' l) (N * N) < ctB (LA N A l) (N * N) := by
  have hs := H.steep W hm
  refine ⟨⟨H.1, fun u v hu hv ha => ?_⟩, ?_⟩
  · rcases hA u v hu hv ha with q | ⟨i, hi, rfl, rfl⟩
    · exact H.2 u v hu hv q
    · rw [hs i (by omega), hs (i + 1) (by omega)]; omega
  · obtain ⟨i, hi, hn⟩ := hlost
    have hu := W.2.1 i (by omega)
    have hv := W.2.1 (i + 1) (by omega)
    obtain ⟨k1, k2, k3⟩ := pair_at hu hv
    refine ctB_lt (v := p i * N + p (i + 1)) (fun k hk hp => ?_) k1 ?_ ?_
    · rw [LA_iff] at hp ⊢
      have hN : 0 < N := by omega
      have g1 : k / N < N := Nat.div_lt_of_lt_mul hk
      have g2 : k % N < N := Nat.mod_lt _ hN
      rcases hA _ _ g1 g2 hp.1 with q | ⟨j, hj, e1, e2⟩
      · exact ⟨q, hp.2⟩
      · exfalso
        have := hp.2
        rw [e1, e2, hs j (by omega), hs (j + 1) (by omega)] at this
        omega
    · cases hh : LA N A' l (p i * N + p (i + 1)) with
      | false => rfl
      | true =>
        rw [LA_iff, k2, k3] at hh
        exact absurd hh.1 hn
    · rw [LA_iff, k2, k3]
      exact ⟨W.2.2 i hi, by rw [hs i (by omega), hs (i + 1) (by omega)]⟩
/-- at most r pushes are left -/
def Pot (N : Nat) (A : Nat → Nat → Prop) (S0 Tm : Nat → Prop) (r : Nat) : Prop := ∃ (D : Nat) (l : Nat → Nat), Lev N A S0 l ∧ D ≤ N ∧ (∀ t, t < N → Tm t → D ≤ l t) ∧ (N - D) * (N * N + 1) + ctB (LA N A l) (N * N) ≤ r
theorem pot_start (N : Nat) (A : Nat → Nat → Prop) (S0 Tm : Nat → Prop) : Pot N A S0 Tm (N * (N * N + 1) + N * N) :=
  ⟨0, fun _ => 0, ⟨fun _ _ _ => rfl, fun _ _ _ _ _ => Nat.zero_le _⟩, Nat.zero_le _, fun _ _ _ => Nat.zero_le _, Nat.add_le_add_left (ctB_le _ _) _⟩
theorem pot_step {r : Nat} (H : Pot N A S0 Tm r) {p : Nat → Nat} {m : Nat} (W : Way N A S0 p m) (ht : Tm (p m)) (hmN : m ≤ N) (hsh : ∀ (p' : Nat → Nat) (m' : Nat), Way N A S0 p' m' → Tm (p' m') → m ≤ m') (hA : ∀ u v, u < N → v < N → A' u v → A u v ∨ ∃ i, i < m ∧ u = p (i + 1) ∧ v = p i) (hlost : ∃ i, i < m ∧ ¬ A' (p i) (p (i + 1))) : ∃ r', r' < r ∧ Pot N A' S0 Tm r' := by
  obtain ⟨D, l, h1, h2, h3, h4⟩ := H
  have hpm := W.2.1 m (Nat.le_refl _)
  have h5 := h1.way W m (Nat.le_refl _)
  have h6 := h3 _ hpm ht
  rcases Nat.lt_or_ge D m with q | q
  · obtain ⟨l', g1, g2⟩ := lev_cut N A S0 m
    have g3 : ∀ t, t < N → Tm t → m ≤ l' t := fun t htN hT => g2 t (fun p' m' W' e => hsh p' m' W' (by rw [e]; exact hT)) htN
    obtain ⟨k1, k2⟩ := g1.push W (g3 _ hpm ht) hA hlost
    refine ⟨(N - m) * (N * N + 1) + ctB (LA N A' l') (N * N), ?_, m, l', k1, hmN, g3, Nat.le_refl _⟩
    have k3 := ctB_le (LA N A l') (N * N)
    have k4 : (N - m + 1) * (N * N + 1) ≤ (N - D) * (N * N + 1) := Nat.mul_le_mul_right _ (by omega)
    rw [Nat.succ_mul] at k4
    omega
  · have e : D = m := by omega
    subst e
    obtain ⟨k1, k2⟩ := h1.push W h6 hA hlost
    exact ⟨(N - D) * (N * N + 1) + ctB (LA N A' l) (N * N), by omega, D, l, k1, h2, h3, Nat.le_refl _⟩
end EK
