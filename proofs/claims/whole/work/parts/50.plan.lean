/-! plans: spans, costs, the lattice of plans -/
/-- the sum of the first n -/
def sT (f : Nat → Int) : Nat → Int
  | 0 => 0
  | n + 1 => sT f n + f n
theorem sT_congr {f g : Nat → Int} : ∀ {n : Nat}, (∀ k, k < n → f k = g k) → sT f n = sT g n
  | 0, _ => rfl
  | n + 1, h => by rw [sT, sT, sT_congr (fun k hk => h k (by omega)), h n (by omega)]
theorem sT_add (f g : Nat → Int) : ∀ n : Nat, sT (fun k => f k + g k) n = sT f n + sT g n
  | 0 => rfl
  | n + 1 => by rw [sT, sT, sT, sT_add f g n]; omega
theorem sT_le {f g : Nat → Int} : ∀ {n : Nat}, (∀ k, k < n → f k ≤ g k) → sT f n ≤ sT g n
  | 0, _ => Int.le_refl _
  | n + 1, h => by
    rw [sT, sT]
    have h1 := sT_le (n := n) (fun k hk => h k (by omega))
    have h2 := h n (by omega)
    omega
/-- a cost of a span that bends upward between h and e -/
def Cvx (c : Int → Int) (h e : Int) : Prop := ∀ x, h ≤ x - 1 → x + 1 ≤ e → 2 * c x ≤ c (x + 1) + c (x - 1)
/-- a step further out never falls by more -/
theorem Cvx.slope {c : Int → Int} {h e : Int} (H : Cvx c h e) : ∀ (n : Nat) (x : Int), h ≤ x → x + n + 1 ≤ e → c (x + 1) - c x ≤ c (x + n + 1) - c (x + n) := by
  intro n
  induction n with
  | zero => intro x _ _; simp
  | succ n ih =>
    intro x h1 h2
    have a := ih x h1 (by omega)
    have b := H (x + n + 1) (by omega) (by omega)
    have e1 : x + (n + 1 : Nat) + 1 = x + n + 1 + 1 := by omega
    have e2 : x + (n + 1 : Nat) = x + n + 1 := by omega
    have e3 : x + n + 1 - 1 = x + n := by omega
    rw [e1, e2]
    rw [e3] at b
    omega
/-- moving two spans towards each other by d costs nothing -/
theorem Cvx.near {c : Int → Int} {h e : Int} (H : Cvx c h e) : ∀ (d : Nat) (p s : Int), h ≤ p → s ≤ e → p + 2 * d ≤ s → c (p + d) + c (s - d) ≤ c p + c s := by
  intro d
  induction d with
  | zero => intro p s _ _ _; simp
  | succ d ih =>
    intro p s h1 h2 h3
    have a := ih p s h1 h2 (by omega)
    have b := H.slope (s - p - 2 * d - 1).toNat (p + d) (by omega) (by omega)
    have e0 : ((s - p - 2 * d - 1).toNat : Int) = s - p - 2 * d - 1 := by omega
    rw [e0] at b
    have e1 : p + ↑d + (s - p - 2 * ↑d - 1) + 1 = s - d := by omega
    have e2 : p + ↑d + (s - p - 2 * ↑d - 1) = s - d - 1 := by omega
    rw [e1, e2] at b
    have e3 : p + ((d + 1 : Nat) : Int) = p + d + 1 := by omega
    have e4 : s - ((d + 1 : Nat) : Int) = s - d - 1 := by omega
    rw [e3, e4]
    omega
theorem Cvx.four {c : Int → Int} {h e : Int} (H : Cvx c h e) {p q r s : Int} (hp : h ≤ p) (hs : s ≤ e) (h1 : p ≤ q) (h2 : p ≤ r) (h3 : q + r = p + s) : c q + c r ≤ c p + c s := by
  rcases Int.le_total q r with hq | hq
  · have a := H.near (q - p).toNat p s hp hs (by omega)
    rw [show p + ((q - p).toNat : Int) = q by omega, show s - ((q - p).toNat : Int) = r by omega] at a
    exact a
  · have a := H.near (r - p).toNat p s hp hs (by omega)
    rw [show p + ((r - p).toNat : Int) = r by omega, show s - ((r - p).toNat : Int) = q by omega] at a
    omega
/-- the spans of the lower and the upper plan -/
theorem Cvx.lat {c : Int → Int} {h e : Int} (H : Cvx c h e) {a0 a1 b0 b1 : Int} (ha : h ≤ a1 - a0) (ha2 : a1 - a0 ≤ e) (hb : h ≤ b1 - b0) (hb2 : b1 - b0 ≤ e) :
    c (min a1 b1 - min a0 b0) + c (max a1 b1 - max a0 b0) ≤ c (a1 - a0) + c (b1 - b0) := by
  rcases Int.le_total a0 b0 with h0 | h0 <;> rcases Int.le_total a1 b1 with h1 | h1
  · rw [Int.min_eq_left h1, Int.min_eq_left h0, Int.max_eq_right h1, Int.max_eq_right h0]; omega
  · rw [Int.min_eq_right h1, Int.min_eq_left h0, Int.max_eq_left h1, Int.max_eq_right h0]
    have := H.four (p := b1 - b0) (q := b1 - a0) (r := a1 - b0) (s := a1 - a0) hb ha2 (by omega) (by omega) (by omega)
    omega
  · rw [Int.min_eq_left h1, Int.min_eq_right h0, Int.max_eq_right h1, Int.max_eq_left h0]
    have := H.four (p := a1 - a0) (q := a1 - b0) (r := b1 - a0) (s := b1 - b0) ha hb2 (by omega) (by omega) (by omega)
    omega
  · rw [Int.min_eq_right h1, Int.min_eq_right h0, Int.max_eq_left h1, Int.max_eq_left h0]; omega
/-- tasks: how many, easy and hard spans, what a span costs, whom each follows -/
def Pl (n : Nat) (e h : Nat → Int) (fo : Nat → Nat → Prop) (b f : Nat → Int) : Prop :=
  ∀ t, t < n → 0 ≤ b t ∧ h t ≤ f t - b t ∧ f t - b t ≤ e t ∧ ∀ o, o < n → fo t o → f o ≤ b t
/-- not longer than T -/
def Len (n : Nat) (T : Int) (f : Nat → Int) : Prop := ∀ t, t < n → f t ≤ T
def Cost (n : Nat) (c : Nat → Int → Int) (b f : Nat → Int) : Int := sT (fun t => c t (f t - b t)) n
theorem Pl.inf {n : Nat} {e h : Nat → Int} {fo : Nat → Nat → Prop} {b f b' f' : Nat → Int} (H : Pl n e h fo b f) (H' : Pl n e h fo b' f') : Pl n e h fo (fun t => min (b t) (b' t)) (fun t => min (f t) (f' t)) := by
  intro t ht
  obtain ⟨a1, a2, a3, a4⟩ := H t ht
  obtain ⟨c1, c2, c3, c4⟩ := H' t ht
  dsimp only
  refine ⟨by omega, by omega, by omega, fun o ho hf => ?_⟩
  have := a4 o ho hf
  have := c4 o ho hf
  omega
theorem Pl.sup {n : Nat} {e h : Nat → Int} {fo : Nat → Nat → Prop} {b f b' f' : Nat → Int} (H : Pl n e h fo b f) (H' : Pl n e h fo b' f') : Pl n e h fo (fun t => max (b t) (b' t)) (fun t => max (f t) (f' t)) := by
  intro t ht
  obtain ⟨a1, a2, a3, a4⟩ := H t ht
  obtain ⟨c1, c2, c3, c4⟩ := H' t ht
  dsimp only
  refine ⟨by omega, by omega, by omega, fun o ho hf => ?_⟩
  have := a4 o ho hf
  have := c4 o ho hf
  omega
theorem Cost.lat {n : Nat} {e h : Nat → Int} {c : Nat → Int → Int} {fo : Nat → Nat → Prop} {b f b' f' : Nat → Int} (hc : ∀ t, t < n → Cvx (c t) (h t) (e t)) (H : Pl n e h fo b f) (H' : Pl n e h fo b' f') :
    Cost n c (fun t => min (b t) (b' t)) (fun t => min (f t) (f' t)) + Cost n c (fun t => max (b t) (b' t)) (fun t => max (f t) (f' t)) ≤ Cost n c b f + Cost n c b' f' := by
  unfold Cost
  rw [← sT_add, ← sT_add]
  refine sT_le (fun t ht => ?_)
  obtain ⟨a1, a2, a3, a4⟩ := H t ht
  obtain ⟨c1, c2, c3, c4⟩ := H' t ht
  exact (hc t ht).lat a2 a3 c2 c3
/-- a plan moved by d, cut off at another one from below: again a plan -/
theorem Pl.shift {n : Nat} {e h : Nat → Int} {fo : Nat → Nat → Prop} {b f b' f' : Nat → Int} (d : Int) (H : Pl n e h fo b f) (H' : Pl n e h fo b' f') : Pl n e h fo (fun t => max (b t - d) (b' t)) (fun t => max (f t - d) (f' t)) := by
  intro t ht
  obtain ⟨a1, a2, a3, a4⟩ := H t ht
  obtain ⟨c1, c2, c3, c4⟩ := H' t ht
  dsimp only
  refine ⟨by omega, by omega, by omega, fun o ho hf => ?_⟩
  have := a4 o ho hf
  have := c4 o ho hf
  omega
theorem Pl.shiftm {n : Nat} {e h : Nat → Int} {fo : Nat → Nat → Prop} {b f b' f' : Nat → Int} {d : Int} (hd : 0 ≤ d) (H : Pl n e h fo b f) (H' : Pl n e h fo b' f') : Pl n e h fo (fun t => min (b t) (b' t + d)) (fun t => min (f t) (f' t + d)) := by
  intro t ht
  obtain ⟨a1, a2, a3, a4⟩ := H t ht
  obtain ⟨c1, c2, c3, c4⟩ := H' t ht
  dsimp only
  refine ⟨by omega, by omega, by omega, fun o ho hf => ?_⟩
  have := a4 o ho hf
  have := c4 o ho hf
  omega
/-- the same with a shift -/
theorem Cost.shift {n : Nat} {e h : Nat → Int} {c : Nat → Int → Int} {fo : Nat → Nat → Prop} {b f b' f' : Nat → Int} (d : Int) (hc : ∀ t, t < n → Cvx (c t) (h t) (e t)) (H : Pl n e h fo b f) (H' : Pl n e h fo b' f') :
    Cost n c (fun t => min (b t) (b' t + d)) (fun t => min (f t) (f' t + d)) + Cost n c (fun t => max (b t - d) (b' t)) (fun t => max (f t - d) (f' t)) ≤ Cost n c b f + Cost n c b' f' := by
  unfold Cost
  rw [← sT_add, ← sT_add]
  refine sT_le (fun t ht => ?_)
  obtain ⟨a1, a2, a3, a4⟩ := H t ht
  obtain ⟨c1, c2, c3, c4⟩ := H' t ht
  have := (hc t ht).lat (a0 := b t - d) (a1 := f t - d) (b0 := b' t) (b1 := f' t) (by omega) (by omega) c2 c3
  have e1 : min (f t) (f' t + d) - min (b t) (b' t + d) = min (f t - d) (f' t) - min (b t - d) (b' t) := by omega
  have e2 : f t - d - (b t - d) = f t - b t := by omega
  rw [e2] at this
  show c t (min (f t) (f' t + d) - min (b t) (b' t + d)) + c t (max (f t - d) (f' t) - max (b t - d) (b' t)) ≤ _
  rw [e1]
  exact this
