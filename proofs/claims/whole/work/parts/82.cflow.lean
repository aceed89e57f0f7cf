/-! the class: room of a way, flow along a way -/
def roomI (er s2 th : Nat → Int) (pa : Nat → Nat → Int) (u v : Nat) : Int := if v / 2 = u / 2 then (if u % 2 = 0 then rOn (er (u / 2)) (er (u / 2) + s2 (u / 2)) (th (u / 2)) else rOff (er (u / 2)) (er (u / 2) + s2 (u / 2)) (th (u / 2))) else if u % 2 = 0 then pa (v / 2) (u / 2) else 1073741824
section CFLOW
variable {n : Nat} {e md h er s2 : Nat → Int} {nEa nMi nHa nER nMR nTh nPa nFr : Nat → Int32}
theorem dv2 {u : Nat} (h : u < 24) : nI u / (2 : Int32) = nI (u / 2) := pk_div (d := 2) (by omega) (by omega) (by omega)
theorem rm2 {u : Nat} (h : u < 24) : nI u - nI u / (2 : Int32) * 2 = nI (u % 2) := pk_rem (d := 2) (by omega) (by omega) (by omega)
theorem wp_rb (hn : n ≤ 12) (hK : NetK n e md h er s2 nEa nMi nHa nER nMR) (hb : ∀ t, t < n → 0 ≤ er t ∧ er t ≤ 100000 ∧ 0 ≤ s2 t ∧ s2 t ≤ 100000) (h0 : ∀ t, t < n → 0 ≤ iT nTh t) {u v : Nat} (hu : u < 2 * n) (hv : v < 2 * n) {Q : Int32 → Prop} (hQ : ∀ r : Int32, r.toInt = roomI er s2 (iT nTh) (paI nPa) u v → Q r) : wp_X4_roomBetween nER nMR nTh nPa (nI u) (nI v) Q := by
  intro x ex
  rw [dv2 (by omega)] at ex
  rw [rm2 (by omega), ex]
  have one : ∀ y : Int32, (y = if u % 2 = 0 then 1 else 0) → wp_X4_roomBetween_b15 Q (nI v) nER nMR nPa nTh y (nI (u / 2)) := by
    intro y ey
    unfold wp_X4_roomBetween_b15
    rw [dv2 (by omega), ixr12, cl_nI (by omega)]
    unfold roomI at hQ
    refine ⟨fun c => ?_, fun c => ?_⟩
    · have hc : ¬ v / 2 = u / 2 := fun z => c (by rw [z])
      rw [if_neg hc] at hQ
      refine ⟨fun c2 => hQ _ ?_, fun c2 => ⟨pk_in (v / 2 * 12 + u / 2) 144 (by omega), hQ _ ?_⟩⟩
      · rw [if_neg (fun z => by rw [if_pos z] at ey; rw [ey] at c2; exact absurd c2 (by decide))]; rfl
      · rw [if_pos (Classical.byContradiction (fun z => by rw [if_neg z] at ey; exact c2 ey))]; rfl
    · have hc : v / 2 = u / 2 := (nI_eq (by omega) (by omega)).mp c
      rw [if_pos hc] at hQ
      refine ⟨fun c2 => wp_rmOff hn hK (by omega) (hb _ (by omega)) (h0 _ (by omega)) (fun r hr => hQ r ?_), fun c2 => wp_rmOn hn hK (by omega) (hb _ (by omega)) (h0 _ (by omega)) (fun r hr => hQ r ?_)⟩
      · rw [if_neg (fun z => by rw [if_pos z] at ey; rw [ey] at c2; exact absurd c2 (by decide))]; exact hr
      · rw [if_pos (Classical.byContradiction (fun z => by rw [if_neg z] at ey; exact c2 ey))]; exact hr
  refine pk_eq (u % 2) 0 (fun z => one 1 (by rw [if_pos z])) (fun z => one 0 (by rw [if_neg z])) |>.symm
/-- the least room of a way -/
def WayRoom (er s2 th : Nat → Int) (pa : Nat → Nat → Int) (p : Nat → Nat) (m : Nat) (d : Int) : Prop := d ≤ 1073741824 ∧ (∀ i, i < m → d ≤ roomI er s2 th pa (p i) (p (i + 1))) ∧ (d = 1073741824 ∨ ∃ i, i < m ∧ d = roomI er s2 th pa (p i) (p (i + 1)))
theorem rw_in (hn : n ≤ 12) (hK : NetK n e md h er s2 nEa nMi nHa nER nMR) (hb : ∀ t, t < n → 0 ≤ er t ∧ er t ≤ 100000 ∧ 0 ≤ s2 t ∧ s2 t ≤ 100000) (h0 : ∀ t, t < n → 0 ≤ iT nTh t) {p : Nat → Nat} {m : Nat} (hm : m < 24) (hp : ∀ i, i ≤ m → p i < 2 * n) (hf0 : nFr (p 0) = -2) (hf : ∀ j, j < m → nFr (p (j + 1)) = nI (p j)) {Q : Int32 → Prop} :
    ∀ (j : Nat) (x : Int32), j ≤ m → (∀ r : Int32, r.toInt ≤ x.toInt → (∀ i, i < j → r.toInt ≤ roomI er s2 (iT nTh) (paI nPa) (p i) (p (i + 1))) → (r.toInt = x.toInt ∨ ∃ i, i < j ∧ r.toInt = roomI er s2 (iT nTh) (paI nPa) (p i) (p (i + 1))) → Q r) → wp_X4_roomOfWay_L12 nER nFr nMR nPa nTh Q (j + 1) x (nI (p j)) (nI (m - j)) := by
  intro j
  induction j with
  | zero =>
    intro x hj hQ
    have hp0 := hp 0 (Nat.zero_le _)
    rw [wp_X4_roomOfWay_L12, cl_nI (by omega), hf0]
    refine pk_le 24 (m - 0) (fun q => absurd q (by omega)) (fun q => ⟨pk_in (p 0) 24 (by omega), fun _ => hQ x (by omega) (fun i h => absurd h (by omega)) (Or.inl rfl), fun z => absurd (by decide) z⟩)
  | succ j ih =>
    intro x hj hQ
    have hpj := hp (j + 1) hj
    have hpi := hp j (by omega)
    rw [wp_X4_roomOfWay_L12, cl_nI (by omega), hf j (by omega)]
    refine pk_le 24 (m - (j + 1)) (fun q => absurd q (by omega)) (fun q => ⟨pk_in (p (j + 1)) 24 (by omega), fun z => absurd z (nI_pos (by omega)), fun _ => ⟨pk_in (p (j + 1)) 24 (by omega), wp_rb hn hK hb h0 hpi hpj (fun r hr y ey => ⟨pk_in (p (j + 1)) 24 (by omega), fun z ez w ew => ?_⟩)⟩⟩)
    have ey' : y.toInt = min r.toInt x.toInt := by rw [ey, ifs_min]
    rw [nI_1] at ew
    rw [ez, ew, show m - (j + 1) + 1 = m - j by omega]
    refine ih y (by omega) (fun r2 g1 g2 g3 => hQ r2 (by omega) (fun i hi => ?_) ?_)
    · rcases Nat.lt_or_ge i j with w | w
      · exact g2 i w
      · rw [show i = j by omega]; omega
    · rcases g3 with w | ⟨i, w1, w2⟩
      · rcases Int.le_total r.toInt x.toInt with v | v
        · exact Or.inr ⟨j, by omega, by omega⟩
        · exact Or.inl (by omega)
      · exact Or.inr ⟨i, by omega, w2⟩
theorem wp_rw (hn : n ≤ 12) (hK : NetK n e md h er s2 nEa nMi nHa nER nMR) (hb : ∀ t, t < n → 0 ≤ er t ∧ er t ≤ 100000 ∧ 0 ≤ s2 t ∧ s2 t ≤ 100000) (h0 : ∀ t, t < n → 0 ≤ iT nTh t) {p : Nat → Nat} {m : Nat} (hm : m < 24) (hp : ∀ i, i ≤ m → p i < 2 * n) (hf0 : nFr (p 0) = -2) (hf : ∀ j, j < m → nFr (p (j + 1)) = nI (p j)) {t : Nat} (hpm : p m = 2 * t + 1) {Q : Int32 → Prop} (hQ : ∀ r : Int32, WayRoom er s2 (iT nTh) (paI nPa) p m r.toInt → Q r) : wp_X4_roomOfWay nER nMR nTh nPa nFr (nI t) Q := by
  intro x ex
  rw [tw1, ← hpm] at ex
  have key := rw_in hn hK hb h0 hm hp hf0 hf (Q := Q) m 1073741824 (Nat.le_refl _) (fun r g1 g2 g3 => hQ r ⟨g1, g2, g3⟩)
  rw [Nat.sub_self, nI_0] at key
  rw [ex]
  exact ⟨_, key⟩
/-- whether a step lies on the way behind j -/
noncomputable def ina (p : Nat → Nat) (j m u v : Nat) : Int := @ite Int (∃ i, j ≤ i ∧ i < m ∧ p i = u ∧ p (i + 1) = v) (Classical.propDecidable _) 1 0
theorem ina_pos {p : Nat → Nat} {j m u v : Nat} (h : ∃ i, j ≤ i ∧ i < m ∧ p i = u ∧ p (i + 1) = v) : ina p j m u v = 1 := if_pos h
theorem ina_neg {p : Nat → Nat} {j m u v : Nat} (h : ¬ ∃ i, j ≤ i ∧ i < m ∧ p i = u ∧ p (i + 1) = v) : ina p j m u v = 0 := if_neg h
theorem ina_01 (p : Nat → Nat) (j m u v : Nat) : ina p j m u v = 0 ∨ ina p j m u v = 1 := by
  by_cases h : ∃ i, j ≤ i ∧ i < m ∧ p i = u ∧ p (i + 1) = v
  · exact Or.inr (ina_pos h)
  · exact Or.inl (ina_neg h)
theorem ina_step {p : Nat → Nat} {j m u v : Nat} (hi : ∀ i k, i < k → k ≤ m → p i ≠ p k) (hj : j < m) : ina p j m u v = ina p (j + 1) m u v + (if p j = u ∧ p (j + 1) = v then 1 else 0) := by
  by_cases h : p j = u ∧ p (j + 1) = v
  · rw [if_pos h, ina_pos ⟨j, Nat.le_refl _, hj, h.1, h.2⟩, ina_neg]
    · omega
    · rintro ⟨i, g1, g2, g3, g4⟩
      exact hi j i (by omega) (by omega) (by rw [h.1, g3])
  · rw [if_neg h]
    by_cases h2 : ∃ i, j + 1 ≤ i ∧ i < m ∧ p i = u ∧ p (i + 1) = v
    · rw [ina_pos h2]
      obtain ⟨i, g1, g2, g3, g4⟩ := h2
      rw [ina_pos ⟨i, by omega, g2, g3, g4⟩]; omega
    · rw [ina_neg h2, ina_neg]
      · omega
      · rintro ⟨i, g1, g2, g3, g4⟩
        by_cases hij : i = j
        · rw [hij] at g3 g4; exact h ⟨g3, g4⟩
        · exact h2 ⟨i, by omega, g2, g3, g4⟩
theorem ina_rev {p : Nat → Nat} {j m u v : Nat} (hi : ∀ i k, i < k → k ≤ m → p i ≠ p k) (h : ina p j m u v = 1) : ina p j m v u = 0 := by
  by_cases h2 : ∃ i, j ≤ i ∧ i < m ∧ p i = u ∧ p (i + 1) = v
  · obtain ⟨i, g1, g2, g3, g4⟩ := h2
    apply ina_neg
    rintro ⟨k, k1, k2, k3, k4⟩
    have a : i + 1 = k := by
      rcases Nat.lt_trichotomy (i + 1) k with w | w | w
      · exact absurd (by rw [g4, k3]) (hi (i + 1) k w (by omega))
      · exact w
      · exact absurd (by rw [g4, k3]) (hi k (i + 1) w (by omega))
    have b : k + 1 = i := by
      rcases Nat.lt_trichotomy (k + 1) i with w | w | w
      · exact absurd (by rw [k4, g3]) (hi (k + 1) i w (by omega))
      · exact w
      · exact absurd (by rw [k4, g3]) (hi i (k + 1) w (by omega))
    omega
  · rw [ina_neg h2] at h; omega
/-- what a flow along the steps behind j has changed -/
def Moved (n : Nat) (th th' : Nat → Int) (pa pa' : Nat → Nat → Int) (p : Nat → Nat) (j m : Nat) (d : Int) : Prop :=
  (∀ t, t < n → th' t = th t + d * (ina p j m (2 * t) (2 * t + 1) - ina p j m (2 * t + 1) (2 * t))) ∧ (∀ o t, o < n → t < n → o ≠ t → pa' o t = pa o t + d * (ina p j m (2 * o + 1) (2 * t) - ina p j m (2 * t) (2 * o + 1))) ∧ (∀ t, t < n → pa' t t = pa t t) ∧
  (∀ t, t < n → th' t - sT (fun o => pa' o t) n = th t - sT (fun o => pa o t) n + (if p j = 2 * t then d else 0)) ∧ ∀ t, t < n → th' t - sT (fun u => pa' t u) n = th t - sT (fun u => pa t u) n - (if p j = 2 * t + 1 then d else 0) + (if p m = 2 * t + 1 then d else 0)
end CFLOW
