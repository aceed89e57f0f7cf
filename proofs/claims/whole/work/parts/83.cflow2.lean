/-! the class: flow along a way, step by step -/
section CFLOW2
variable {n : Nat} {nTh nPa nFr : Nat → Int32}
theorem paI_upd {f : Nat → Int32} {o' t' : Nat} (ht' : t' < 12) {v : Int32} {o t : Nat} (ht : t < 12) : paI (upd f (o' * 12 + t') v) o t = if o = o' ∧ t = t' then v.toInt else paI f o t := by
  unfold paI upd
  by_cases h : o = o' ∧ t = t'
  · rw [if_pos h, if_pos (by omega)]
  · rw [if_neg h, if_neg (by omega)]
/-- a step of a way: to the other moment of a task, or on to a follower, or back -/
def StepK (n u v : Nat) : Prop := u < 2 * n ∧ v < 2 * n ∧ u ≠ v ∧ (u / 2 = v / 2 ∨ u % 2 ≠ v % 2)
def stT (u v : Nat) (d : Int) (t : Nat) : Int := (if u = 2 * t ∧ v = 2 * t + 1 then d else 0) - (if u = 2 * t + 1 ∧ v = 2 * t then d else 0)
def stP (u v : Nat) (d : Int) (o t : Nat) : Int := (if u = 2 * o + 1 ∧ v = 2 * t then d else 0) - (if u = 2 * t ∧ v = 2 * o + 1 then d else 0)
theorem wp_fb (hn : n ≤ 12) {u v : Nat} (hS : StepK n u v) {d : Int32} (hd : 0 ≤ d.toInt ∧ d.toInt ≤ 1073741824) (hb : ∀ t, t < n → 0 ≤ iT nTh t ∧ iT nTh t ≤ 1000000000 ∨ (¬ u / 2 = t ∨ ¬ v / 2 = t)) (hb2 : ∀ o t, o < n → t < n → 0 ≤ paI nPa o t ∧ paI nPa o t ≤ 1000000000 ∨ stP u v 1 o t = 0) {Q : (Nat → Int32) → (Nat → Int32) → Prop}
    (hQ : ∀ th pa : Nat → Int32, (∀ t, t < n → iT th t = iT nTh t + stT u v d.toInt t) → (∀ o t, o < n → t < n → o ≠ t → paI pa o t = paI nPa o t + stP u v d.toInt o t) → (∀ t, t < n → paI pa t t = paI nPa t t) → Q th pa) : wp_X4_flowBetween nTh nPa (nI u) (nI v) d Q := by
  obtain ⟨hu, hv, hne, hk⟩ := hS
  intro x ex y ey
  rw [dv2 (by omega)] at ex ey
  rw [rm2 (by omega), ex, ey]
  have one : ∀ y : Int32, (y = if u % 2 = 0 then 1 else 0) → wp_X4_flowBetween_b21 Q d y (nI (u / 2)) (nI (v / 2)) nTh nPa := by
    intro y ey
    have yes : ¬ y = 0 → u % 2 = 0 := fun z => Classical.byContradiction (fun w => z (by rw [ey, if_neg w]))
    have no : y = 0 → u % 2 = 1 := fun z => by
      rcases Nat.mod_two_eq_zero_or_one u with w | w
      · rw [if_pos w] at ey; rw [ey] at z; exact absurd z (by decide)
      · exact w
    unfold wp_X4_flowBetween_b21
    rw [ixr12, ixr12, cl_nI (by omega), cl_nI (by omega), cl_nI (by omega)]
    refine ⟨fun c => ?_, fun c => ?_⟩
    · have hc : ¬ v / 2 = u / 2 := fun z => c (by rw [z])
      refine ⟨fun c2 => ⟨pk_in (u / 2 * 12 + v / 2) 144 (by omega), pk_in (u / 2 * 12 + v / 2) 144 (by omega), fun pa ep => hQ nTh pa (fun t ht => ?_) (fun o t ho ht hot => ?_) (fun t ht => ?_)⟩, fun c2 => ⟨pk_in (v / 2 * 12 + u / 2) 144 (by omega), pk_in (v / 2 * 12 + u / 2) 144 (by omega), fun pa ep => hQ nTh pa (fun t ht => ?_) (fun o t ho ht hot => ?_) (fun t ht => ?_)⟩⟩
      · unfold stT; rw [if_neg (by omega), if_neg (by omega)]; omega
      · have h2 := no c2
        rw [ep, paI_upd (by omega) (by omega)]
        by_cases h : o = u / 2 ∧ t = v / 2
        · have hbb : 0 ≤ paI nPa o t ∧ paI nPa o t ≤ 1000000000 := by
            rcases hb2 o t ho ht with w | w
            · exact w
            · unfold stP at w; rw [if_pos (by omega), if_neg (by omega)] at w; omega
          rw [h.1, h.2] at hbb
          have hbb' : 0 ≤ (nPa (u / 2 * 12 + v / 2)).toInt ∧ (nPa (u / 2 * 12 + v / 2)).toInt ≤ 1000000000 := hbb
          rw [if_pos h, i_add (by omega) (by omega)]
          unfold stP
          rw [if_pos (by omega), if_neg (by omega), h.1, h.2]
          unfold paI; omega
        · rw [if_neg h]
          unfold stP
          rw [if_neg (by omega), if_neg (by omega)]; omega
      · rw [ep, paI_upd (by omega) (by omega), if_neg (by omega)]
      · unfold stT; rw [if_neg (by omega), if_neg (by omega)]; omega
      · have h2 := yes c2
        rw [ep, paI_upd (by omega) (by omega)]
        by_cases h : o = v / 2 ∧ t = u / 2
        · have hbb : 0 ≤ paI nPa o t ∧ paI nPa o t ≤ 1000000000 := by
            rcases hb2 o t ho ht with w | w
            · exact w
            · unfold stP at w; rw [if_neg (by omega), if_pos (by omega)] at w; omega
          rw [h.1, h.2] at hbb
          have hbb' : 0 ≤ (nPa (v / 2 * 12 + u / 2)).toInt ∧ (nPa (v / 2 * 12 + u / 2)).toInt ≤ 1000000000 := hbb
          rw [if_pos h, i_sub (by omega) (by omega)]
          unfold stP
          rw [if_neg (by omega), if_pos (by omega), h.1, h.2]
          unfold paI; omega
        · rw [if_neg h]
          unfold stP
          rw [if_neg (by omega), if_neg (by omega)]; omega
      · rw [ep, paI_upd (by omega) (by omega), if_neg (by omega)]
    · have hc : v / 2 = u / 2 := (nI_eq (by omega) (by omega)).mp c
      have hbb : 0 ≤ (nTh (u / 2)).toInt ∧ (nTh (u / 2)).toInt ≤ 1000000000 := by
        rcases hb (u / 2) (by omega) with w | w
        · exact w
        · omega
      have hP : ∀ o t, o < n → t < n → o ≠ t → paI nPa o t = paI nPa o t + stP u v d.toInt o t := fun o t ho ht hot => by
        unfold stP; rw [if_neg (by omega), if_neg (by omega)]; omega
      refine ⟨pk_in (u / 2) 12 (by omega), fun c2 => ?_, fun c2 => ?_⟩
      · have h2 := no c2
        have hneg := i_neg (a := d) (by omega) (by omega)
        unfold wp_X4_flowBetween_b49
        rw [cl_nI (by omega)]
        refine ⟨pk_in (u / 2) 12 (by omega), fun th et => hQ th nPa (fun t ht => ?_) hP (fun _ _ => rfl)⟩
        unfold iT
        rw [et]
        by_cases h : t = u / 2
        · rw [h, upd_at, i_add (by omega) (by omega), hneg]
          unfold stT
          rw [if_neg (by omega), if_pos (by omega)]; omega
        · rw [upd_ne h]
          unfold stT
          rw [if_neg (by omega), if_neg (by omega)]; omega
      · have h2 := yes c2
        unfold wp_X4_flowBetween_b49
        rw [cl_nI (by omega)]
        refine ⟨pk_in (u / 2) 12 (by omega), fun th et => hQ th nPa (fun t ht => ?_) hP (fun _ _ => rfl)⟩
        unfold iT
        rw [et]
        by_cases h : t = u / 2
        · rw [h, upd_at, i_add (by omega) (by omega)]
          unfold stT
          rw [if_pos (by omega), if_neg (by omega)]; omega
        · rw [upd_ne h]
          unfold stT
          rw [if_neg (by omega), if_neg (by omega)]; omega
  exact pk_eq (u % 2) 0 (fun z => one 1 (by rw [if_pos z])) (fun z => one 0 (by rw [if_neg z])) |>.symm
/-- the sums around a step -/
theorem step_sums (hn : n ≤ 12) {u v : Nat} (hS : StepK n u v) {d : Int} {th th' : Nat → Int} {pa pa' : Nat → Nat → Int} (h1 : ∀ t, t < n → th' t = th t + stT u v d t) (h2 : ∀ o t, o < n → t < n → o ≠ t → pa' o t = pa o t + stP u v d o t) (h3 : ∀ t, t < n → pa' t t = pa t t) :
    (∀ t, t < n → th' t - sT (fun o => pa' o t) n = th t - sT (fun o => pa o t) n + (if u = 2 * t then d else 0) - (if v = 2 * t then d else 0)) ∧ ∀ t, t < n → th' t - sT (fun w => pa' t w) n = th t - sT (fun w => pa t w) n - (if u = 2 * t + 1 then d else 0) + (if v = 2 * t + 1 then d else 0) := by
  obtain ⟨hu, hv, hne, hk⟩ := hS
  constructor
  · intro t ht
    have e : sT (fun o => pa' o t) n = sT (fun o => (pa o t + (if o = u / 2 then (if u % 2 = 1 ∧ v = 2 * t ∧ u / 2 ≠ t then d else 0) else 0)) + (if o = v / 2 then (if u = 2 * t ∧ v % 2 = 1 ∧ v / 2 ≠ t then -d else 0) else 0)) n := by
      refine sT_congr (fun o ho => ?_)
      try dsimp only
      by_cases hot : o = t
      · rw [hot, h3 t ht]
        have z1 : (if t = u / 2 then (if u % 2 = 1 ∧ v = 2 * t ∧ u / 2 ≠ t then d else 0) else 0) = 0 := by
          split
          · rw [if_neg (by omega)]
          · rfl
        have z2 : (if t = v / 2 then (if u = 2 * t ∧ v % 2 = 1 ∧ v / 2 ≠ t then -d else 0) else 0) = 0 := by
          split
          · rw [if_neg (by omega)]
          · rfl
        rw [z1, z2]; omega
      · rw [h2 o t ho ht hot]
        unfold stP
        have z1 : (if o = u / 2 then (if u % 2 = 1 ∧ v = 2 * t ∧ u / 2 ≠ t then d else 0) else 0) = (if u = 2 * o + 1 ∧ v = 2 * t then d else 0) := by
          by_cases q : u = 2 * o + 1 ∧ v = 2 * t
          · rw [if_pos q, if_pos (by omega), if_pos (by omega)]
          · rw [if_neg q]
            split
            · rw [if_neg (by omega)]
            · rfl
        have z2 : (if o = v / 2 then (if u = 2 * t ∧ v % 2 = 1 ∧ v / 2 ≠ t then -d else 0) else 0) = -(if u = 2 * t ∧ v = 2 * o + 1 then d else 0) := by
          by_cases q : u = 2 * t ∧ v = 2 * o + 1
          · rw [if_pos q, if_pos (by omega), if_pos (by omega)]
          · rw [if_neg q]
            split
            · rw [if_neg (by omega)]; rfl
            · rfl
        rw [z1, z2]; omega
    rw [e, sT_one, sT_one, if_pos (show u / 2 < n by omega), if_pos (show v / 2 < n by omega), h1 t ht]
    unfold stT
    by_cases a1 : u = 2 * t
    · by_cases a2 : v = 2 * t + 1
      · rw [if_pos ⟨a1, a2⟩, if_neg (by omega), if_neg (by omega), if_neg (by omega), if_pos a1, if_neg (by omega)]; omega
      · rw [if_neg (by omega), if_neg (by omega), if_neg (by omega), if_pos (by omega), if_pos a1, if_neg (by omega)]; omega
    · by_cases a2 : v = 2 * t
      · by_cases a3 : u = 2 * t + 1
        · rw [if_neg (by omega), if_pos (by omega), if_neg (by omega), if_neg (by omega), if_neg a1, if_pos a2]; omega
        · rw [if_neg (by omega), if_neg (by omega), if_pos (by omega), if_neg (by omega), if_neg a1, if_pos a2]; omega
      · rw [if_neg (by omega), if_neg (by omega), if_neg (by omega), if_neg (by omega), if_neg a1, if_neg a2]; omega
  · intro t ht
    have e : sT (fun w => pa' t w) n = sT (fun w => (pa t w + (if w = v / 2 then (if u = 2 * t + 1 ∧ v % 2 = 0 ∧ v / 2 ≠ t then d else 0) else 0)) + (if w = u / 2 then (if v = 2 * t + 1 ∧ u % 2 = 0 ∧ u / 2 ≠ t then -d else 0) else 0)) n := by
      refine sT_congr (fun o ho => ?_)
      try dsimp only
      by_cases hot : o = t
      · rw [hot, h3 t ht]
        have z1 : (if t = v / 2 then (if u = 2 * t + 1 ∧ v % 2 = 0 ∧ v / 2 ≠ t then d else 0) else 0) = 0 := by
          split
          · rw [if_neg (by omega)]
          · rfl
        have z2 : (if t = u / 2 then (if v = 2 * t + 1 ∧ u % 2 = 0 ∧ u / 2 ≠ t then -d else 0) else 0) = 0 := by
          split
          · rw [if_neg (by omega)]
          · rfl
        rw [z1, z2]; omega
      · rw [h2 t o ht ho (fun z => hot z.symm)]
        unfold stP
        have z1 : (if o = v / 2 then (if u = 2 * t + 1 ∧ v % 2 = 0 ∧ v / 2 ≠ t then d else 0) else 0) = (if u = 2 * t + 1 ∧ v = 2 * o then d else 0) := by
          by_cases q : u = 2 * t + 1 ∧ v = 2 * o
          · rw [if_pos q, if_pos (by omega), if_pos (by omega)]
          · rw [if_neg q]
            split
            · rw [if_neg (by omega)]
            · rfl
        have z2 : (if o = u / 2 then (if v = 2 * t + 1 ∧ u % 2 = 0 ∧ u / 2 ≠ t then -d else 0) else 0) = -(if u = 2 * o ∧ v = 2 * t + 1 then d else 0) := by
          by_cases q : u = 2 * o ∧ v = 2 * t + 1
          · rw [if_pos q, if_pos (by omega), if_pos (by omega)]
          · rw [if_neg q]
            split
            · rw [if_neg (by omega)]; rfl
            · rfl
        rw [z1, z2]; omega
    have eta : sT (pa t) n = sT (fun w => pa t w) n := rfl
    rw [e, sT_one, sT_one, if_pos (show v / 2 < n by omega), if_pos (show u / 2 < n by omega), h1 t ht]
    unfold stT
    by_cases a1 : u = 2 * t + 1
    · by_cases a2 : v = 2 * t
      · rw [if_neg (by omega), if_pos ⟨a1, a2⟩, if_neg (by omega), if_neg (by omega), if_pos a1, if_neg (by omega)]; omega
      · rw [if_neg (by omega), if_neg (by omega), if_pos (by omega), if_neg (by omega), if_pos a1, if_neg (by omega)]; omega
    · by_cases a2 : v = 2 * t + 1
      · by_cases a3 : u = 2 * t
        · rw [if_pos (by omega), if_neg (by omega), if_neg (by omega), if_neg (by omega), if_neg a1, if_pos a2]; omega
        · rw [if_neg (by omega), if_neg (by omega), if_neg (by omega), if_pos (by omega), if_neg a1, if_pos a2]; omega
      · rw [if_neg (by omega), if_neg (by omega), if_neg (by omega), if_neg (by omega), if_neg a1, if_neg a2]; omega
theorem moved_step (hn : n ≤ 12) {p : Nat → Nat} {j m : Nat} (hi : ∀ i k, i < k → k ≤ m → p i ≠ p k) (hj : j < m) (hS : StepK n (p j) (p (j + 1))) {d : Int} {th0 th th' : Nat → Int} {pa0 pa pa' : Nat → Nat → Int} (H : Moved n th0 th pa0 pa p (j + 1) m d) (h1 : ∀ t, t < n → th' t = th t + stT (p j) (p (j + 1)) d t) (h2 : ∀ o t, o < n → t < n → o ≠ t → pa' o t = pa o t + stP (p j) (p (j + 1)) d o t) (h3 : ∀ t, t < n → pa' t t = pa t t) : Moved n th0 th' pa0 pa' p j m d := by
  obtain ⟨a1, a2, a3, a4, a5⟩ := H
  obtain ⟨s1, s2⟩ := step_sums hn hS h1 h2 h3
  have mulif : ∀ (c : Prop) [Decidable c], d * (if c then 1 else 0) = if c then d else 0 := fun c _ => by split <;> simp
  refine ⟨fun t ht => ?_, fun o t ho ht hot => ?_, fun t ht => by rw [h3 t ht, a3 t ht], fun t ht => ?_, fun t ht => ?_⟩
  · rw [h1 t ht, a1 t ht, ina_step hi hj, ina_step hi hj]
    unfold stT
    rw [Int.mul_sub, Int.mul_sub, Int.mul_add, Int.mul_add, mulif, mulif]
    omega
  · rw [h2 o t ho ht hot, a2 o t ho ht hot, ina_step hi hj, ina_step hi hj]
    unfold stP
    rw [Int.mul_sub, Int.mul_sub, Int.mul_add, Int.mul_add, mulif, mulif]
    omega
  · rw [s1 t ht, a4 t ht]; omega
  · rw [s2 t ht, a5 t ht]; omega
theorem fa_in (hn : n ≤ 12) {p : Nat → Nat} {m : Nat} (hm : m < 24) (hi : ∀ i k, i < k → k ≤ m → p i ≠ p k) (hS : ∀ i, i < m → StepK n (p i) (p (i + 1))) (hp0 : p 0 < 2 * n) (hf0 : nFr (p 0) = -2) (hf : ∀ j, j < m → nFr (p (j + 1)) = nI (p j)) {d : Int32} (hd : 0 ≤ d.toInt ∧ d.toInt ≤ 1073741824) {th0 : Nat → Int} {pa0 : Nat → Nat → Int} (hb : ∀ t, t < n → 0 ≤ th0 t ∧ th0 t ≤ 1000000000) (hb2 : ∀ o t, o < n → t < n → 0 ≤ pa0 o t ∧ pa0 o t ≤ 1000000000) {Q : (Nat → Int32) → (Nat → Int32) → Prop}
    (hQ : ∀ th pa : Nat → Int32, Moved n th0 (iT th) pa0 (paI pa) p 0 m d.toInt → Q th pa) : ∀ (j : Nat) (th pa : Nat → Int32), j ≤ m → Moved n th0 (iT th) pa0 (paI pa) p j m d.toInt → wp_X4_flowAlong_L9 d nFr Q (j + 1) (nI (p j)) (nI (m - j)) th pa := by
  intro j
  induction j with
  | zero =>
    intro th pa hj H
    rw [wp_X4_flowAlong_L9, cl_nI (by omega), hf0]
    exact pk_le 24 (m - 0) (fun q => absurd q (by omega)) (fun q => ⟨pk_in (p 0) 24 (by omega), fun _ => hQ th pa H, fun z => absurd (by decide) z⟩)
  | succ j ih =>
    intro th pa hj H
    have hSj := hS j (by omega)
    have h1 := hSj.1
    have h2 := hSj.2.1
    rw [wp_X4_flowAlong_L9, cl_nI (by omega), hf j (by omega)]
    refine pk_le 24 (m - (j + 1)) (fun q => absurd q (by omega)) (fun q => ⟨pk_in (p (j + 1)) 24 (by omega), fun z => absurd z (nI_pos (by omega)), fun _ => ⟨pk_in (p (j + 1)) 24 (by omega), ?_⟩⟩)
    -- the variable of this step is as it was
    have nof : ina p (j + 1) m (p j) (p (j + 1)) = 0 := ina_neg (by
      rintro ⟨i, g1, g2, g3, g4⟩
      exact hi j i (by omega) (by omega) g3.symm)
    have nob : ina p (j + 1) m (p (j + 1)) (p j) = 0 := ina_neg (by
      rintro ⟨i, g1, g2, g3, g4⟩
      exact hi j (i + 1) (by omega) (by omega) g4.symm)
    refine wp_fb hn hSj hd (fun t ht => ?_) (fun o t ho ht => ?_) (fun th' pa' k1 k2 k3 => ⟨pk_in (p (j + 1)) 24 (by omega), fun z ez w ew => ?_⟩)
    · by_cases hc : p j / 2 = t ∧ p (j + 1) / 2 = t
      · refine Or.inl ?_
        have hne := hSj.2.2.1
        have e1 : iT th t = th0 t := by
          rw [H.1 t ht]
          rcases Nat.mod_two_eq_zero_or_one (p j) with w | w
          · rw [show 2 * t = p j by omega, show p j + 1 = p (j + 1) by omega, nof, nob]; simp
          · rw [show 2 * t = p (j + 1) by omega, show p (j + 1) + 1 = p j by omega, nof, nob]; simp
        rw [e1]; exact hb t ht
      · exact Or.inr (by omega)
    · by_cases hc : stP (p j) (p (j + 1)) 1 o t = 0
      · exact Or.inr hc
      · refine Or.inl ?_
        have hot : o = t ∨ o ≠ t := by omega
        rcases hot with w | w
        · rw [w, H.2.2.1 t ht]; exact hb2 t t ht ht
        · have e1 : paI pa o t = pa0 o t := by
            rw [H.2.1 o t ho ht w]
            unfold stP at hc
            by_cases c1 : p j = 2 * o + 1 ∧ p (j + 1) = 2 * t
            · rw [← c1.1, ← c1.2, nof, nob]; simp
            · by_cases c2 : p j = 2 * t ∧ p (j + 1) = 2 * o + 1
              · rw [← c2.1, ← c2.2, nof, nob]; simp
              · rw [if_neg c1, if_neg c2] at hc; exact absurd rfl hc
          rw [e1]; exact hb2 o t ho ht
    · rw [nI_1] at ew
      rw [ez, ew, show m - (j + 1) + 1 = m - j by omega]
      exact ih th' pa' (by omega) (moved_step hn hi (by omega) hSj H k1 k2 k3)
theorem moved_start {th0 : Nat → Int} {pa0 : Nat → Nat → Int} {p : Nat → Nat} {m l : Nat} (hl : p m = 2 * l + 1) {d : Int} : Moved n th0 th0 pa0 pa0 p m m d := by
  have z : ∀ u v, ina p m m u v = 0 := fun u v => ina_neg (by rintro ⟨i, h1, h2, _⟩; omega)
  exact ⟨fun t _ => by rw [z, z]; simp, fun o t _ _ _ => by rw [z, z]; simp, fun _ _ => rfl, fun t _ => by rw [if_neg (by omega)]; omega, fun t _ => by omega⟩
/-- flow along a way -/
theorem wp_fa (hn : n ≤ 12) {p : Nat → Nat} {m : Nat} (hm : m < 24) (hi : ∀ i k, i < k → k ≤ m → p i ≠ p k) (hS : ∀ i, i < m → StepK n (p i) (p (i + 1))) (hp0 : p 0 < 2 * n) (hf0 : nFr (p 0) = -2) (hf : ∀ j, j < m → nFr (p (j + 1)) = nI (p j)) {l : Nat} (hl : l < n) (hpm : p m = 2 * l + 1) {d : Int32} (hd : 0 ≤ d.toInt ∧ d.toInt ≤ 1073741824) {nOu : Nat → Int32} (hb : ∀ t, t < n → 0 ≤ iT nTh t ∧ iT nTh t ≤ 1000000000) (hb2 : ∀ o t, o < n → t < n → 0 ≤ paI nPa o t ∧ paI nPa o t ≤ 1000000000) (hb3 : 0 ≤ iT nOu l ∧ iT nOu l ≤ 1000000000) {Q : (Nat → Int32) → (Nat → Int32) → (Nat → Int32) → Prop}
    (hQ : ∀ th pa ou : Nat → Int32, Moved n (iT nTh) (iT th) (paI nPa) (paI pa) p 0 m d.toInt → (∀ t, t < n → iT ou t = iT nOu t + (if t = l then d.toInt else 0)) → Q th pa ou) : wp_X4_flowAlong nTh nPa nOu nFr (nI l) d Q := by
  intro x ex
  rw [tw1, ← hpm] at ex
  have key := fa_in hn hm hi hS hp0 hf0 hf hd hb hb2 (Q := fun th pa => vp_in (nI l) 12 ∧ vp_in (nI l) 12 ∧ ∀ nOu_17 : Nat → Int32, nOu_17 = upd nOu (Int32.toNatClampNeg (nI l)) ((nOu (Int32.toNatClampNeg (nI l))) + d) → Q th pa nOu_17) (fun th pa H => ⟨pk_in l 12 (by omega), pk_in l 12 (by omega), fun ou eo => hQ th pa ou H (fun t ht => ?_)⟩) m nTh nPa (Nat.le_refl _) (moved_start hpm)
  · rw [Nat.sub_self, nI_0] at key
    rw [ex]
    exact ⟨_, key⟩
  · rw [cl_nI (by omega)] at eo
    unfold iT at hb3 ⊢
    rw [eo]
    by_cases h : t = l
    · rw [h, upd_at, if_pos rfl, i_add (by omega) (by omega)]
    · rw [upd_ne h, if_neg h]; omega
end CFLOW2
