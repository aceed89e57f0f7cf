/-! the reference's push, and all pushes: a least cut -/
def PM (r : Nat → Nat → Int) (fv : Nat → Nat) (v : Int) : Nat → Nat → Prop
  | 0, c => c = 24
  | m + 1, c => c = 24 ∨ (v ≤ r (fv c) c ∧ PM r fv v m (fv c))
def Tree (m : Nat → Int64) (go fr : Nat → Int32) (rk : Nat → Nat) : Prop := ∀ c, c < 26 → ¬ go c = 0 → c ≠ 24 → rowOf fr c < 26 ∧ fr c = nI (rowOf fr c) ∧ ¬ go (rowOf fr c) = 0 ∧ rk (rowOf fr c) < rk c ∧ ¬ rm m (rowOf fr c) c = 0
theorem Found.tree {m : Nat → Int64} {go fr : Nat → Int32} (H : Found m go fr) : ∃ rk, Tree m go fr rk ∧ ¬ go 24 = 0 ∧ (∀ c, c < 26 → go c = 0 ∨ go c = 1) ∧ ∀ a c, a < 26 → c < 26 → ¬ go a = 0 → ¬ rm m a c = 0 → ¬ go c = 0 := by
  obtain ⟨rk, h1, h2, h3, h4⟩ := H
  refine ⟨rk, fun c hc g1 g2 => ?_, h1, h2, h3⟩
  obtain ⟨u, k1, k2, k3, k4, k5⟩ := h4 c hc g1 g2
  have e : rowOf fr c = u := by unfold rowOf; rw [k2]; exact cl_nI (by omega)
  rw [e]
  exact ⟨k1, k2, k3, k4, k5⟩
section MPUSH
variable {m : Nat → Int64} {go fr : Nat → Int32} {rk : Nat → Nat}
theorem pu_min (hT : Tree m go fr rk) (hB : ∀ u v, u < 26 → v < 26 → 0 ≤ rm m u v) {Q : Int64 → Prop} : ∀ (j c : Nat) (x : Int64), rk c ≤ j → c < 26 → ¬ go c = 0 → 0 < x.toInt → (∀ x' : Int64, 0 < x'.toInt → x'.toInt ≤ x.toInt → PM (rm m) (rowOf fr) x'.toInt j c → Q x') → wp_X9_push_L7 fr m Q (j + 1) x (nI c) := by
  intro j
  induction j with
  | zero =>
    intro c x hj hc hg hx hQ
    rw [wp_X9_push_L7]
    refine pk_eq c 24 (fun e => hQ x hx (by omega) e) (fun e => ?_)
    have := (hT c hc hg e).2.2.2.1
    omega
  | succ j ih =>
    intro c x hj hc hg hx hQ
    rw [wp_X9_push_L7]
    refine pk_eq c 24 (fun e => hQ x hx (by omega) (Or.inl e)) (fun e => ?_)
    obtain ⟨t1, t2, t3, t4, t5⟩ := hT c hc hg e
    rw [cl_nI (by omega), t2, ix26, cl_nI (by omega)]
    refine ⟨pk_in c 26 hc, pk_in (26 * rowOf fr c + c) 676 (by omega), fun y ey => ⟨pk_in c 26 hc, fun z ez => ?_⟩⟩
    have hr := hB (rowOf fr c) c t1 hc
    have ey' : y.toInt = min (rm m (rowOf fr c) c) x.toInt := by rw [ey, ifl_min]; rfl
    rw [ez]
    refine ih (rowOf fr c) y (by omega) t1 t3 (by omega) (fun x' g1 g2 g3 => hQ x' g1 (by omega) (Or.inr ⟨by omega, g3⟩))
theorem pushE_sum (r : Nat → Nat → Int) {u v : Nat} (d : Int) (a b : Nat) : pushE r u v d a b + pushE r u v d b a = r a b + r b a := by
  unfold pushE addE
  repeat' split
  all_goals omega
theorem pu_up (hT : Tree m go fr rk) {K : Int} (hK : K ≤ 1152921504606846976) (hB : ∀ u v, u < 26 → v < 26 → 0 ≤ rm m u v ∧ rm m u v ≤ K) {d : Int64} (hd : 0 < d.toInt) {Q : (Nat → Int64) → Prop}
    (hQ : ∀ m', (∀ u v, u < 26 → v < 26 → 0 ≤ rm m' u v) → (∀ u v, u < 26 → v < 26 → rm m' u v + rm m' v u = rm m u v + rm m v u) → (∀ Y : Nat → Bool, cutv (rm m') 26 Y = cutv (rm m) 26 Y + d.toInt * (bI (Y 25) - bI (Y 24))) → Q m') :
    ∀ (j c : Nat) (mc : Nat → Int64), rk c ≤ j → c < 26 → ¬ go c = 0 → PM (rm m) (rowOf fr) d.toInt j c → (∀ v, v < 26 → ¬ go v = 0 → v ≠ 24 → rk v ≤ rk c → rm mc (rowOf fr v) v = rm m (rowOf fr v) v) → (∀ u v, u < 26 → v < 26 → 0 ≤ rm mc u v) → (∀ u v, u < 26 → v < 26 → rm mc u v + rm mc v u = rm m u v + rm m v u) → (∀ Y : Nat → Bool, cutv (rm mc) 26 Y = cutv (rm m) 26 Y + d.toInt * (bI (Y 25) - bI (Y c))) → wp_X9_push_L47 fr d Q (j + 1) (nI c) mc := by
  intro j
  induction j with
  | zero =>
    intro c mc hj hc hg hp h1 h2 h3 h4
    rw [wp_X9_push_L47]
    refine pk_eq c 24 (fun e => hQ mc h2 h3 (fun Y => by rw [h4 Y, e])) (fun e => ?_)
    have := (hT c hc hg e).2.2.2.1
    omega
  | succ j ih =>
    intro c mc hj hc hg hp h1 h2 h3 h4
    rw [wp_X9_push_L47]
    refine pk_eq c 24 (fun e => hQ mc h2 h3 (fun Y => by rw [h4 Y, e])) (fun e => ?_)
    obtain ⟨t1, t2, t3, t4, t5⟩ := hT c hc hg e
    have huc : rowOf fr c ≠ c := fun z => by rw [z] at t4; omega
    have hpm : d.toInt ≤ rm m (rowOf fr c) c ∧ PM (rm m) (rowOf fr) d.toInt j (rowOf fr c) := by
      rcases hp with z | z
      · exact absurd z e
      · exact z
    rw [cl_nI (by omega), t2, ix26, ix26, cl_nI (by omega), cl_nI (by omega)]
    refine ⟨pk_in c 26 hc, pk_in (26 * rowOf fr c + c) 676 (by omega), pk_in (26 * rowOf fr c + c) 676 (by omega), fun m1 e1 => ⟨pk_in c 26 hc, pk_in (26 * c + rowOf fr c) 676 (by omega), pk_in (26 * c + rowOf fr c) 676 (by omega), fun m2 e2 => ⟨pk_in c 26 hc, fun z ez => ?_⟩⟩⟩
    have hold := h1 c hc hg e (Nat.le_refl _)
    have b1 := hB (rowOf fr c) c t1 hc
    have b2 := hB c (rowOf fr c) hc t1
    have s1 := h3 c (rowOf fr c) hc t1
    have n1 := h2 c (rowOf fr c) hc t1
    have hmc : (mc (26 * rowOf fr c + c)).toInt = rm m (rowOf fr c) c := hold
    have hsub := l_sub (a := mc (26 * rowOf fr c + c)) (b := d) (by omega) (by omega)
    have e1' : ∀ u v, u < 26 → v < 26 → rm m1 u v = if u = rowOf fr c ∧ v = c then rm mc u v - d.toInt else rm mc u v := by
      intro u v hu hv
      rw [e1, rm_upd hc hv]
      by_cases h : u = rowOf fr c ∧ v = c
      · rw [if_pos h, if_pos h, hsub, h.1, h.2]; rfl
      · rw [if_neg h, if_neg h]
    have hm1 : (m1 (26 * c + rowOf fr c)).toInt = rm mc c (rowOf fr c) := by
      have := e1' c (rowOf fr c) hc t1
      rw [if_neg (by omega)] at this
      exact this
    have hadd := l_add (a := m1 (26 * c + rowOf fr c)) (b := d) (by omega) (by omega)
    have e2' : ∀ u v, u < 26 → v < 26 → rm m2 u v = pushE (rm mc) (rowOf fr c) c d.toInt u v := by
      intro u v hu hv
      rw [e2, rm_upd t1 hv]
      unfold pushE addE
      by_cases h : u = c ∧ v = rowOf fr c
      · rw [if_pos h, if_pos h, if_neg (by omega), hadd, hm1, h.1, h.2]; omega
      · rw [if_neg h, if_neg h, e1' u v hu hv]
        by_cases h' : u = rowOf fr c ∧ v = c
        · rw [if_pos h', if_pos h']; omega
        · rw [if_neg h', if_neg h']; omega
    rw [ez]
    refine ih (rowOf fr c) m2 (by omega) t1 t3 hpm.2 (fun v hv g1 g2 g3 => ?_) (fun u v hu hv => ?_) (fun u v hu hv => ?_) (fun Y => ?_)
    · obtain ⟨k1, k2, k3, k4, k5⟩ := hT v hv g1 g2
      rw [e2' _ _ k1 hv]
      have hvc : ¬ v = c := fun z => by rw [z] at g3; omega
      have hvu : ¬ (rowOf fr v = c ∧ v = rowOf fr c) := fun ⟨z1, z2⟩ => by rw [z1] at k4; omega
      unfold pushE addE
      rw [if_neg (fun z => hvc z.2), if_neg hvu]
      have := h1 v hv g1 g2 (by omega)
      omega
    · rw [e2' u v hu hv]
      have := h2 u v hu hv
      unfold pushE addE
      by_cases h : u = rowOf fr c ∧ v = c
      · rw [if_pos h, if_neg (by omega)]
        rw [h.1, h.2] at *
        omega
      · rw [if_neg h]
        split <;> omega
    · rw [e2' u v hu hv, e2' v u hv hu, pushE_sum, h3 u v hu hv]
    · rw [cutv_congr e2', cutv_push t1 hc, h4 Y, Int.mul_sub, Int.mul_sub, Int.mul_sub]
      omega
theorem wp_push (hT : Tree m go fr rk) {K : Int} (hK : K ≤ 1152921504606846976) (hB : ∀ u v, u < 26 → v < 26 → 0 ≤ rm m u v ∧ rm m u v ≤ K) (h25 : ¬ go 25 = 0) {Q : (Nat → Int64) → Prop}
    (hQ : ∀ (d : Int) m', 0 < d → (∀ u v, u < 26 → v < 26 → 0 ≤ rm m' u v) → (∀ u v, u < 26 → v < 26 → rm m' u v + rm m' v u = rm m u v + rm m v u) → (∀ Y : Nat → Bool, cutv (rm m') 26 Y = cutv (rm m) 26 Y + d * (bI (Y 25) - bI (Y 24))) → Q m') : wp_X9_push m fr Q := by
  refine ⟨rk 25 + 1, pu_min hT (fun u v hu hv => (hB u v hu hv).1) (rk 25) 25 9223372036854775807 (Nat.le_refl _) (by omega) h25 (by decide) (fun x' g1 g2 g3 => ⟨rk 25 + 1, pu_up hT hK hB g1 (fun m' k1 k2 k3 => hQ _ m' g1 k1 k2 k3) (rk 25) 25 m (Nat.le_refl _) (by omega) h25 g3 (fun _ _ _ _ _ => rfl) (fun u v hu hv => (hB u v hu hv).1) (fun _ _ _ _ => rfl) (fun Y => ?_)⟩)⟩
  rw [Int.sub_self, Int.mul_zero, Int.add_zero]
end MPUSH
/-- the least of the least cuts -/
def MinCut (r0 : Nat → Nat → Int) (go : Nat → Int32) : Prop := goB go 24 = true ∧ goB go 25 = false ∧ (∀ c, c < 26 → go c = 0 ∨ go c = 1) ∧ (∀ Y : Nat → Bool, Y 24 = true → Y 25 = false → cutv r0 26 (goB go) ≤ cutv r0 26 Y) ∧ ∀ Y : Nat → Bool, Y 24 = true → Y 25 = false → cutv r0 26 Y ≤ cutv r0 26 (goB go) → ∀ c, c < 26 → goB go c = true → Y c = true
theorem goB_t {go : Nat → Int32} {c : Nat} : goB go c = true ↔ ¬ go c = 0 := by simp [goB]
theorem goB_f {go : Nat → Int32} {c : Nat} : goB go c = false ↔ go c = 0 := by simp [goB]
theorem fl_loop {r0 : Nat → Nat → Int} {K : Int} (hK : K ≤ 576460752303423488) {Y0 : Nat → Bool} (hs : Y0 24 = true) (ht : Y0 25 = false) {Q : (Nat → Int64) → (Nat → Int32) → (Nat → Int32) → (Nat → Int32) → Prop} (hQ : ∀ m go fr qu, MinCut r0 go → Q m go fr qu) :
    ∀ (j : Nat) (mc : Nat → Int64) (go fr qu : Nat → Int32), cutv (rm mc) 26 Y0 ≤ j → (∀ u v, u < 26 → v < 26 → 0 ≤ rm mc u v) → (∀ u v, u < 26 → v < 26 → rm mc u v + rm mc v u ≤ 2 * K) → (∃ F, ∀ Y : Nat → Bool, Y 24 = true → Y 25 = false → cutv (rm mc) 26 Y = cutv r0 26 Y - F) → wp_X9_cut_L383 Q (j + 1) mc go fr qu := by
  intro j
  induction j with
  | zero =>
    intro mc go fr qu h0 h1 h2 h3
    rw [wp_X9_cut_L383]
    refine wp_rch (fun go' fr' qu' hF => ⟨fun e => hQ mc go' fr' qu' ?_, fun e => ?_⟩)
    · obtain ⟨rk, t1, t2, t3, t4⟩ := hF.tree
      obtain ⟨F, hF2⟩ := h3
      have mcut := min_cut (r0 := r0) (r := rm mc) (N := 26) (s := 24) (t := 25) (F := F) (R := goB go') h1 hF2 (goB_t.mpr t2) (goB_f.mpr e) (fun a c ha hc g1 g2 => Classical.byContradiction (fun z => t4 a c ha hc (goB_t.mp g1) z (goB_f.mp g2))) rk (rowOf fr') (fun c hc g1 g2 => by
        obtain ⟨k1, k2, k3, k4, k5⟩ := t1 c hc (goB_t.mp g1) g2
        exact ⟨k1, goB_t.mpr k3, k4, k5⟩)
      exact ⟨goB_t.mpr t2, goB_f.mpr e, t3, mcut.1, mcut.2⟩
    · obtain ⟨rk, t1, t2, t3, t4⟩ := hF.tree
      refine wp_push t1 (K := 2 * K) (by omega) (fun u v hu hv => ⟨h1 u v hu hv, by have := h2 u v hu hv; have := h1 v u hv hu; omega⟩) e (fun d m' k0 k1 k2 k3 => ?_)
      exfalso
      have c1 := k3 Y0
      have c2 := cutv_nonneg (r := rm m') (N := 26) (Y := Y0) k1
      rw [hs, ht, bI_t, bI_f] at c1
      omega
  | succ j ih =>
    intro mc go fr qu h0 h1 h2 h3
    rw [wp_X9_cut_L383]
    refine wp_rch (fun go' fr' qu' hF => ⟨fun e => hQ mc go' fr' qu' ?_, fun e => ?_⟩)
    · obtain ⟨rk, t1, t2, t3, t4⟩ := hF.tree
      obtain ⟨F, hF2⟩ := h3
      have mcut := min_cut (r0 := r0) (r := rm mc) (N := 26) (s := 24) (t := 25) (F := F) (R := goB go') h1 hF2 (goB_t.mpr t2) (goB_f.mpr e) (fun a c ha hc g1 g2 => Classical.byContradiction (fun z => t4 a c ha hc (goB_t.mp g1) z (goB_f.mp g2))) rk (rowOf fr') (fun c hc g1 g2 => by
        obtain ⟨k1, k2, k3, k4, k5⟩ := t1 c hc (goB_t.mp g1) g2
        exact ⟨k1, goB_t.mpr k3, k4, k5⟩)
      exact ⟨goB_t.mpr t2, goB_f.mpr e, t3, mcut.1, mcut.2⟩
    · obtain ⟨rk, t1, t2, t3, t4⟩ := hF.tree
      refine wp_push t1 (K := 2 * K) (by omega) (fun u v hu hv => ⟨h1 u v hu hv, by have := h2 u v hu hv; have := h1 v u hv hu; omega⟩) e (fun d m' k0 k1 k2 k3 => ?_)
      refine ih m' go' fr' qu' ?_ k1 (fun u v hu hv => by rw [k2 u v hu hv]; exact h2 u v hu hv) ?_
      · have c1 := k3 Y0
        rw [hs, ht, bI_t, bI_f] at c1
        omega
      · obtain ⟨F, hF2⟩ := h3
        refine ⟨F + d, fun Y y1 y2 => ?_⟩
        rw [k3 Y, hF2 Y y1 y2, y1, y2, bI_t, bI_f]
        omega
