/-! what a push along a shortest way does to the flow -/
def innF (n : Nat) (th : Nat → Int) (pa : Nat → Nat → Int) (t : Nat) : Int := th t - sT (fun o => pa o t) n
/-- a flow of value v -/
def FS (n : Nat) (fr : Nat → Nat → Prop) (th ou : Nat → Int) (pa : Nat → Nat → Int) (v : Int) : Prop :=
  (∀ t, t < n → 0 ≤ th t ∧ 0 ≤ ou t ∧ 0 ≤ innF n th pa t ∧ th t = ou t + sT (fun u => pa t u) n ∧ th t ≤ v ∧ ou t ≤ v) ∧ (∀ o t, o < n → t < n → 0 ≤ pa o t ∧ (pa o t ≠ 0 → fr t o) ∧ pa o t ≤ v) ∧ sT ou n = v
theorem FS.flow {n : Nat} {fr : Nat → Nat → Prop} {th ou : Nat → Int} {pa : Nat → Nat → Int} {v : Int} (H : FS n fr th ou pa v) : Flow n fr th ou (innF n th pa) pa := by
  refine ⟨fun t ht => ?_, fun o t ho ht => ⟨(H.2.1 o t ho ht).1, (H.2.1 o t ho ht).2.1⟩⟩
  obtain ⟨a1, a2, a3, a4, _⟩ := H.1 t ht
  exact ⟨a1, a2, a3, a4, by unfold innF; omega⟩
section CPUSH
variable {n : Nat} {e md h er s2 th th' ou : Nat → Int} {c : Nat → Int → Int} {fr : Nat → Nat → Prop} {pa pa' : Nat → Nat → Int} {b f : Nat → Int} {len v d : Int} {p : Nat → Nat} {m l : Nat}
/-- what is known of the tasks of a net -/
def TwoK (n : Nat) (c : Nat → Int → Int) (e md h er s2 : Nat → Int) : Prop := (∀ t, t < n → TwoSl (c t) (e t) (md t) (h t) (er t) (s2 t)) ∧ (∀ t, t < n → 0 < er t → h t < e t) ∧ ∀ t, t < n → 0 < s2 t → h t < md t
theorem arc_fwd (hne : ∀ t, t < n → ¬ 0 < pa t t) {t : Nat} (H : Arc n (onT e md h er s2 th) (offT e md h er s2 th) th fr pa b f (2 * t) (2 * t + 1)) : t < n ∧ b t + onT e md h er s2 th t = f t := by
  rcases H with ⟨t', h1, h2, h3, h4⟩ | ⟨t', h1, h2, h3, h4, h5⟩ | ⟨t', o, h1, h2, h3, h4, h5, h6⟩ | ⟨t', o, h1, h2, h3, h4, h5, h6⟩
  · have : t' = t := by omega
    subst this; exact ⟨h1, h4⟩
  · omega
  · omega
  · have a : t' = t := by omega
    have b : o = t := by omega
    subst a; subst b
    exact absurd h5 (hne _ h1)
theorem arc_bwd (hfr : ∀ t, ¬ fr t t) {t : Nat} (H : Arc n (onT e md h er s2 th) (offT e md h er s2 th) th fr pa b f (2 * t + 1) (2 * t)) : t < n ∧ 0 < th t ∧ b t + offT e md h er s2 th t = f t := by
  rcases H with ⟨t', h1, h2, h3, h4⟩ | ⟨t', h1, h2, h3, h4, h5⟩ | ⟨t', o, h1, h2, h3, h4, h5, h6⟩ | ⟨t', o, h1, h2, h3, h4, h5, h6⟩
  · omega
  · have : t' = t := by omega
    subst this; exact ⟨h1, h4, h5⟩
  · have a : t' = t := by omega
    have b : o = t := by omega
    subst a; subst b
    exact absurd h5 (hfr _)
  · omega
theorem arc_pair {o t : Nat} (hot : o ≠ t) (H : Arc n (onT e md h er s2 th) (offT e md h er s2 th) th fr pa b f (2 * o + 1) (2 * t)) : t < n ∧ o < n ∧ fr t o ∧ b t = f o := by
  rcases H with ⟨t', h1, h2, h3, h4⟩ | ⟨t', h1, h2, h3, h4, h5⟩ | ⟨t', o', h1, h2, h3, h4, h5, h6⟩ | ⟨t', o', h1, h2, h3, h4, h5, h6⟩
  · omega
  · omega
  · have a : t' = t := by omega
    have b : o' = o := by omega
    subst a; subst b
    exact ⟨h1, h2, h5, h6⟩
  · omega
theorem arc_rev {o t : Nat} (hot : o ≠ t) (H : Arc n (onT e md h er s2 th) (offT e md h er s2 th) th fr pa b f (2 * t) (2 * o + 1)) : t < n ∧ o < n ∧ 0 < pa o t ∧ f o = b t := by
  rcases H with ⟨t', h1, h2, h3, h4⟩ | ⟨t', h1, h2, h3, h4, h5⟩ | ⟨t', o', h1, h2, h3, h4, h5, h6⟩ | ⟨t', o', h1, h2, h3, h4, h5, h6⟩
  · omega
  · omega
  · omega
  · have a : t' = t := by omega
    have b : o' = o := by omega
    subst a; subst b
    exact ⟨h1, h2, h5, h6⟩
theorem arc_step (hfr : ∀ t, ¬ fr t t) (hpf : ∀ o t, o < n → t < n → 0 < pa o t → fr t o) {u w : Nat} (H : Arc n (onT e md h er s2 th) (offT e md h er s2 th) th fr pa b f u w) : StepK n u w := by
  rcases H with ⟨t', h1, h2, h3, h4⟩ | ⟨t', h1, h2, h3, h4, h5⟩ | ⟨t', o, h1, h2, h3, h4, h5, h6⟩ | ⟨t', o, h1, h2, h3, h4, h5, h6⟩
  · exact ⟨by omega, by omega, by omega, Or.inl (by omega)⟩
  · exact ⟨by omega, by omega, by omega, Or.inl (by omega)⟩
  · exact ⟨by omega, by omega, by omega, Or.inr (by omega)⟩
  · exact ⟨by omega, by omega, by omega, Or.inr (by omega)⟩
theorem rOff_le {er mr th : Int} (h1 : 0 ≤ er) (h2 : er ≤ mr) (h : 0 < th) : 0 < rOff er mr th ∧ rOff er mr th ≤ th := by
  unfold rOff; repeat' split
  all_goals omega
/-- the rooms of the steps of a way -/
theorem room_fwd (t : Nat) : roomI er s2 th pa (2 * t) (2 * t + 1) = rOn (er t) (er t + s2 t) (th t) := by
  unfold roomI
  rw [if_pos (by omega), if_pos (by omega), show 2 * t / 2 = t by omega]
theorem room_bwd (t : Nat) : roomI er s2 th pa (2 * t + 1) (2 * t) = rOff (er t) (er t + s2 t) (th t) := by
  unfold roomI
  rw [if_pos (by omega), if_neg (by omega), show (2 * t + 1) / 2 = t by omega]
theorem room_rev {o t : Nat} (hot : o ≠ t) : roomI er s2 th pa (2 * t) (2 * o + 1) = pa o t := by
  unfold roomI
  rw [if_neg (by omega), if_pos (by omega), show (2 * o + 1) / 2 = o by omega, show 2 * t / 2 = t by omega]
theorem room_pair {o t : Nat} (hot : o ≠ t) : roomI er s2 th pa (2 * o + 1) (2 * t) = 1073741824 := by
  unfold roomI
  rw [if_neg (by omega), if_neg (by omega)]
theorem room_pos (hK : TwoK n c e md h er s2) (hfr : ∀ t, ¬ fr t t) (hpf : ∀ o t, o < n → t < n → 0 < pa o t → fr t o) {u w : Nat} (H : Arc n (onT e md h er s2 th) (offT e md h er s2 th) th fr pa b f u w) : 0 < roomI er s2 th pa u w := by
  rcases H with ⟨t', h1, h2, h3, h4⟩ | ⟨t', h1, h2, h3, h4, h5⟩ | ⟨t', o, h1, h2, h3, h4, h5, h6⟩ | ⟨t', o, h1, h2, h3, h4, h5, h6⟩
  · rw [h2, h3, room_fwd]; exact rOn_pos
  · rw [h2, h3, room_bwd]
    have k := hK.1 t' h1
    exact (rOff_le k.2.2.1 (by have := k.2.2.2.1; omega) h4).1
  · rw [h3, h4, room_pair (fun z => by rw [z] at h5; exact hfr _ h5)]; omega
  · rw [h3, h4, room_rev (fun z => by rw [z] at h5; exact hfr _ (hpf _ _ h1 h1 h5))]; exact h5
/-- all that a push needs to know -/
def Push (n : Nat) (c : Nat → Int → Int) (e md h er s2 th ou : Nat → Int) (fr : Nat → Nat → Prop) (pa : Nat → Nat → Int) (b f : Nat → Int) (len v : Int) : Prop :=
  TwoK n c e md h er s2 ∧ (∀ t, ¬ fr t t) ∧ FS n fr th ou pa v ∧ Tight n c len th ou (innF n th pa) (mnT c e md h er s2 th) pa b f
theorem ina_ex {p : Nat → Nat} {j m u v : Nat} (h : ina p j m u v = 1) : ∃ i, j ≤ i ∧ i < m ∧ p i = u ∧ p (i + 1) = v := Classical.byContradiction (fun q => by rw [ina_neg q] at h; omega)
theorem push_one (H : Push n c e md h er s2 th ou fr pa b f len v) (hi : ∀ i k, i < k → k ≤ m → p i ≠ p k) (hW : Way (2 * n) (Arc n (onT e md h er s2 th) (offT e md h er s2 th) th fr pa b f) (RootN n fr b) p m) (hl : p m = 2 * l + 1) (hT : TermN n fr f len (p m)) (hR : WayRoom er s2 th pa p m d) (hM : Moved n th th' pa pa' p 0 m d) :
    0 < d ∧ Push n c e md h er s2 th' (fun t => ou t + (if t = l then d else 0)) fr pa' b f len (v + d) := by
  obtain ⟨hK, hfr, hF, hG⟩ := H
  obtain ⟨m1, m2, m3, m4, m5⟩ := hM
  obtain ⟨r1, r2, r3⟩ := hR
  have hpf : ∀ o t, o < n → t < n → 0 < pa o t → fr t o := fun o t ho ht z => (hF.2.1 o t ho ht).2.1 (by omega)
  have hpp : ∀ t, t < n → ¬ 0 < pa t t := fun t ht z => hfr t (hpf t t ht ht z)
  have hd : 0 < d := by
    rcases r3 with z | ⟨i, z1, z2⟩
    · omega
    · rw [z2]; exact room_pos hK hfr hpf (hW.2.2 i z1)
  obtain ⟨l', g1, g2, g3, g4⟩ := hT
  have hll : l' = l := by omega
  subst hll
  have p0 : ∃ s, s < n ∧ p 0 = 2 * s ∧ b s = 0 := by
    obtain ⟨s, q1, q2, q3, q4⟩ := hW.1
    exact ⟨s, q1, q2, q4⟩
  obtain ⟨s, ps1, ps2, ps3⟩ := p0
  -- each step's arc and room
  have step : ∀ u w, ina p 0 m u w = 1 → Arc n (onT e md h er s2 th) (offT e md h er s2 th) th fr pa b f u w ∧ d ≤ roomI er s2 th pa u w := fun u w z => by
    obtain ⟨i, i1, i2, i3, i4⟩ := ina_ex z
    rw [← i3, ← i4]; exact ⟨hW.2.2 i i2, r2 i i2⟩
  have thc : ∀ t, t < n → (th' t = th t) ∨ (th' t = th t + d ∧ b t + onT e md h er s2 th t = f t ∧ d ≤ rOn (er t) (er t + s2 t) (th t)) ∨ (th' t = th t - d ∧ 0 < th t ∧ b t + offT e md h er s2 th t = f t ∧ d ≤ rOff (er t) (er t + s2 t) (th t)) := by
    intro t ht
    have z := m1 t ht
    rcases ina_01 p 0 m (2 * t) (2 * t + 1) with a | a
    · rcases ina_01 p 0 m (2 * t + 1) (2 * t) with q | q
      · rw [a, q] at z; simp at z; exact Or.inl z
      · obtain ⟨s1, s2'⟩ := step _ _ q
        have k := arc_bwd hfr s1
        rw [room_bwd] at s2'
        rw [a, q] at z
        exact Or.inr (Or.inr ⟨by omega, k.2.1, k.2.2, s2'⟩)
    · have q := ina_rev hi a
      obtain ⟨s1, s2'⟩ := step _ _ a
      have k := arc_fwd hpp s1
      rw [room_fwd] at s2'
      rw [a, q] at z
      exact Or.inr (Or.inl ⟨by omega, k.2, s2'⟩)
  have pac : ∀ o t, o < n → t < n → (pa' o t = pa o t) ∨ (pa' o t = pa o t + d ∧ fr t o ∧ b t = f o) ∨ (pa' o t = pa o t - d ∧ 0 < pa o t ∧ f o = b t ∧ d ≤ pa o t) := by
    intro o t ho ht
    by_cases hot : o = t
    · rw [hot]; exact Or.inl (m3 t ht)
    · have z := m2 o t ho ht hot
      rcases ina_01 p 0 m (2 * o + 1) (2 * t) with a | a
      · rcases ina_01 p 0 m (2 * t) (2 * o + 1) with q | q
        · rw [a, q] at z; simp at z; exact Or.inl z
        · obtain ⟨s1, s2'⟩ := step _ _ q
          have k := arc_rev hot s1
          rw [room_rev hot] at s2'
          rw [a, q] at z
          exact Or.inr (Or.inr ⟨by omega, k.2.2.1, k.2.2.2, s2'⟩)
      · have q := ina_rev hi a
        obtain ⟨s1, s2'⟩ := step _ _ a
        have k := arc_pair hot s1
        rw [a, q] at z
        exact Or.inr (Or.inl ⟨by omega, k.2.2.1, k.2.2.2⟩)
  have hFl := hF.flow
  refine ⟨hd, hK, hfr, ⟨fun t ht => ?_, fun o t ho ht => ?_, ?_⟩, fun t ht => ⟨?_, fun z => ?_, fun z => ?_⟩, fun o t ho ht z => ?_⟩
  · obtain ⟨a1, a2, a3, a4, a5, a6⟩ := hF.1 t ht
    have k := hK.1 t ht
    have x4 := m4 t ht
    have x5 := m5 t ht
    rw [ps2] at x4 x5
    rw [if_neg (show ¬ 2 * s = 2 * t + 1 by omega)] at x5
    have e1 : (if p m = 2 * t + 1 then d else 0) = (if t = l' then d else 0) := by
      by_cases q : t = l'
      · rw [if_pos q, if_pos (by omega)]
      · rw [if_neg q, if_neg (by omega)]
    rw [e1] at x5
    dsimp only
    refine ⟨?_, ?_, ?_, ?_, ?_, ?_⟩
    · rcases thc t ht with z | ⟨z, _⟩ | ⟨z, z1, z2, z3⟩
      · omega
      · omega
      · have k4 := k.2.2.2.1
        have := (rOff_le (er := er t) (mr := er t + s2 t) (th := th t) k.2.2.1 (by omega) z1).2; omega
    · split <;> omega
    · unfold innF at a3 ⊢
      rw [x4]
      split <;> omega
    · omega
    · rcases thc t ht with z | ⟨z, _⟩ | ⟨z, z1, z2, z3⟩ <;> omega
    · split <;> omega
  · obtain ⟨a1, a2, a3⟩ := hF.2.1 o t ho ht
    rcases pac o t ho ht with z | ⟨z, z1, z2⟩ | ⟨z, z1, z2, z3⟩
    · rw [z]; exact ⟨a1, a2, by omega⟩
    · exact ⟨by omega, fun _ => z1, by omega⟩
    · exact ⟨by omega, fun _ => a2 (by omega), by omega⟩
  · rw [sT_one, hF.2.2, if_pos g1]
  · have k := hK.1 t ht
    have g := (hG.1 t ht).1
    have a1 := (hF.1 t ht).1
    rcases thc t ht with z | ⟨z, z1, z2⟩ | ⟨z, z1, z2, z3⟩
    · have e1 : mnT c e md h er s2 th' t = mnT c e md h er s2 th t := by unfold mnT onT; rw [z]
      rw [e1, z]; exact g
    · have := on_push k a1 hd z2 (x := f t - b t) (by show f t - b t = onT e md h er s2 th t; omega)
      unfold mnT onT
      rw [z]; exact this
    · have := off_push k hd z3 (x := f t - b t) (by show f t - b t = offT e md h er s2 th t; omega) z1
      unfold mnT onT
      rw [z]; exact this
  · dsimp only at z
    by_cases q : t = l'
    · rw [q]; exact g3
    · rw [if_neg q] at z; exact (hG.1 t ht).2.1 (by omega)
  · have x4 := m4 t ht
    rw [ps2] at x4
    unfold innF at z
    rw [x4] at z
    by_cases q : 2 * s = 2 * t
    · have : s = t := by omega
      rw [← this]; exact ps3
    · rw [if_neg q] at z
      exact (hG.1 t ht).2.2 (by unfold innF; omega)
  · rcases pac o t ho ht with w | ⟨w, w1, w2⟩ | ⟨w, w1, w2, w3⟩
    · exact hG.2 o t ho ht (by rw [← w]; exact z)
    · exact w2.symm
    · exact w2
end CPUSH
