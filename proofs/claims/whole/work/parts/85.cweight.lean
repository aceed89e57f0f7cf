/-! how often one can push: weights of steps -/
def SpA (e md er s2 th : Nat → Int) (u w : Nat) : Prop := (u % 2 = 0 ∧ w = u + 1 ∧ th (u / 2) < er (u / 2) ∧ md (u / 2) = e (u / 2) ∧ 0 < s2 (u / 2)) ∨ (u % 2 = 1 ∧ w + 1 = u ∧ er (u / 2) < th (u / 2) ∧ th (u / 2) ≤ er (u / 2) + s2 (u / 2) ∧ md (u / 2) = e (u / 2) ∧ 0 < er (u / 2))
noncomputable def WA (n : Nat) (e md h er s2 th : Nat → Int) (fr : Nat → Nat → Prop) (pa : Nat → Nat → Int) (b f : Nat → Int) (u w : Nat) : Nat := @ite Nat (Arc n (onT e md h er s2 th) (offT e md h er s2 th) th fr pa b f u w) (Classical.propDecidable _) (@ite Nat (SpA e md er s2 th u w) (Classical.propDecidable _) 2 1) 0
section CWEIGHT
variable {n : Nat} {e md h er s2 th th' ou : Nat → Int} {c : Nat → Int → Int} {fr : Nat → Nat → Prop} {pa pa' : Nat → Nat → Int} {b f : Nat → Int} {len v d : Int} {p : Nat → Nat} {m l : Nat}
theorem WA_le2 (u w : Nat) : WA n e md h er s2 th fr pa b f u w ≤ 2 := by
  unfold WA
  split
  · split <;> omega
  · omega
theorem WA_pos {u w : Nat} : 0 < WA n e md h er s2 th fr pa b f u w ↔ Arc n (onT e md h er s2 th) (offT e md h er s2 th) th fr pa b f u w := by
  unfold WA
  by_cases q : Arc n (onT e md h er s2 th) (offT e md h er s2 th) th fr pa b f u w
  · rw [if_pos q]
    refine ⟨fun _ => q, fun _ => ?_⟩
    split <;> omega
  · rw [if_neg q]
    exact ⟨fun z => absurd z (by omega), fun z => absurd z q⟩
theorem WA_mono {u w : Nat} (h1 : Arc n (onT e md h er s2 th') (offT e md h er s2 th') th' fr pa' b f u w → Arc n (onT e md h er s2 th) (offT e md h er s2 th) th fr pa b f u w) (h2 : Arc n (onT e md h er s2 th') (offT e md h er s2 th') th' fr pa' b f u w → SpA e md er s2 th' u w → SpA e md er s2 th u w) : WA n e md h er s2 th' fr pa' b f u w ≤ WA n e md h er s2 th fr pa b f u w := by
  unfold WA
  by_cases q : Arc n (onT e md h er s2 th') (offT e md h er s2 th') th' fr pa' b f u w
  · rw [if_pos q, if_pos (h1 q)]
    by_cases z : SpA e md er s2 th' u w
    · rw [if_pos z, if_pos (h2 q z)]; omega
    · rw [if_neg z]
      split <;> omega
  · rw [if_neg q]; omega
theorem WA_lost {u w : Nat} (h1 : Arc n (onT e md h er s2 th) (offT e md h er s2 th) th fr pa b f u w) (h2 : ¬ Arc n (onT e md h er s2 th') (offT e md h er s2 th') th' fr pa' b f u w ∨ (SpA e md er s2 th u w ∧ ¬ SpA e md er s2 th' u w)) : WA n e md h er s2 th' fr pa' b f u w < WA n e md h er s2 th fr pa b f u w := by
  unfold WA
  rw [if_pos h1]
  rcases h2 with q | ⟨q1, q2⟩
  · rw [if_neg q]
    split <;> omega
  · rw [if_pos q1, if_neg q2]
    split <;> omega
theorem onT_at (t : Nat) : onT e md h er s2 th t = sOn (e t) (md t) (h t) (er t) (er t + s2 t) (th t) := rfl
theorem offT_at (t : Nat) : offT e md h er s2 th t = sOff (e t) (md t) (h t) (er t) (er t + s2 t) (th t) := rfl
/-- a push: weights fall but behind it, and one falls on it -/
theorem push_W (hK : TwoK n c e md h er s2) (hfr : ∀ t, ¬ fr t t) (hF : FS n fr th ou pa v) (hi : ∀ i k, i < k → k ≤ m → p i ≠ p k) (hW : Way (2 * n) (Arc n (onT e md h er s2 th) (offT e md h er s2 th) th fr pa b f) (RootN n fr b) p m) (hR : WayRoom er s2 th pa p m d) (hd : 0 < d) (hM : Moved n th th' pa pa' p 0 m d) (hd2 : d < 1073741824) :
    (∀ u w, u < 2 * n → w < 2 * n → WA n e md h er s2 th' fr pa' b f u w ≤ WA n e md h er s2 th fr pa b f u w ∨ ∃ i, i < m ∧ u = p (i + 1) ∧ w = p i) ∧ ∃ i, i < m ∧ WA n e md h er s2 th' fr pa' b f (p i) (p (i + 1)) < WA n e md h er s2 th fr pa b f (p i) (p (i + 1)) := by
  obtain ⟨m1, m2, m3, m4, m5⟩ := hM
  obtain ⟨r1, r2, r3⟩ := hR
  have hpf : ∀ o t, o < n → t < n → 0 < pa o t → fr t o := fun o t ho ht z => (hF.2.1 o t ho ht).2.1 (by omega)
  have hpp : ∀ t, t < n → ¬ 0 < pa t t := fun t ht z => hfr t (hpf t t ht ht z)
  have hpp' : ∀ t, t < n → ¬ 0 < pa' t t := fun t ht z => hpp t ht (by rw [← m3 t ht]; exact z)
  have step : ∀ u w, ina p 0 m u w = 1 → Arc n (onT e md h er s2 th) (offT e md h er s2 th) th fr pa b f u w ∧ d ≤ roomI er s2 th pa u w := fun u w z => by
    obtain ⟨i, i1, i2, i3, i4⟩ := ina_ex z
    rw [← i3, ← i4]; exact ⟨hW.2.2 i i2, r2 i i2⟩
  refine ⟨fun u w hu hw => ?_, ?_⟩
  · rcases ina_01 p 0 m w u with hr | hr
    · refine Or.inl (WA_mono (fun hA => ?_) (fun hA hS => ?_))
      · rcases hA with ⟨t, h1, h2, h3, h4⟩ | ⟨t, h1, h2, h3, h4, h5⟩ | ⟨t, o, h1, h2, h3, h4, h5, h6⟩ | ⟨t, o, h1, h2, h3, h4, h5, h6⟩
        · subst h2; subst h3
          have z := m1 t h1
          rw [hr] at z
          rcases ina_01 p 0 m (2 * t) (2 * t + 1) with a | a
          · rw [a] at z
            refine Or.inl ⟨t, h1, rfl, rfl, ?_⟩
            rw [onT_at] at h4 ⊢
            rw [show th t = th' t by omega]; exact h4
          · exact (step _ _ a).1
        · subst h2; subst h3
          have z := m1 t h1
          rw [hr] at z
          rcases ina_01 p 0 m (2 * t + 1) (2 * t) with a | a
          · rw [a] at z
            refine Or.inr (Or.inl ⟨t, h1, rfl, rfl, by omega, ?_⟩)
            rw [offT_at] at h5 ⊢
            rw [show th t = th' t by omega]; exact h5
          · exact (step _ _ a).1
        · exact Or.inr (Or.inr (Or.inl ⟨t, o, h1, h2, h3, h4, h5, h6⟩))
        · by_cases hot : o = t
          · rw [hot] at h5; exact absurd h5 (hpp' t h1)
          · have z := m2 o t h2 h1 hot
            rw [h3, h4] at hr
            rw [hr] at z
            refine Or.inr (Or.inr (Or.inr ⟨t, o, h1, h2, h3, h4, ?_, h6⟩))
            rcases ina_01 p 0 m (2 * t) (2 * o + 1) with a | a <;> rw [a] at z <;> omega
      · rcases hS with ⟨s1, s2', s3, s4, s5⟩ | ⟨s1, s2', s3, s4, s5, s6⟩
        · have htn : u / 2 < n := by omega
          have z := m1 (u / 2) htn
          have e1 : 2 * (u / 2) = u := by omega
          rw [e1, ← s2', hr] at z
          refine Or.inl ⟨s1, s2', ?_, s4, s5⟩
          rcases ina_01 p 0 m u w with a | a <;> rw [a] at z <;> omega
        · have htn : u / 2 < n := by omega
          have z := m1 (u / 2) htn
          have e1 : 2 * (u / 2) + 1 = u := by omega
          have e2 : 2 * (u / 2) = w := by omega
          rw [e1, e2, hr] at z
          rcases ina_01 p 0 m u w with a | a
          · rw [a] at z
            exact Or.inr ⟨s1, s2', by omega, by omega, s5, s6⟩
          · rw [a] at z
            obtain ⟨k1, k2⟩ := step _ _ a
            rw [← e1, ← e2] at k1 k2 hA
            have k3 := arc_bwd hfr k1
            have k4 := arc_bwd hfr hA
            rw [room_bwd] at k2
            refine Or.inr ⟨s1, s2', by omega, ?_, s5, s6⟩
            -- above the middle the span would be the hard one, and the easy one
            rcases Int.lt_or_le (er (u / 2) + s2 (u / 2)) (th (u / 2)) with y | y
            · exfalso
              unfold rOff at k2
              have k := hK.1 (u / 2) htn
              have k' := k.2.2.2.1
              rw [if_neg (by omega), if_neg (by omega)] at k2
              have q3 := k3.2.2
              have q4 := k4.2.2
              rw [offT_at] at q3 q4
              unfold sOff at q3 q4
              rw [if_neg (by omega), if_neg (by omega)] at q3
              rw [if_neg (by omega), if_pos (by omega)] at q4
              have := hK.2.1 (u / 2) htn s6
              omega
            · exact y
    · obtain ⟨i, i1, i2, i3, i4⟩ := ina_ex hr
      exact Or.inr ⟨i, i2, i4.symm, i3.symm⟩
  · rcases r3 with z | ⟨i, i1, i2⟩
    · omega
    · refine ⟨i, i1, WA_lost (hW.2.2 i i1) ?_⟩
      have hia : ina p 0 m (p i) (p (i + 1)) = 1 := ina_pos ⟨i, Nat.zero_le _, i1, rfl, rfl⟩
      have hib := ina_rev hi hia
      rcases hW.2.2 i i1 with ⟨t, h1, h2, h3, h4⟩ | ⟨t, h1, h2, h3, h4, h5⟩ | ⟨t, o, h1, h2, h3, h4, h5, h6⟩ | ⟨t, o, h1, h2, h3, h4, h5, h6⟩
      · have k := hK.1 t h1
        obtain ⟨k1, k2, k3, k4, _⟩ := k
        have z := m1 t h1
        rw [h2, h3] at hia hib i2 ⊢
        rw [hia, hib] at z
        rw [room_fwd] at i2
        unfold rOn at i2
        rw [onT_at] at h4
        unfold sOn at h4
        by_cases c1 : th t < er t
        · rw [if_pos c1] at i2 h4
          by_cases c2 : md t = e t ∧ 0 < s2 t
          · refine Or.inr ⟨Or.inl ⟨by omega, rfl, by rw [show 2 * t / 2 = t by omega]; exact c1, by rw [show 2 * t / 2 = t by omega]; exact c2.1, by rw [show 2 * t / 2 = t by omega]; exact c2.2⟩, ?_⟩
            rintro (⟨_, _, q, _⟩ | ⟨q, _⟩)
            · rw [show 2 * t / 2 = t by omega] at q; omega
            · omega
          · refine Or.inl (fun hA => ?_)
            have hA' := (arc_fwd hpp' hA).2
            rw [onT_at] at hA'
            unfold sOn at hA'
            rw [if_neg (by omega)] at hA'
            have a0 := (hF.1 t h1).1
            have k5 := hK.2.1 t h1 (by omega)
            by_cases c3 : 0 < s2 t
            · rw [if_pos (by omega)] at hA'; omega
            · rw [if_neg (by omega)] at hA'; omega
        · rw [if_neg c1] at i2 h4
          by_cases c2 : th t < er t + s2 t
          · rw [if_pos c2] at i2 h4
            refine Or.inl (fun hA => ?_)
            have hA' := (arc_fwd hpp' hA).2
            rw [onT_at] at hA'
            unfold sOn at hA'
            rw [if_neg (by omega), if_neg (by omega)] at hA'
            have k5 := hK.2.2 t h1 (by omega)
            omega
          · rw [if_neg c2] at i2; omega
      · have k := hK.1 t h1
        obtain ⟨k1, k2, k3, k4, _⟩ := k
        have z := m1 t h1
        rw [h2, h3] at hia hib i2 ⊢
        rw [hia, hib] at z
        rw [room_bwd] at i2
        unfold rOff at i2
        rw [offT_at] at h5
        unfold sOff at h5
        by_cases c1 : th t ≤ er t
        · rw [if_pos c1] at i2
          refine Or.inl (fun hA => ?_)
          have hA' := (arc_bwd hfr hA).2.1
          omega
        · rw [if_neg c1] at i2 h5
          by_cases c2 : th t ≤ er t + s2 t
          · rw [if_pos c2] at i2 h5
            by_cases c3 : md t = e t ∧ 0 < er t
            · refine Or.inr ⟨Or.inr ⟨by omega, rfl, ?_, ?_, ?_, ?_⟩, ?_⟩
              · rw [show (2 * t + 1) / 2 = t by omega]; omega
              · rw [show (2 * t + 1) / 2 = t by omega]; omega
              · rw [show (2 * t + 1) / 2 = t by omega]; exact c3.1
              · rw [show (2 * t + 1) / 2 = t by omega]; exact c3.2
              · rintro (⟨q, _⟩ | ⟨_, _, q, _⟩)
                · omega
                · rw [show (2 * t + 1) / 2 = t by omega] at q; omega
            · refine Or.inl (fun hA => ?_)
              have hA' := (arc_bwd hfr hA).2
              rw [offT_at] at hA'
              unfold sOff at hA'
              rw [if_pos (by omega)] at hA'
              omega
          · rw [if_neg c2] at i2 h5
            refine Or.inl (fun hA => ?_)
            have hA' := (arc_bwd hfr hA).2
            rw [offT_at] at hA'
            unfold sOff at hA'
            by_cases c3 : 0 < s2 t
            · rw [if_neg (by omega), if_pos (by omega)] at hA'
              have := hK.2.2 t h1 c3
              omega
            · rw [if_pos (by omega)] at hA'
              have := hK.2.1 t h1 (by omega)
              omega
      · rw [h3, h4, room_pair (fun z => by rw [z] at h5; exact hfr _ h5)] at i2; omega
      · have hot : o ≠ t := fun z => by rw [z] at h5; exact hpp t h1 h5
        rw [h3, h4] at hia hib i2 ⊢
        rw [room_rev hot] at i2
        have z := m2 o t h2 h1 hot
        rw [hia, hib] at z
        refine Or.inl (fun hA => ?_)
        have := (arc_rev hot hA).2.2.1
        omega
/-- where the length is above the shortest, no way has endless room -/
theorem push_fin (hK : TwoK n c e md h er s2) (hfr : ∀ t, ¬ fr t t) (hF : FS n fr th ou pa v) (hv : v < 1073741824) (hbd : ∀ t, t < n → er t ≤ 100000 ∧ s2 t ≤ 100000) (hW : Way (2 * n) (Arc n (onT e md h er s2 th) (offT e md h er s2 th) th fr pa b f) (RootN n fr b) p m) (hl : p m = 2 * l + 1) (hT : TermN n fr f len (p m)) (hR : WayRoom er s2 th pa p m d) {E : Nat → Int} {sh : Int} (hE : ∀ t, t < n → 0 ≤ E t ∧ E t + h t ≤ sh ∧ ∀ o, fr t o → E o + h o ≤ E t) (hsh : sh < len) : d < 1073741824 := by
  obtain ⟨r1, r2, r3⟩ := hR
  have hpf : ∀ o t, o < n → t < n → 0 < pa o t → fr t o := fun o t ho ht z => (hF.2.1 o t ho ht).2.1 (by omega)
  apply Classical.byContradiction
  intro hno
  have key : ∀ i, i ≤ m → ∀ t, t < n → (p i = 2 * t → b t ≤ E t) ∧ (p i = 2 * t + 1 → f t ≤ E t + h t) := by
    intro i
    induction i with
    | zero =>
      intro _ t ht
      obtain ⟨s, q1, q2, q3, q4⟩ := hW.1
      refine ⟨fun z => ?_, fun z => by omega⟩
      have : s = t := by omega
      rw [← this, q4]; exact (hE s q1).1
    | succ i ih =>
      intro hi t ht
      have ih' := ih (by omega)
      have hr := r2 i (by omega)
      rcases hW.2.2 i (by omega) with ⟨t', h1, h2, h3, h4⟩ | ⟨t', h1, h2, h3, h4, h5⟩ | ⟨t', o, h1, h2, h3, h4, h5, h6⟩ | ⟨t', o, h1, h2, h3, h4, h5, h6⟩
      · refine ⟨fun z => by omega, fun z => ?_⟩
        have e1 : t' = t := by omega
        subst e1
        rw [h2, h3, room_fwd] at hr
        have k := (ih' t' ht).1 h2
        have bd := hbd t' ht
        have a1 := (hF.1 t' ht).1
        have kk := hK.1 t' ht
        obtain ⟨k1, k2, k3, k4, _⟩ := kk
        unfold rOn at hr
        rw [onT_at] at h4
        unfold sOn at h4
        by_cases c1 : th t' < er t'
        · rw [if_pos c1] at hr; omega
        · rw [if_neg c1] at hr h4
          by_cases c2 : th t' < er t' + s2 t'
          · rw [if_pos c2] at hr; omega
          · rw [if_neg c2] at h4; omega
      · exfalso
        rw [h2, h3, room_bwd] at hr
        have kk := hK.1 t' h1
        have k4 := kk.2.2.2.1
        have := (rOff_le (er := er t') (mr := er t' + s2 t') (th := th t') kk.2.2.1 (by omega) h4).2
        have := (hF.1 t' h1).2.2.2.2.1
        omega
      · refine ⟨fun z => ?_, fun z => by omega⟩
        have e1 : t' = t := by omega
        subst e1
        have k := (ih' o h2).2 h3
        have := (hE t' ht).2.2 o h5
        omega
      · exfalso
        rw [h3, h4, room_rev (fun z => by rw [z] at h5; exact hfr _ (hpf _ _ h1 h1 h5))] at hr
        have := (hF.2.1 o t' h2 h1).2.2
        omega
  obtain ⟨l', g1, g2, g3, g4⟩ := hT
  have k := (key m (Nat.le_refl _) l' g1).2 g2
  have := (hE l' g1).2.1
  omega
end CWEIGHT
