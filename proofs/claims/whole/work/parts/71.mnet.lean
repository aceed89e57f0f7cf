/-! the reference's net: what each edge adds to the cut of a set -/
def mvb (s : Int) (b : Nat → Int) (Y : Nat → Bool) (t : Nat) : Int := b t + (if Y t then s else 0)
def mvf (s : Int) (f : Nat → Int) (Y : Nat → Bool) (t : Nat) : Int := f t + (if Y (12 + t) then s else 0)
def SrcY (Y : Nat → Bool) : Prop := Y 24 = true ∧ Y 25 = false
/-- a step changed rooms: where all is well nothing is added, else very much -/
def Adds (m m' : Nat → Int64) (ok : (Nat → Bool) → Prop) : Prop := ∀ Y, SrcY Y → (ok Y → cutv (rm m') 26 Y = cutv (rm m) 26 Y) ∧ (¬ ok Y → cutv (rm m) 26 Y + 1125899906842624 ≤ cutv (rm m') 26 Y)
theorem Adds.refl {m : Nat → Int64} {ok : (Nat → Bool) → Prop} (h : ∀ Y, SrcY Y → ok Y) : Adds m m ok := fun Y hY => ⟨fun _ => rfl, fun q => absurd (h Y hY) q⟩
theorem Adds.trans {m m' m'' : Nat → Int64} {ok ok' ok'' : (Nat → Bool) → Prop} (h : Adds m m' ok) (h' : Adds m' m'' ok') (hk : ∀ Y, SrcY Y → (ok'' Y ↔ ok Y ∧ ok' Y)) : Adds m m'' ok'' := by
  intro Y hY
  obtain ⟨a1, a2⟩ := h Y hY
  obtain ⟨b1, b2⟩ := h' Y hY
  rw [hk Y hY]
  refine ⟨fun ⟨q1, q2⟩ => by rw [b1 q2, a1 q1], fun q => ?_⟩
  by_cases q1 : ok Y
  · have q2 : ¬ ok' Y := fun z => q ⟨q1, z⟩
    have := a1 q1; have := b2 q2; omega
  · have c1 := a2 q1
    by_cases q2 : ok' Y
    · have := b1 q2; omega
    · have := b2 q2; omega
theorem cutv_at {m m' : Nat → Int64} {a c : Nat} {d : Int} (ha : a < 26) (hc : c < 26) (h : ∀ u v, u < 26 → v < 26 → rm m' u v = addE (rm m) a c d u v) (Y : Nat → Bool) : cutv (rm m') 26 Y = cutv (rm m) 26 Y + (if Y a && !Y c then d else 0) := by
  rw [cutv_congr h, cutv_addE ha hc]
theorem E50i : (1125899906842624 : Int64).toInt = 1125899906842624 := rfl
section MNET
variable {mMo : Nat → Int32} {s T : Int32}
theorem wp_far {m : Nat → Int64} {a c : Nat} (ha : a < 26) (hc : c < 26) {K : Int} (hB : RmB m K) (hK : K ≤ 2305843009213693952) {Q : (Nat → Int64) → Prop} (hQ : ∀ m', RmB m' (K + 1125899911036928) → Adds m m' (fun Y => ¬ (Y a = true ∧ Y c = false)) → Q m') : wp_X9_edge m (nI a) (nI c) 1125899906842624 Q := by
  refine wp_edge ha hc hB hK (by decide) (by decide) (fun m' h1 h2 => hQ m' h1 (fun Y hY => ?_))
  rw [cutv_at ha hc h2, E50i]
  dsimp only
  cases h3 : Y a <;> cases h4 : Y c <;> simp
theorem wp_bnd {m : Nat → Int64} {k : Nat} (hk : k < 24) {K : Int} (hB : RmB m K) (hK : K ≤ 2300000000000000000) (hs : s.toInt = 1 ∧ 0 ≤ (mMo k).toInt ∧ (mMo k).toInt ≤ T.toInt ∨ s.toInt = -1 ∧ 0 ≤ (mMo k).toInt ∧ (mMo k).toInt ≤ T.toInt + 1 ∧ 0 ≤ T.toInt) {Q : (Nat → Int64) → Prop}
    (hQ : ∀ m', RmB m' (K + 2251799822073856) → Adds m m' (fun Y => 0 ≤ (mMo k).toInt + (if Y k then s.toInt else 0) ∧ (mMo k).toInt + (if Y k then s.toInt else 0) ≤ T.toInt) → Q m') : wp_X9_bounds mMo m (nI k) s T Q := by
  have more : ∀ {m' : Nat → Int64} {K1 : Int}, RmB m' K1 → K1 ≤ K + 2251799822073856 → RmB m' (K + 2251799822073856) := fun h1 h2 u v hu hv => ⟨(h1 u v hu hv).1, by have := (h1 u v hu hv).2; omega⟩
  unfold wp_X9_bounds
  rw [cl_nI (by omega)]
  have e25 : (25 : Int32) = nI 25 := rfl
  have e24 : (24 : Int32) = nI 24 := rfl
  have hv : vp_in (nI k) 24 := pk_in k 24 hk
  rcases hs with ⟨h1, h2, h3⟩ | ⟨h1, h2, h3, h4⟩
  · have hs0 : ¬ s ≤ 0 := by rw [i_le, h1, lt0]; omega
    have hs1 : (0 : Int32) ≤ s := by rw [i_le, h1, lt0]; omega
    refine ⟨fun q => absurd q hs0, fun _ => ⟨hv, fun q => ?_, fun q => ⟨fun _ => ⟨fun _ => hQ m (more hB (by omega)) (Adds.refl (fun Y hY => ?_)), fun q2 => absurd hs1 q2⟩, fun q2 => absurd hs1 q2⟩⟩⟩
    · unfold wp_X9_bounds_b27
      rw [e25]
      refine wp_far (by omega) (by omega) hB (by omega) (fun m' g1 g2 => ⟨fun _ => hQ m' (more g1 (by omega)) (fun Y hY => ?_), fun q2 => absurd hs1 q2⟩)
      rw [i_le] at q
      have := g2 Y hY
      dsimp only at this ⊢
      rw [h1]
      cases hy : Y k
      · exact ⟨fun _ => this.1 (by simp [hy]), fun q3 => by simp at q3; omega⟩
      · exact ⟨fun q3 => by simp at q3; omega, fun _ => this.2 (by simp [hy, hY.2])⟩
    · rw [i_le] at q
      try dsimp only
      rw [h1]
      cases hy : Y k <;> simp <;> omega
  · have hs0 : s ≤ 0 := by rw [i_le, h1, lt0]; omega
    have hs1 : ¬ (0 : Int32) ≤ s := by rw [i_le, h1, lt0]; omega
    have fin : ∀ (m1 : Nat → Int64) (K1 : Int), RmB m1 K1 → K1 ≤ K + 1125899911036928 → Adds m m1 (fun Y => 0 ≤ (mMo k).toInt + (if Y k then s.toInt else 0)) → wp_X9_bounds_b37 Q (nI k) s T mMo m1 := by
      intro m1 K1 hB1 hK1 hA
      unfold wp_X9_bounds_b37
      rw [cl_nI (by omega)]
      refine ⟨fun q => absurd q hs1, fun _ => ⟨hv, fun q => hQ m1 (more hB1 (by omega)) (fun Y hY => ?_), fun q => ?_⟩⟩
      · rw [i_le] at q
        have := hA Y hY
        refine ⟨fun q3 => this.1 q3.1, fun q3 => this.2 (fun q4 => q3 ⟨q4, ?_⟩)⟩
        try dsimp only
        rw [h1]
        cases hy : Y k <;> simp <;> omega
      · rw [i_le] at q
        rw [e24]
        refine wp_far (by omega) (by omega) hB1 (by omega) (fun m' g1 g2 => hQ m' (more g1 (by omega)) (hA.trans g2 (fun Y hY => and_congr Iff.rfl ?_)))
        try dsimp only
        rw [h1]
        cases hy : Y k
        · simp [hY.1]; omega
        · simp; omega
    have nob : ¬ (mMo k).toInt = 0 → wp_X9_bounds_b37 Q (nI k) s T mMo m := fun h => fin m K hB (by omega) (Adds.refl (fun Y hY => by rw [h1]; cases hy : Y k <;> simp <;> omega))
    have b14 : wp_X9_bounds_b14 Q (nI k) s T mMo m := by
      unfold wp_X9_bounds_b14
      rw [cl_nI (by omega)]
      refine ⟨fun q => absurd q hs1, fun _ => ⟨hv, fun q => nob (fun z => q (by rw [i_eq, z]; rfl)), fun q => ?_⟩⟩
      unfold wp_X9_bounds_b27
      rw [e25]
      refine wp_far (by omega) (by omega) hB (by omega) (fun m' g1 g2 => fin m' _ g1 (by omega) (fun Y hY => ?_))
      have q' : (mMo k).toInt = 0 := by rw [q]; rfl
      have := g2 Y hY
      dsimp only at this ⊢
      rw [h1, q']
      cases hy : Y k
      · exact ⟨fun _ => this.1 (by simp [hy]), fun q3 => by simp at q3⟩
      · exact ⟨fun q3 => by simp at q3, fun _ => this.2 (by simp [hy, hY.2])⟩
    exact ⟨fun _ => b14, fun q => absurd hs0 q⟩
variable {n : Nat} {tBe pF : Nat → Int32}
theorem cut_fol (hn : n ≤ 12) (hF : ∀ t o, t < n → o < n → (pF (12 * t + o) = 0 ↔ bt (tBe t) o = false)) {t : Nat} (ht : t < n) (hs : s.toInt = 1 ∨ s.toInt = -1) (hp : ∀ o, foC n tBe t o → (mMo (12 + o)).toInt ≤ (mMo t).toInt) {Q : (Nat → Int64) → Prop} :
    ∀ (j o : Nat) (m : Nat → Int64) (K : Int), o + j = n → RmB m K → K + j * 1125899911036928 ≤ 2305843009213693952 → (∀ m', RmB m' (K + j * 1125899911036928) → Adds m m' (fun Y => ∀ u, o ≤ u → foC n tBe t u → mvf s.toInt (fun t => (mMo (12 + t)).toInt) Y u ≤ mvb s.toInt (fun t => (mMo t).toInt) Y t) → Q m') → wp_X9_cut_L159 s mMo pF (nI n) (nI t) Q (j + 1) (nI o) m := by
  intro j
  induction j with
  | zero =>
    intro o m K ho hB hK hQ
    rw [wp_X9_cut_L159]
    exact pk_le n o (fun _ => hQ m (by simpa using hB) (Adds.refl (fun Y hY u h1 h2 => by have := h2.2.1; omega))) (fun q => absurd q (by omega))
  | succ j ih =>
    intro o m K ho hB hK hQ
    rw [wp_X9_cut_L159]
    have skip : (∀ Y, SrcY Y → foC n tBe t o → mvf s.toInt (fun t => (mMo (12 + t)).toInt) Y o ≤ mvb s.toInt (fun t => (mMo t).toInt) Y t) → wp_X9_cut_b244 (wp_X9_cut_L159 s mMo pF (nI n) (nI t) Q (j + 1)) (nI o) m := by
      intro h x ex
      rw [ex, nI_1]
      refine ih (o + 1) m K (by omega) hB (by omega) (fun m' g1 g2 => hQ m' (fun u v hu hv => ⟨(g1 u v hu hv).1, by have := (g1 u v hu hv).2; omega⟩) (fun Y hY => ?_))
      have := g2 Y hY
      dsimp only at this ⊢
      have e : (∀ u, o ≤ u → foC n tBe t u → mvf s.toInt (fun t => (mMo (12 + t)).toInt) Y u ≤ mvb s.toInt (fun t => (mMo t).toInt) Y t) ↔ (∀ u, o + 1 ≤ u → foC n tBe t u → mvf s.toInt (fun t => (mMo (12 + t)).toInt) Y u ≤ mvb s.toInt (fun t => (mMo t).toInt) Y t) := by
        refine ⟨fun z u h1 h2 => z u (by omega) h2, fun z u h1 h2 => ?_⟩
        rcases Nat.lt_or_ge o u with y | y
        · exact z u (by omega) h2
        · rw [show u = o by omega] at h2 ⊢; exact h Y hY h2
      rw [e]; exact this
    refine pk_le n o (fun q => absurd q (by omega)) (fun q => ?_)
    have e12 : (12 : Int32) + nI o = nI (12 + o) := nI_add 12 o
    rw [ix12, e12, cl_nI (by omega), cl_nI (by omega), cl_nI (by omega), hF t o ht (by omega)]
    refine ⟨pk_in (12 * t + o) 144 (by omega), fun hz => skip (fun Y hY h2 => by have := h2.2.2; rw [hz] at this; exact absurd this (by decide)), fun hz => ⟨pk_in t 24 (by omega), pk_in (12 + o) 24 (by omega), fun he => ?_, fun hne => skip (fun Y hY h2 => ?_)⟩⟩
    · have hfo : foC n tBe t o := ⟨ht, by omega, by simpa using hz⟩
      have he' : (mMo (12 + o)).toInt = (mMo t).toInt := by rw [he]
      have go : ∀ m', RmB m' (K + 1125899911036928) → Adds m m' (fun Y => mvf s.toInt (fun t => (mMo (12 + t)).toInt) Y o ≤ mvb s.toInt (fun t => (mMo t).toInt) Y t) → wp_X9_cut_b244 (wp_X9_cut_L159 s mMo pF (nI n) (nI t) Q (j + 1)) (nI o) m' := by
        intro m' g1 g2 x ex
        rw [ex, nI_1]
        refine ih (o + 1) m' _ (by omega) g1 (by omega) (fun m2 k1 k2 => hQ m2 (fun u v hu hv => ⟨(k1 u v hu hv).1, by have := (k1 u v hu hv).2; omega⟩) (g2.trans k2 (fun Y hY => ⟨fun z => ⟨z o (Nat.le_refl _) hfo, fun u h1 h2 => z u (by omega) h2⟩, fun ⟨z1, z2⟩ u h1 h2 => ?_⟩)))
        rcases Nat.lt_or_ge o u with y | y
        · exact z2 u (by omega) h2
        · rw [show u = o by omega]; exact z1
      refine ⟨fun hs0 => ?_, fun hs0 => ?_⟩
      · have hs1 : s.toInt = -1 := by rw [i_le, lt0] at hs0; omega
        refine wp_far (by omega) (by omega) hB (by omega) (fun m' g1 g2 => go m' g1 (fun Y hY => ?_))
        have := g2 Y hY
        dsimp only at this ⊢
        have e : (mvf s.toInt (fun t => (mMo (12 + t)).toInt) Y o ≤ mvb s.toInt (fun t => (mMo t).toInt) Y t) ↔ ¬ (Y t = true ∧ Y (12 + o) = false) := by
          unfold mvf mvb
          rw [hs1]
          dsimp only
          cases h1 : Y t <;> cases h2 : Y (12 + o) <;> simp <;> omega
        rw [e]; exact this
      · have hs1 : s.toInt = 1 := by rw [i_le, lt0] at hs0; omega
        refine wp_far (by omega) (by omega) hB (by omega) (fun m' g1 g2 => go m' g1 (fun Y hY => ?_))
        have := g2 Y hY
        dsimp only at this ⊢
        have e : (mvf s.toInt (fun t => (mMo (12 + t)).toInt) Y o ≤ mvb s.toInt (fun t => (mMo t).toInt) Y t) ↔ ¬ (Y (12 + o) = true ∧ Y t = false) := by
          unfold mvf mvb
          rw [hs1]
          dsimp only
          cases h1 : Y t <;> cases h2 : Y (12 + o) <;> simp <;> omega
        rw [e]; exact this
    · have h3 := hp o h2
      have h4 : ¬ (mMo (12 + o)).toInt = (mMo t).toInt := fun z => hne (by rw [i_eq]; exact z.symm)
      unfold mvf mvb
      dsimp only
      rcases hs with z | z <;> rw [z] <;> cases h5 : Y t <;> cases h6 : Y (12 + o) <;> simp <;> omega
end MNET
