/-! the reference's cut: of all that go a step, the cheapest, and of these the fewest -/
theorem updL_at (f : Nat → Int64) (k : Nat) (v : Int64) : vp_updL f k v k = v := by simp [vp_updL]
theorem updL_ne {f : Nat → Int64} {k j : Nat} {v : Int64} (h : j ≠ k) : vp_updL f k v j = f j := by simp [vp_updL, h]
theorem E49i : (562949953421312 : Int64).toInt = 562949953421312 := rfl
theorem L0i : (0 : Int64).toInt = 0 := rfl
theorem pair_fin {x s h e cut cut' A B o1 o2 : Int} {c : Int → Int} {α β : Bool} (hx : h ≤ x ∧ x ≤ e) (h00 : o1 + o2 = 0) (hc : cut' = cut + (if α && !β then A else 0) + (if β && !α then B else 0))
    (hu1 : h ≤ x + s ∧ x + s ≤ e → B + o2 = c (x + s) - c x) (hu2 : ¬ (h ≤ x + s ∧ x + s ≤ e) → 1125899873288192 ≤ B + o2) (hv1 : h ≤ x - s ∧ x - s ≤ e → A + o1 = c (x - s) - c x) (hv2 : ¬ (h ≤ x - s ∧ x - s ≤ e) → 1125899873288192 ≤ A + o1) :
    ((h ≤ x + (if β then s else 0) - (if α then s else 0) ∧ x + (if β then s else 0) - (if α then s else 0) ≤ e) → cut' + ((if α then o1 else 0) + (if β then o2 else 0)) = cut + (c (x + (if β then s else 0) - (if α then s else 0)) - c x)) ∧
      (¬ (h ≤ x + (if β then s else 0) - (if α then s else 0) ∧ x + (if β then s else 0) - (if α then s else 0) ≤ e) → cut + 1125899873288192 ≤ cut' + ((if α then o1 else 0) + (if β then o2 else 0))) := by
  cases α <;> cases β
  · have e1 : x + (if false = true then s else 0) - (if false = true then s else 0) = x := by simp
    rw [e1]
    simp at hc ⊢
    exact ⟨fun _ _ => by omega, fun q => by omega⟩
  · have e1 : x + (if true = true then s else 0) - (if false = true then s else 0) = x + s := by simp
    rw [e1]
    simp at hc
    refine ⟨fun q => ?_, fun q => ?_⟩
    · have := hu1 q; simp; omega
    · have := hu2 q; simp; omega
  · have e1 : x + (if false = true then s else 0) - (if true = true then s else 0) = x - s := by simp
    rw [e1]
    simp at hc
    refine ⟨fun q => ?_, fun q => ?_⟩
    · have := hv1 q; simp; omega
    · have := hv2 q; simp; omega
  · have e1 : x + (if true = true then s else 0) - (if true = true then s else 0) = x := by simp
    rw [e1]
    simp at hc
    refine ⟨fun q => ?_, fun q => absurd hx q⟩
    simp; omega
theorem wp_pair {t : Nat} (ht : t < 12) {m ow : Nat → Int64} {K : Int} (hB : RmB m K) (hK : K ≤ 2300000000000000000) (h0 : (ow t).toInt = 0 ∧ (ow (12 + t)).toInt = 0) {U V : Int64} {x s h e : Int} {c : Int → Int}
    (hU : (h ≤ x + s ∧ x + s ≤ e) ∧ U.toInt = c (x + s) - c x ∨ ¬ (h ≤ x + s ∧ x + s ≤ e) ∧ U.toInt = 1125899906842624)
    (hV : (h ≤ x - s ∧ x - s ≤ e) ∧ V.toInt = c (x - s) - c x ∨ ¬ (h ≤ x - s ∧ x - s ≤ e) ∧ V.toInt = 1125899906842624)
    (hx : h ≤ x ∧ x ≤ e) (hs : s = 1 ∨ s = -1) (hc : Cvx c h e) (hbd : ∀ y, h ≤ y → y ≤ e → 0 ≤ c y ∧ c y ≤ 12000000) {Q : (Nat → Int64) → (Nat → Int64) → Prop}
    (hQ : ∀ m' ow', RmB m' (K + 2251799822073856) → (∀ j, j ≠ t → j ≠ 12 + t → ow' j = ow j) → (-12000000 ≤ (ow' t).toInt ∧ (ow' t).toInt ≤ 12000000 ∧ -12000000 ≤ (ow' (12 + t)).toInt ∧ (ow' (12 + t)).toInt ≤ 12000000) →
      (∀ Y, SrcY Y → ((h ≤ x + (if Y (12 + t) then s else 0) - (if Y t then s else 0) ∧ x + (if Y (12 + t) then s else 0) - (if Y t then s else 0) ≤ e) → cutv (rm m') 26 Y + ((if Y t then (ow' t).toInt else 0) + (if Y (12 + t) then (ow' (12 + t)).toInt else 0)) = cutv (rm m) 26 Y + (c (x + (if Y (12 + t) then s else 0) - (if Y t then s else 0)) - c x)) ∧
        (¬ (h ≤ x + (if Y (12 + t) then s else 0) - (if Y t then s else 0) ∧ x + (if Y (12 + t) then s else 0) - (if Y t then s else 0) ≤ e) → cutv (rm m) 26 Y + 1125899873288192 ≤ cutv (rm m') 26 Y + ((if Y t then (ow' t).toInt else 0) + (if Y (12 + t) then (ow' (12 + t)).toInt else 0)))) → Q m' ow') :
    wp_X9_pair m ow (nI (12 + t)) (nI t) U V Q := by
  have bx := hbd x hx.1 hx.2
  have hUb : U.toInt = 1125899906842624 ∨ (-12000000 ≤ U.toInt ∧ U.toInt ≤ 12000000) := by
    rcases hU with ⟨u1, u2⟩ | ⟨u1, u2⟩
    · have := hbd _ u1.1 u1.2; exact Or.inr (by omega)
    · exact Or.inl u2
  have hVb : V.toInt = 1125899906842624 ∨ (-12000000 ≤ V.toInt ∧ V.toInt ≤ 12000000) := by
    rcases hV with ⟨u1, u2⟩ | ⟨u1, u2⟩
    · have := hbd _ u1.1 u1.2; exact Or.inr (by omega)
    · exact Or.inl u2
  have i1 : vp_in (nI t) 24 := pk_in t 24 (by omega)
  have i2 : vp_in (nI (12 + t)) 24 := pk_in (12 + t) 24 (by omega)
  have e24 : x + s - s = x := by omega
  have more : ∀ {m' : Nat → Int64} {K1 : Int}, RmB m' K1 → K1 ≤ K + 2251799822073856 → RmB m' (K + 2251799822073856) := fun h1 h2 u v hu hv => ⟨(h1 u v hu hv).1, by have := (h1 u v hu hv).2; omega⟩
  unfold wp_X9_pair
  rw [cmp_lt0, cmp_lt0, E49i, cl_nI (by omega), cl_nI (by omega)]
  refine ⟨fun hv => ⟨i1, i1, fun o1 e1 => ⟨i2, i2, fun o2 e2 => ?_⟩⟩, fun hv => ?_⟩
  · have hV1 : (h ≤ x - s ∧ x - s ≤ e) ∧ V.toInt = c (x - s) - c x := by
      rcases hV with q | q
      · exact q
      · omega
    have vb : -12000000 ≤ V.toInt ∧ V.toInt ≤ 12000000 := by omega
    have a1 : (o1 t).toInt = V.toInt := by rw [e1, updL_at, l_add (by omega) (by omega)]; omega
    have a2 : (o1 (12 + t)).toInt = 0 := by rw [e1, updL_ne (by omega)]; exact h0.2
    have b1 : (o2 t).toInt = V.toInt := by rw [e2, updL_ne (by omega)]; exact a1
    have b2 : (o2 (12 + t)).toInt = - V.toInt := by rw [e2, updL_at, l_sub (by omega) (by omega)]; omega
    have b3 : ∀ j, j ≠ t → j ≠ 12 + t → o2 j = ow j := fun j j1 j2 => by rw [e2, updL_ne j2, e1, updL_ne j1]
    refine ⟨fun hu => ?_, fun hu => ?_⟩
    · have hU1 : (h ≤ x + s ∧ x + s ≤ e) ∧ U.toInt = c (x + s) - c x := by
        rcases hU with q | q
        · exact q
        · omega
      have ub : -12000000 ≤ U.toInt ∧ U.toInt ≤ 12000000 := by omega
      have hsum : 0 ≤ U.toInt + V.toInt := by
        rcases hs with z | z
        · have := hc x (by omega) (by omega)
          rw [z] at hU1 hV1; omega
        · have := hc x (by omega) (by omega)
          rw [z] at hU1 hV1
          rw [show x - -1 = x + 1 by omega] at hV1
          rw [show x + -1 = x - 1 by omega] at hU1
          omega
      have ha := l_add (a := U) (b := V) (by omega) (by omega)
      refine wp_edge (by omega) (by omega) hB (by omega) (by omega) (by omega) (fun m' g1 g2 => hQ m' o2 (more g1 (by omega)) b3 (by omega) (fun Y hY => ?_))
      rw [b1, b2]
      refine pair_fin (A := 0) (B := U.toInt + V.toInt) hx (by omega) ?_ (fun _ => by omega) (fun q => absurd hU1.1 q) (fun _ => by omega) (fun q => absurd hV1.1 q)
      rw [cutv_at (by omega) (by omega) g2, ha]
      simp
    · refine wp_edge (by omega) (by omega) hB (by omega) (by decide) (by decide) (fun m' g1 g2 => hQ m' o2 (more g1 (by omega)) b3 (by omega) (fun Y hY => ?_))
      have hU1 : ¬ (h ≤ x + s ∧ x + s ≤ e) ∧ U.toInt = 1125899906842624 := by
        rcases hU with q | q
        · have := hbd _ q.1.1 q.1.2; omega
        · exact q
      rw [b1, b2]
      refine pair_fin (A := 0) (B := 1125899906842624) hx (by omega) ?_ (fun q => absurd q hU1.1) (fun q => by omega) (fun _ => by omega) (fun q => absurd hV1.1 q)
      rw [cutv_at (by omega) (by omega) g2, E50i]
      simp
  · have hV1 : ¬ (h ≤ x - s ∧ x - s ≤ e) ∧ V.toInt = 1125899906842624 := by
      rcases hV with q | q
      · have := hbd _ q.1.1 q.1.2; omega
      · exact q
    refine wp_edge (by omega) (by omega) hB (by omega) (by decide) (by decide) (fun m1 g1 g2 => ⟨fun hu => ⟨i2, i2, fun o1 e1 => ⟨i1, i1, fun o2 e2 => ?_⟩⟩, fun hu => ?_⟩)
    · have hU1 : (h ≤ x + s ∧ x + s ≤ e) ∧ U.toInt = c (x + s) - c x := by
        rcases hU with q | q
        · exact q
        · omega
      have ub : -12000000 ≤ U.toInt ∧ U.toInt ≤ 12000000 := by omega
      have a1 : (o1 (12 + t)).toInt = U.toInt := by rw [e1, updL_at, l_add (by omega) (by omega)]; omega
      have a2 : (o1 t).toInt = 0 := by rw [e1, updL_ne (by omega)]; exact h0.1
      have b1 : (o2 t).toInt = - U.toInt := by rw [e2, updL_at, l_sub (by omega) (by omega)]; omega
      have b2 : (o2 (12 + t)).toInt = U.toInt := by rw [e2, updL_ne (by omega)]; exact a1
      have b3 : ∀ j, j ≠ t → j ≠ 12 + t → o2 j = ow j := fun j j1 j2 => by rw [e2, updL_ne j1, e1, updL_ne j2]
      refine hQ m1 o2 (more g1 (by omega)) b3 (by omega) (fun Y hY => ?_)
      rw [b1, b2]
      refine pair_fin (A := 1125899906842624) (B := 0) hx (by omega) ?_ (fun _ => by omega) (fun q => absurd hU1.1 q) (fun q => absurd q hV1.1) (fun q => by omega)
      rw [cutv_at (by omega) (by omega) g2, E50i]
      simp
    · have hU1 : ¬ (h ≤ x + s ∧ x + s ≤ e) ∧ U.toInt = 1125899906842624 := by
        rcases hU with q | q
        · have := hbd _ q.1.1 q.1.2; omega
        · exact q
      refine wp_edge (by omega) (by omega) g1 (by omega) (by decide) (by decide) (fun m2 k1 k2 => hQ m2 ow (more k1 (by omega)) (fun _ _ _ => rfl) (by omega) (fun Y hY => ?_))
      rw [h0.1, h0.2]
      refine pair_fin (A := 1125899906842624) (B := 1125899906842624) hx (by omega) ?_ (fun q => absurd q hU1.1) (fun q => by omega) (fun q => absurd q hV1.1) (fun q => by omega)
      rw [cutv_at (by omega) (by omega) k2, cutv_at (by omega) (by omega) g2, E50i]
/-- a task is well in a plan that not longer than T -/
def Fea (n : Nat) (e h : Nat → Int) (fo : Nat → Nat → Prop) (T : Int) (b f : Nat → Int) (t : Nat) : Prop := (h t ≤ f t - b t ∧ f t - b t ≤ e t) ∧ (∀ o, 0 ≤ o → fo t o → f o ≤ b t) ∧ (0 ≤ b t ∧ b t ≤ T) ∧ (0 ≤ f t ∧ f t ≤ T)
theorem fea_pl {n : Nat} {e h : Nat → Int} {fo : Nat → Nat → Prop} {T : Int} {b f : Nat → Int} (hb : ∀ t o, fo t o → t < n ∧ o < n) (hh : ∀ t, t < n → 0 ≤ h t) : (∀ t, t < n → Fea n e h fo T b f t) ↔ Pl n e h fo b f ∧ Len n T f := by
  constructor
  · intro H
    refine ⟨fun t ht => ?_, fun t ht => (H t ht).2.2.2.2⟩
    obtain ⟨a1, a2, a3, a4⟩ := H t ht
    exact ⟨a3.1, a1.1, a1.2, fun o _ q => a2 o (Nat.zero_le _) q⟩
  · rintro ⟨P, L⟩ t ht
    obtain ⟨a1, a2, a3, a4⟩ := P t ht
    have := L t ht
    have := hh t ht
    exact ⟨⟨a2, a3⟩, fun o _ q => a4 o (hb t o q).2 q, ⟨a1, by omega⟩, ⟨by omega, by omega⟩⟩
def bM (mMo : Nat → Int32) (t : Nat) : Int := (mMo t).toInt
def fM (mMo : Nat → Int32) (t : Nat) : Int := (mMo (12 + t)).toInt
def osum (k : Nat) (ow : Nat → Int64) (Y : Nat → Bool) : Int := sT (fun t => (if Y t then (ow t).toInt else 0) + (if Y (12 + t) then (ow (12 + t)).toInt else 0)) k
section MCUT
variable {n : Nat} {tKi tEa tHa tPr tEx tSt tBe : Nat → Int32} {pT : Int32} {pK pN pF mMo : Nat → Int32} {s T : Int32}
/-- what the first k tasks have added to the cut of each set -/
def Acc (n : Nat) (e h : Nat → Int) (c : Nat → Int → Int) (fo : Nat → Nat → Prop) (s T : Int) (b f : Nat → Int) (k : Nat) (m ow : Nat → Int64) : Prop := ∀ Y, SrcY Y →
  ((∀ t, t < k → Fea n e h fo T (mvb s b Y) (mvf s f Y) t) → cutv (rm m) 26 Y + osum k ow Y = sT (fun t => c t (mvf s f Y t - mvb s b Y t) - c t (f t - b t)) k) ∧
  ((¬ ∀ t, t < k → Fea n e h fo T (mvb s b Y) (mvf s f Y) t) → 1125899906842624 - k * 67108864 ≤ cutv (rm m) 26 Y + osum k ow Y)
theorem acc_low {e h : Nat → Int} {c : Nat → Int → Int} {fo : Nat → Nat → Prop} {s T : Int} {b f : Nat → Int} {k : Nat} {Y : Nat → Bool} (hbd : ∀ t, t < k → ∀ y, h t ≤ y → y ≤ e t → 0 ≤ c t y ∧ c t y ≤ 12000000) (hp : ∀ t, t < k → h t ≤ f t - b t ∧ f t - b t ≤ e t) (hF : ∀ t, t < k → Fea n e h fo T (mvb s b Y) (mvf s f Y) t) : - (k * 12000000) ≤ sT (fun t => c t (mvf s f Y t - mvb s b Y t) - c t (f t - b t)) k ∧ sT (fun t => c t (mvf s f Y t - mvb s b Y t) - c t (f t - b t)) k ≤ k * 12000000 := by
  induction k with
  | zero => simp [sT]
  | succ k ih =>
    have i := ih (fun t ht => hbd t (by omega)) (fun t ht => hp t (by omega)) (fun t ht => hF t (by omega))
    have h1 := hbd k (by omega) _ (hF k (by omega)).1.1 (hF k (by omega)).1.2
    have h2 := hbd k (by omega) _ (hp k (by omega)).1 (hp k (by omega)).2
    rw [sT]
    try dsimp only
    omega
theorem acc_next {e h : Nat → Int} {c : Nat → Int → Int} {fo : Nat → Nat → Prop} {s T : Int} {b f : Nat → Int} {k : Nat} {m m1 m2 ow ow1 : Nat → Int64} (hk : k < 12) (hbd : ∀ t, t < k + 1 → ∀ y, h t ≤ y → y ≤ e t → 0 ≤ c t y ∧ c t y ≤ 12000000) (hp : ∀ t, t < k + 1 → h t ≤ f t - b t ∧ f t - b t ≤ e t)
    (H : Acc n e h c fo s T b f k m ow) (how : ∀ j, j ≠ k → j ≠ 12 + k → ow1 j = ow j)
    (h1 : ∀ Y, SrcY Y → ((h k ≤ mvf s f Y k - mvb s b Y k ∧ mvf s f Y k - mvb s b Y k ≤ e k) → cutv (rm m1) 26 Y + ((if Y k then (ow1 k).toInt else 0) + (if Y (12 + k) then (ow1 (12 + k)).toInt else 0)) = cutv (rm m) 26 Y + (c k (mvf s f Y k - mvb s b Y k) - c k (f k - b k))) ∧
        (¬ (h k ≤ mvf s f Y k - mvb s b Y k ∧ mvf s f Y k - mvb s b Y k ≤ e k) → cutv (rm m) 26 Y + 1125899873288192 ≤ cutv (rm m1) 26 Y + ((if Y k then (ow1 k).toInt else 0) + (if Y (12 + k) then (ow1 (12 + k)).toInt else 0))))
    (h2 : Adds m1 m2 (fun Y => (∀ o, 0 ≤ o → fo k o → mvf s f Y o ≤ mvb s b Y k) ∧ (0 ≤ mvb s b Y k ∧ mvb s b Y k ≤ T) ∧ (0 ≤ mvf s f Y k ∧ mvf s f Y k ≤ T))) :
    Acc n e h c fo s T b f (k + 1) m2 ow1 := by
  intro Y hY
  have eo : osum (k + 1) ow1 Y = osum k ow Y + ((if Y k then (ow1 k).toInt else 0) + (if Y (12 + k) then (ow1 (12 + k)).toInt else 0)) := by
    unfold osum
    rw [sT]
    congr 1
    refine sT_congr (fun t ht => ?_)
    rw [how t (by omega) (by omega), how (12 + t) (by omega) (by omega)]
  obtain ⟨a1, a2⟩ := H Y hY
  obtain ⟨b1, b2⟩ := h1 Y hY
  obtain ⟨c1, c2⟩ := h2 Y hY
  dsimp only at c1 c2
  have hcp := hbd k (by omega) _ (hp k (by omega)).1 (hp k (by omega)).2
  rw [eo]
  refine ⟨fun hF => ?_, fun hF => ?_⟩
  · have f1 := a1 (fun t ht => hF t (by omega))
    obtain ⟨g1, g2, g3, g4⟩ := hF k (by omega)
    have f2 := b1 g1
    have f3 := c1 ⟨g2, g3, g4⟩
    rw [sT]
    try dsimp only
    omega
  · by_cases hk1 : ∀ t, t < k → Fea n e h fo T (mvb s b Y) (mvf s f Y) t
    · have f1 := a1 hk1
      have f2 := acc_low (n := n) (e := e) (h := h) (c := c) (fo := fo) (fun t ht => hbd t (by omega)) (fun t ht => hp t (by omega)) hk1
      by_cases hs : h k ≤ mvf s f Y k - mvb s b Y k ∧ mvf s f Y k - mvb s b Y k ≤ e k
      · have f3 := b1 hs
        have f5 := hbd k (by omega) _ hs.1 hs.2
        have f4 := c2 (fun q => hF (fun t ht => by
          rcases Nat.lt_or_ge t k with z | z
          · exact hk1 t z
          · rw [show t = k by omega]; exact ⟨hs, q.1, q.2.1, q.2.2⟩))
        omega
      · have f3 := b2 hs
        by_cases q : (∀ o, 0 ≤ o → fo k o → mvf s f Y o ≤ mvb s b Y k) ∧ (0 ≤ mvb s b Y k ∧ mvb s b Y k ≤ T) ∧ (0 ≤ mvf s f Y k ∧ mvf s f Y k ≤ T)
        · have f4 := c1 q; omega
        · have f4 := c2 q; omega
    · have f1 := a2 hk1
      have f4 : cutv (rm m1) 26 Y ≤ cutv (rm m2) 26 Y := by
        by_cases q : (∀ o, 0 ≤ o → fo k o → mvf s f Y o ≤ mvb s b Y k) ∧ (0 ≤ mvb s b Y k ∧ mvb s b Y k ≤ T) ∧ (0 ≤ mvf s f Y k ∧ mvf s f Y k ≤ T)
        · rw [c1 q]; omega
        · have := c2 q; omega
      by_cases hs : h k ≤ mvf s f Y k - mvb s b Y k ∧ mvf s f Y k - mvb s b Y k ≤ e k
      · have f3 := b1 hs
        have f5 := hbd k (by omega) _ hs.1 hs.2
        omega
      · have f3 := b2 hs
        omega
/-- the loop over the tasks -/
theorem cut_tasks (hT : TB n (nI n) tKi tEa tHa tPr tEx tSt tBe) (hM : MB n tKi tEa tHa tPr tEx tSt tBe pT pK pN pF) (hP : Pl n (iT tEa) (iT tHa) (foC n tBe) (bM mMo) (fM mMo))
    (hs : s.toInt = 1 ∧ Len n T.toInt (fM mMo) ∨ s.toInt = -1 ∧ Len n (T.toInt + 1) (fM mMo)) (hT0 : 0 ≤ T.toInt ∧ T.toInt ≤ 2000) {Q : (Nat → Int64) → (Nat → Int64) → Prop}
    (hQ : ∀ m ow, RmB m (n * 22517998220738560) → (∀ k, k < 24 → -12000000 ≤ (ow k).toInt ∧ (ow k).toInt ≤ 12000000) → Acc n (iT tEa) (iT tHa) (cT tKi tEa tPr tEx tSt) (foC n tBe) s.toInt T.toInt (bM mMo) (fM mMo) n m ow → Q m ow) :
    ∀ (j k : Nat) (m ow : Nat → Int64), k + j = n → RmB m (k * 22517998220738560) → (∀ i, i < 24 → -12000000 ≤ (ow i).toInt ∧ (ow i).toInt ≤ 12000000) → (∀ t, k ≤ t → t < 12 → (ow t).toInt = 0 ∧ (ow (12 + t)).toInt = 0) → Acc n (iT tEa) (iT tHa) (cT tKi tEa tPr tEx tSt) (foC n tBe) s.toInt T.toInt (bM mMo) (fM mMo) k m ow → wp_X9_cut_L45 s T mMo pF pK pN (nI n) Q (j + 1) (nI k) m ow := by
  obtain ⟨_, hn, hN, hbt, hac⟩ := hT
  have hbd : ∀ t, t < n → ∀ y, iT tHa t ≤ y → y ≤ iT tEa t → 0 ≤ cT tKi tEa tPr tEx tSt t y ∧ cT tKi tEa tPr tEx tSt t y ≤ 12000000 := fun t ht y h1 h2 => cT_bd (hN t ht) h1 h2
  intro j
  induction j with
  | zero =>
    intro k m ow hk h1 h2 h3 h4
    rw [wp_X9_cut_L45]
    rw [show k = n by omega] at h1 h4 ⊢
    exact pk_le n n (fun _ => hQ m ow h1 h2 h4) (fun q => absurd q (by omega))
  | succ j ih =>
    intro k m ow hk h1 h2 h3 h4
    rw [wp_X9_cut_L45]
    refine pk_le n k (fun q => absurd q (by omega)) (fun q y ey => ?_)
    have e12 : (12 : Int32) + nI k = nI (12 + k) := nI_add 12 k
    rw [e12] at ey
    rw [ey, cl_nI (by omega), cl_nI (by omega)]
    obtain ⟨p1, p2, p3, p4⟩ := hP k (by omega)
    have p1' : 0 ≤ (mMo k).toInt := p1
    have p2' : (tHa k).toInt ≤ (mMo (12 + k)).toInt - (mMo k).toInt := p2
    have p3' : (mMo (12 + k)).toInt - (mMo k).toInt ≤ (tEa k).toInt := p3
    have hNk := hN k (by omega)
    obtain ⟨_, _, u3, u4, u5, _⟩ := id hNk
    have hs' : s.toInt = 1 ∨ s.toInt = -1 := by rcases hs with z | z; exact Or.inl z.1; exact Or.inr z.1
    have hlen : (mMo (12 + k)).toInt ≤ T.toInt + 1 := by
      rcases hs with z | z
      · have w : (mMo (12 + k)).toInt ≤ T.toInt := z.2 k (by omega); omega
      · exact z.2 k (by omega)
    refine ⟨pk_in (12 + k) 24 (by omega), pk_in k 24 (by omega), fun x ex => ?_⟩
    have ex' : x.toInt = (mMo (12 + k)).toInt - (mMo k).toInt := by rw [ex, i_sub (by omega) (by omega)]
    have exu := i_add (a := x) (b := s) (by omega) (by omega)
    have exv := i_sub (a := x) (b := s) (by omega) (by omega)
    have hbk := hbd k (by omega)
    have hxin : iT tHa k ≤ x.toInt ∧ x.toInt ≤ iT tEa k := by
      unfold iT; omega
    -- behind the costs
    have rest : ∀ (U V : Int64), ((iT tHa k ≤ x.toInt + s.toInt ∧ x.toInt + s.toInt ≤ iT tEa k) ∧ U.toInt = cT tKi tEa tPr tEx tSt k (x.toInt + s.toInt) - cT tKi tEa tPr tEx tSt k x.toInt ∨ ¬ (iT tHa k ≤ x.toInt + s.toInt ∧ x.toInt + s.toInt ≤ iT tEa k) ∧ U.toInt = 1125899906842624) → ((iT tHa k ≤ x.toInt - s.toInt ∧ x.toInt - s.toInt ≤ iT tEa k) ∧ V.toInt = cT tKi tEa tPr tEx tSt k (x.toInt - s.toInt) - cT tKi tEa tPr tEx tSt k x.toInt ∨ ¬ (iT tHa k ≤ x.toInt - s.toInt ∧ x.toInt - s.toInt ≤ iT tEa k) ∧ V.toInt = 1125899906842624) → wp_X9_cut_b153 s T mMo pF (nI n) (wp_X9_cut_L45 s T mMo pF pK pN (nI n) Q (j + 1)) (nI (12 + k)) (nI k) U V (nI k) (nI (12 + k)) m ow := by
      intro U V hU hV
      refine wp_pair (h := iT tHa k) (e := iT tEa k) (c := cT tKi tEa tPr tEx tSt k) (x := x.toInt) (s := s.toInt) (by omega) h1 (by omega) (h3 k (Nat.le_refl _) (by omega)) hU hV hxin hs' (aCost_cvx (hNk.2.2.2.2.2.2.2.2.2.1)) hbk (fun m1 ow1 g1 g2 g3 g4 => ⟨n + 1, ?_⟩)
      refine cut_fol hn hM.2.2.1 (by omega) hs' (fun o ho => p4 o ho.2.1 ho) n 0 m1 _ (by omega) g1 (by omega) (fun m2 k1 k2 => ?_)
      refine wp_bnd (by omega) k1 (by omega) ?_ (fun m3 l1 l2 => wp_bnd (by omega) l1 (by omega) ?_ (fun m4 o1 o2 w ew => ?_))
      · rcases hs with z | z
        · exact Or.inl ⟨z.1, p1', by have w : (mMo (12 + k)).toInt ≤ T.toInt := z.2 k (by omega); omega⟩
        · exact Or.inr ⟨z.1, p1', by omega, hT0.1⟩
      · rcases hs with z | z
        · exact Or.inl ⟨z.1, by omega, z.2 k (by omega)⟩
        · exact Or.inr ⟨z.1, by omega, by omega, hT0.1⟩
      · rw [ew, nI_1]
        refine ih (k + 1) m4 ow1 (by omega) (fun u v hu hv => ⟨(o1 u v hu hv).1, by have := (o1 u v hu hv).2; omega⟩) (fun i hi => ?_) (fun t t1 t2 => ?_) ?_
        · by_cases i1 : i = k
          · rw [i1]; exact ⟨g3.1, g3.2.1⟩
          · by_cases i2 : i = 12 + k
            · rw [i2]; exact ⟨g3.2.2.1, g3.2.2.2⟩
            · rw [g2 i i1 i2]; exact h2 i hi
        · rw [g2 t (by omega) (by omega), g2 (12 + t) (by omega) (by omega)]; exact h3 t (by omega) t2
        · refine acc_next (by omega) (fun t ht => hbd t (by omega)) (fun t ht => ⟨(hP t (by omega)).2.1, (hP t (by omega)).2.2.1⟩) h4 g2 (fun Y hY => ?_) ((k2.trans l2 (fun _ _ => Iff.rfl)).trans o2 (fun Y hY => ?_))
          · have := g4 Y hY
            have e1 : mvf s.toInt (fM mMo) Y k - mvb s.toInt (bM mMo) Y k = x.toInt + (if Y (12 + k) then s.toInt else 0) - (if Y k then s.toInt else 0) := by
              unfold mvf mvb fM bM; rw [ex']; omega
            have e2 : fM mMo k - bM mMo k = x.toInt := by unfold fM bM; rw [ex']
            rw [e1, e2]
            exact this
          · exact ⟨fun z => ⟨⟨z.1, z.2.1⟩, z.2.2⟩, fun z => ⟨z.1.1, z.1.2, z.2⟩⟩
    refine wp_mcost hM hn (by omega) hNk (fun r0 _ _ q0 => ?_) (fun z => absurd hxin z)
    refine wp_mcost hM hn (by omega) hNk (fun r1 w1 w2 q1 => ?_) (fun zu => ?_)
    · rw [exu] at w1 w2 q1
      have b1 := hbk _ w1 w2
      have b0 := hbk _ hxin.1 hxin.2
      have hU : (r1 - r0).toInt = cT tKi tEa tPr tEx tSt k (x.toInt + s.toInt) - cT tKi tEa tPr tEx tSt k x.toInt := by rw [l_sub (by omega) (by omega), q1, q0]
      refine wp_mcost hM hn (by omega) hNk (fun r2 v1 v2 q2 => ?_) (fun zv => ?_)
      · rw [exv] at v1 v2 q2
        have b2 := hbk _ v1 v2
        have hV : (r2 - r0).toInt = cT tKi tEa tPr tEx tSt k (x.toInt - s.toInt) - cT tKi tEa tPr tEx tSt k x.toInt := by rw [l_sub (by omega) (by omega), q2, q0]
        rw [cmp_lt0, E50i]
        refine ⟨fun _ => ?_, fun z => absurd (by omega) z⟩
        unfold wp_X9_cut_b133
        rw [cmp_lt0, E50i]
        exact ⟨fun _ => rest _ _ (Or.inl ⟨⟨w1, w2⟩, hU⟩) (Or.inl ⟨⟨v1, v2⟩, hV⟩), fun z => absurd (by omega) z⟩
      · rw [exv] at zv
        rw [cmp_lt0, E50i]
        refine ⟨fun _ => ?_, fun z => absurd (by omega) z⟩
        unfold wp_X9_cut_b133
        rw [cmp_lt0, E50i]
        exact ⟨fun z => absurd z (by omega), fun _ => rest _ _ (Or.inl ⟨⟨w1, w2⟩, hU⟩) (Or.inr ⟨zv, rfl⟩)⟩
    · rw [exu] at zu
      refine wp_mcost hM hn (by omega) hNk (fun r2 v1 v2 q2 => ?_) (fun zv => ?_)
      · rw [exv] at v1 v2 q2
        have b2 := hbk _ v1 v2
        have b0 := hbk _ hxin.1 hxin.2
        have hV : (r2 - r0).toInt = cT tKi tEa tPr tEx tSt k (x.toInt - s.toInt) - cT tKi tEa tPr tEx tSt k x.toInt := by rw [l_sub (by omega) (by omega), q2, q0]
        rw [cmp_lt0, E50i]
        refine ⟨fun z => absurd z (by omega), fun _ => ?_⟩
        unfold wp_X9_cut_b133
        rw [cmp_lt0, E50i]
        exact ⟨fun _ => rest _ _ (Or.inr ⟨zu, rfl⟩) (Or.inl ⟨⟨v1, v2⟩, hV⟩), fun z => absurd (by omega) z⟩
      · rw [exv] at zv
        rw [cmp_lt0, E50i]
        refine ⟨fun z => absurd z (by omega), fun _ => ?_⟩
        unfold wp_X9_cut_b133
        rw [cmp_lt0, E50i]
        exact ⟨fun z => absurd z (by omega), fun _ => rest _ _ (Or.inr ⟨zu, rfl⟩) (Or.inr ⟨zv, rfl⟩)⟩
end MCUT
