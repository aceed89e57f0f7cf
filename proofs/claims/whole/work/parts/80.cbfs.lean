/-! the class's search for a way -/
def Arc (n : Nat) (on off th : Nat → Int) (fr : Nat → Nat → Prop) (pa : Nat → Nat → Int) (b f : Nat → Int) (u v : Nat) : Prop :=
  (∃ t, t < n ∧ u = 2 * t ∧ v = 2 * t + 1 ∧ b t + on t = f t) ∨ (∃ t, t < n ∧ u = 2 * t + 1 ∧ v = 2 * t ∧ 0 < th t ∧ b t + off t = f t) ∨ (∃ t o, t < n ∧ o < n ∧ u = 2 * o + 1 ∧ v = 2 * t ∧ fr t o ∧ b t = f o) ∨ (∃ t o, t < n ∧ o < n ∧ u = 2 * t ∧ v = 2 * o + 1 ∧ 0 < pa o t ∧ f o = b t)
def RootN (n : Nat) (fr : Nat → Nat → Prop) (b : Nat → Int) (s : Nat) : Prop := ∃ t, t < n ∧ s = 2 * t ∧ (∀ o, ¬ fr t o) ∧ b t = 0
def TermN (n : Nat) (fr : Nat → Nat → Prop) (f : Nat → Int) (len : Int) (v : Nat) : Prop := ∃ t, t < n ∧ v = 2 * t + 1 ∧ f t = len ∧ ∀ u, ¬ fr u t
def seB (fr : Nat → Int32) (v : Nat) : Bool := !decide (fr v = -1)
/-- what the search knows -/
def CBF (n : Nat) (A : Nat → Nat → Prop) (S0 Tm : Nat → Prop) (q : Nat) (fr qu : Nat → Int32) (d : Nat) (lev : Nat → Nat) : Prop :=
  (∀ i, i < q → qu i = nI (rowOf qu i) ∧ rowOf qu i < 2 * n) ∧ (∀ i j, i < j → j < q → rowOf qu i ≠ rowOf qu j) ∧ (∀ v, v < 24 → (fr v = -1 ↔ ¬ ∃ i, i < q ∧ rowOf qu i = v)) ∧
  (∀ i, i < q → (fr (rowOf qu i) = -2 ∧ S0 (rowOf qu i) ∧ lev (rowOf qu i) = 0) ∨ ∃ j, j < i ∧ fr (rowOf qu i) = nI (rowOf qu j) ∧ A (rowOf qu j) (rowOf qu i) ∧ lev (rowOf qu i) = lev (rowOf qu j) + 1) ∧
  (∀ i j, i ≤ j → j < q → lev (rowOf qu i) ≤ lev (rowOf qu j)) ∧ (∀ j, j < q → d < q → lev (rowOf qu j) ≤ lev (rowOf qu d) + 1) ∧ (∀ i v, i < d → i < q → A (rowOf qu i) v → ∃ k, k < q ∧ rowOf qu k = v ∧ lev v ≤ lev (rowOf qu i) + 1) ∧ (∀ i, i < d → i < q → ¬ Tm (rowOf qu i)) ∧ ctB (seB fr) 24 = q
section CBFS
variable {n : Nat} {A : Nat → Nat → Prop} {S0 Tm : Nat → Prop} {q : Nat} {fr qu : Nat → Int32} {d : Nat} {lev : Nat → Nat}
theorem CBF.room (H : CBF n A S0 Tm q fr qu d lev) {v : Nat} (h : v < 24) (h0 : fr v = -1) : q < 24 := by
  rcases Nat.lt_or_ge q 24 with z | z
  · exact z
  · have := ctB_all (p := seB fr) (n := 24) (by have := H.2.2.2.2.2.2.2.2; omega) v h
    simp [seB, h0] at this
theorem CBF.le (H : CBF n A S0 Tm q fr qu d lev) : q ≤ 24 := by
  have h1 := H.2.2.2.2.2.2.2.2
  have h2 := ctB_le (seB fr) 24
  omega
/-- one more node: a root, or from the node at d -/
theorem CBF.add (hn : n ≤ 12) (H : CBF n A S0 Tm q fr qu d lev) {v : Nat} (hv : v < 2 * n) (h0 : fr v = -1) {w : Int32} {l : Nat} (hw : ¬ w = -1)
    (hk : (w = -2 ∧ S0 v ∧ l = 0 ∧ q = q ∧ (∀ i, i < q → lev (rowOf qu i) = 0)) ∨ (d < q ∧ w = nI (rowOf qu d) ∧ A (rowOf qu d) v ∧ l = lev (rowOf qu d) + 1)) (hd : d < q ∨ d = 0) :
    CBF n A S0 Tm (q + 1) (upd fr v w) (upd qu q (nI v)) d (fun x => if x = v then l else lev x) := by
  obtain ⟨a1, a2, a3, a4, a5, a6, a7, a8, a9⟩ := H
  have e : ∀ i, rowOf (upd qu q (nI v)) i = if i = q then v else rowOf qu i := rowOf_upd (by omega)
  have e' : ∀ i, i < q → rowOf (upd qu q (nI v)) i = rowOf qu i := fun i hi => by rw [e i, if_neg (by omega)]
  have hnq : ∀ i, i < q → rowOf qu i ≠ v := fun i hi z => ((a3 v (by omega)).mp h0) ⟨i, hi, z⟩
  have el : ∀ i, i < q → (if rowOf qu i = v then l else lev (rowOf qu i)) = lev (rowOf qu i) := fun i hi => if_neg (hnq i hi)
  have htop : ∀ i, i < q → lev (rowOf qu i) ≤ l := by
    intro i hi
    rcases hk with ⟨_, _, z1, _, z2⟩ | ⟨z1, _, _, z2⟩
    · rw [z2 i hi]; omega
    · have := a6 i hi z1; omega
  have hlow : d < q → l ≤ lev (rowOf qu d) + 1 := by
    intro hdq
    rcases hk with ⟨_, _, z1, _, z2⟩ | ⟨z1, _, _, z2⟩ <;> omega
  refine ⟨fun i hi => ?_, fun i j hi hj => ?_, fun x hx => ?_, fun i hi => ?_, fun i j hi hj => ?_, fun j hj hdq => ?_, fun i x h1 h2 h3 => ?_, fun i h1 h2 => ?_, ?_⟩
  · rw [e i]
    by_cases hq : i = q
    · rw [if_pos hq, hq, upd_at]; exact ⟨rfl, hv⟩
    · rw [if_neg hq, upd_ne hq]; exact a1 i (by omega)
  · rw [e i, e j, if_neg (show ¬ i = q by omega)]
    by_cases hq : j = q
    · rw [if_pos hq]; exact hnq i (by omega)
    · rw [if_neg hq]; exact a2 i j hi (by omega)
  · by_cases hxv : x = v
    · rw [hxv, upd_at]
      exact ⟨fun z => absurd z hw, fun z => absurd ⟨q, by omega, by rw [e q, if_pos rfl]⟩ z⟩
    · rw [upd_ne hxv, a3 x hx]
      refine not_congr ⟨?_, ?_⟩
      · rintro ⟨i, g1, g2⟩; exact ⟨i, by omega, by rw [e i, if_neg (by omega)]; exact g2⟩
      · rintro ⟨i, g1, g2⟩
        rw [e i] at g2
        by_cases hq : i = q
        · rw [if_pos hq] at g2; exact absurd g2.symm hxv
        · rw [if_neg hq] at g2; exact ⟨i, by omega, g2⟩
  · dsimp only
    rw [e i]
    by_cases hq : i = q
    · rw [if_pos hq, upd_at, if_pos rfl]
      rcases hk with ⟨z1, z2, z3, _, _⟩ | ⟨z1, z2, z3, z4⟩
      · exact Or.inl ⟨z1, z2, z3⟩
      · refine Or.inr ⟨d, by omega, ?_, ?_, ?_⟩
        · rw [e d, if_neg (by omega)]; exact z2
        · rw [e d, if_neg (by omega)]; exact z3
        · rw [e' d z1, el d z1]; exact z4
    · rw [if_neg hq, upd_ne (hnq i (by omega)), el i (by omega)]
      rcases a4 i (by omega) with z | ⟨j, z1, z2, z3, z4⟩
      · exact Or.inl z
      · refine Or.inr ⟨j, z1, ?_, ?_, ?_⟩
        · rw [e j, if_neg (by omega)]; exact z2
        · rw [e j, if_neg (by omega)]; exact z3
        · rw [e' j (by omega), el j (by omega)]; exact z4
  · dsimp only
    rw [e i, e j]
    by_cases hq : j = q
    · rw [if_pos hq, if_pos rfl]
      by_cases hq2 : i = q
      · rw [if_pos hq2, if_pos rfl]; exact Nat.le_refl _
      · rw [if_neg hq2, el i (by omega)]; exact htop i (by omega)
    · rw [if_neg hq, if_neg (show ¬ i = q by omega), el i (by omega), el j (by omega)]; exact a5 i j hi (by omega)
  · dsimp only
    rw [e j, e d]
    by_cases hdq2 : d = q
    · rw [if_pos hdq2, if_pos rfl]
      have hd0 : d = 0 := by omega
      by_cases hq : j = q
      · rw [if_pos hq, if_pos rfl]; omega
      · omega
    · rw [if_neg hdq2, el d (by omega)]
      by_cases hq : j = q
      · rw [if_pos hq, if_pos rfl]; exact hlow (by omega)
      · rw [if_neg hq, el j (by omega)]; exact a6 j (by omega) (by omega)
  · have hiq : i < q := by omega
    rw [e i, if_neg (by omega)] at h3 ⊢
    obtain ⟨k, k1, k2, k3⟩ := a7 i x h1 hiq h3
    have hxv : ¬ x = v := fun z => hnq k k1 (by rw [k2, z])
    dsimp only
    rw [if_neg hxv, el i hiq]
    exact ⟨k, by omega, by rw [e k, if_neg (by omega)]; exact k2, k3⟩
  · rw [e i, if_neg (by omega)]; exact a8 i h1 (by omega)
  · rw [ctB_add (p := seB fr) (q := seB (upd fr v w)) (v := v) (by simp [seB, h0]) (by simp [seB, upd_at, hw]) (fun k hk => by simp [seB, upd_ne hk]) 24, a9, if_pos (by omega)]
/-- while the node at d is left: what it has led to -/
def SC (n : Nat) (A : Nat → Nat → Prop) (S0 Tm : Nat → Prop) (q : Nat) (fr qu : Nat → Int32) (d a : Nat) (V : Nat → Prop) : Prop := ∃ lev, CBF n A S0 Tm q fr qu d lev ∧ d < q ∧ rowOf qu d = a ∧ (∀ v, V v → ∃ k, k < q ∧ rowOf qu k = v ∧ lev v ≤ lev a + 1) ∧ ∀ s, S0 s → ∃ k, k < q ∧ rowOf qu k = s ∧ lev s = 0
theorem m1_ne {k : Nat} (h : k < 24) : ¬ nI k = (-1 : Int32) := by
  intro z
  have := congrArg Int32.toInt z
  rw [nI_toInt (by omega)] at this
  have e : (-1 : Int32).toInt = -1 := rfl
  omega
theorem SC.reach (hn : n ≤ 12) {a v : Nat} {V : Nat → Prop} (H : SC n A S0 Tm q fr qu d a V) (hv : v < 2 * n) (hA : A a v) {Q : Int32 → (Nat → Int32) → (Nat → Int32) → Prop} (hQ : ∀ q' fr' qu', SC n A S0 Tm q' fr' qu' d a (fun x => V x ∨ x = v) → Q (nI q') fr' qu') : wp_X4_reach (nI q) fr qu (nI v) (nI a) Q := by
  obtain ⟨lev, hC, hd, ha, hV, hR⟩ := H
  have hle := hC.le
  have ha2 : a < 2 * n := by rw [← ha]; exact (hC.1 d hd).2
  unfold wp_X4_reach
  rw [cl_nI (by omega), cl_nI (by omega)]
  refine ⟨pk_in v 24 (by omega), fun hs => hQ q fr qu ⟨lev, hC, hd, ha, fun x hx => ?_, hR⟩, fun hs => ?_⟩
  · rcases hx with z | z
    · exact hV x z
    · have h1 := (not_congr (hC.2.2.1 v (by omega))).mp hs
      obtain ⟨i, i1, i2⟩ : ∃ i, i < q ∧ rowOf qu i = v := Classical.byContradiction h1
      refine ⟨i, i1, by rw [z]; exact i2, ?_⟩
      have := hC.2.2.2.2.2.1 i i1 hd
      rw [ha, i2] at this
      rw [z]; exact this
  · have hq := hC.room (by omega) hs
    refine pk_le 24 q (fun z => absurd z (by omega)) (fun _ => ⟨pk_in v 24 (by omega), fun fr' ef => ⟨pk_in q 24 hq, fun qu' eq x ex => ?_⟩⟩)
    rw [ex, nI_1, ef, eq]
    have hC' := hC.add hn hv hs (w := nI a) (l := lev a + 1) (m1_ne (by omega)) (Or.inr ⟨hd, by rw [ha], by rw [ha]; exact hA, by rw [ha]⟩) (Or.inl hd)
    have hnq : ∀ i, i < q → rowOf qu i ≠ v := fun i hi z => ((hC.2.2.1 v (by omega)).mp hs) ⟨i, hi, z⟩
    have hav : ¬ a = v := fun z => hnq d hd (by rw [ha, z])
    refine hQ (q + 1) _ _ ⟨_, hC', by omega, by rw [rowOf_upd (by omega), if_neg (by omega)]; exact ha, fun x hx => ?_, fun s hs0 => ?_⟩
    rotate_left
    · obtain ⟨k, k1, k2, k3⟩ := hR s hs0
      exact ⟨k, by omega, by rw [rowOf_upd (by omega), if_neg (by omega)]; exact k2, by rw [if_neg (fun z => hnq k k1 (by rw [k2, z]))]; exact k3⟩
    rw [if_neg hav]
    by_cases hxv : x = v
    · exact ⟨q, by omega, by rw [rowOf_upd (by omega), if_pos rfl]; exact hxv.symm, by rw [if_pos hxv]; exact Nat.le_refl _⟩
    · rcases hx with z | z
      · obtain ⟨k, k1, k2, k3⟩ := hV x z
        exact ⟨k, by omega, by rw [rowOf_upd (by omega), if_neg (by omega)]; exact k2, by rw [if_neg hxv]; exact k3⟩
      · exact absurd z hxv
theorem SC.done {a : Nat} {V : Nat → Prop} (H : SC n A S0 Tm q fr qu d a V) (hV : ∀ v, A a v → V v) (hT : ¬ Tm a) : ∃ lev, CBF n A S0 Tm q fr qu (d + 1) lev ∧ ∀ s, S0 s → ∃ k, k < q ∧ rowOf qu k = s ∧ lev s = 0 := by
  obtain ⟨lev, ⟨a1, a2, a3, a4, a5, a6, a7, a8, a9⟩, hd, ha, hV2, hR⟩ := H
  refine ⟨lev, ⟨a1, a2, a3, a4, a5, fun j hj hdq => ?_, fun i v h1 h2 h3 => ?_, fun i h1 h2 => ?_, a9⟩, hR⟩
  · have h1 := a6 j hj hd
    have h2 := a5 d (d + 1) (by omega) hdq
    omega
  · rcases Nat.lt_or_ge i d with z | z
    · exact a7 i v z h2 h3
    · have e : i = d := by omega
      subst e
      rw [ha] at h3 ⊢
      exact hV2 v (hV v h3)
  · rcases Nat.lt_or_ge i d with z | z
    · exact a8 i z h2
    · rw [show i = d by omega, ha]; exact hT
theorem SC.mono {a : Nat} {V V' : Nat → Prop} (H : SC n A S0 Tm q fr qu d a V) (h : ∀ v, V' v → V v) : SC n A S0 Tm q fr qu d a V' := by
  obtain ⟨lev, h1, h2, h3, h4, h5⟩ := H
  exact ⟨lev, h1, h2, h3, fun v hv => h4 v (h v hv), h5⟩
/-- a way to each node that was reached, with as many steps as its level -/
theorem CBF.path (H : CBF n A S0 Tm q fr qu d lev) : ∀ m i, i ≤ m → i < q → ∃ p : Nat → Nat, Way (2 * n) A S0 p (lev (rowOf qu i)) ∧ p (lev (rowOf qu i)) = rowOf qu i ∧ fr (p 0) = -2 ∧ (∀ j, j < lev (rowOf qu i) → fr (p (j + 1)) = nI (p j)) ∧ ∀ j, j ≤ lev (rowOf qu i) → lev (p j) = j := by
  obtain ⟨a1, a2, a3, a4, a5, a6, a7, a8, a9⟩ := H
  have base : ∀ i, i < q → (fr (rowOf qu i) = -2 ∧ S0 (rowOf qu i) ∧ lev (rowOf qu i) = 0) → ∃ p : Nat → Nat, Way (2 * n) A S0 p (lev (rowOf qu i)) ∧ p (lev (rowOf qu i)) = rowOf qu i ∧ fr (p 0) = -2 ∧ (∀ j, j < lev (rowOf qu i) → fr (p (j + 1)) = nI (p j)) ∧ ∀ j, j ≤ lev (rowOf qu i) → lev (p j) = j := by
    rintro i hi ⟨z1, z2, z3⟩
    rw [z3]
    exact ⟨fun _ => rowOf qu i, ⟨z2, fun _ _ => (a1 i hi).2, fun j hj => absurd hj (by omega)⟩, rfl, z1, fun j hj => absurd hj (by omega), fun j hj => by rw [z3]; omega⟩
  intro m
  induction m with
  | zero =>
    intro i hi hq
    rcases a4 i hq with z | ⟨j, z1, _⟩
    · exact base i hq z
    · omega
  | succ m ih =>
    intro i hi hq
    rcases a4 i hq with z | ⟨j, z1, z2, z3, z4⟩
    · exact base i hq z
    · obtain ⟨p, ⟨w1, w2, w3⟩, p2, p3, p4, p5⟩ := ih j (by omega) (by omega)
      rw [z4]
      refine ⟨fun x => if x ≤ lev (rowOf qu j) then p x else rowOf qu i, ⟨?_, fun x hx => ?_, fun x hx => ?_⟩, ?_, ?_, fun x hx => ?_, fun x hx => ?_⟩
      · dsimp only; rw [if_pos (by omega)]; exact w1
      · dsimp only
        by_cases hxl : x ≤ lev (rowOf qu j)
        · rw [if_pos hxl]; exact w2 x hxl
        · rw [if_neg hxl]; exact (a1 i hq).2
      · dsimp only
        rw [if_pos (by omega)]
        by_cases hxl : x + 1 ≤ lev (rowOf qu j)
        · rw [if_pos hxl]; exact w3 x (by omega)
        · rw [if_neg hxl, show x = lev (rowOf qu j) by omega, p2]; exact z3
      · dsimp only; rw [if_neg (by omega)]
      · dsimp only; rw [if_pos (by omega)]; exact p3
      · dsimp only
        rw [if_pos (show x ≤ lev (rowOf qu j) by omega)]
        by_cases hxl : x + 1 ≤ lev (rowOf qu j)
        · rw [if_pos hxl]; exact p4 x (by omega)
        · rw [if_neg hxl, show x = lev (rowOf qu j) by omega, p2]; exact z2
      · dsimp only
        by_cases hxl : x ≤ lev (rowOf qu j)
        · rw [if_pos hxl]; exact p5 x hxl
        · rw [if_neg hxl, z4]; omega
/-- what a search that found a way tells -/
def FoundW (n : Nat) (A : Nat → Nat → Prop) (S0 Tm : Nat → Prop) (fr : Nat → Int32) (v : Nat) (p : Nat → Nat) (m : Nat) : Prop := Way (2 * n) A S0 p m ∧ p m = v ∧ Tm v ∧ fr (p 0) = -2 ∧ (∀ j, j < m → fr (p (j + 1)) = nI (p j)) ∧ (∀ i j, i < j → j ≤ m → p i ≠ p j) ∧ ∀ (p' : Nat → Nat) (m' : Nat), Way (2 * n) A S0 p' m' → Tm (p' m') → m ≤ m'
theorem CBF.found (H : CBF n A S0 Tm q fr qu d lev) (hroot : ∀ s, S0 s → ∃ k, k < q ∧ rowOf qu k = s ∧ lev s = 0) (hd : d < q) (hT : Tm (rowOf qu d)) : ∃ p m, FoundW n A S0 Tm fr (rowOf qu d) p m := by
  obtain ⟨p, p1, p2, p3, p4, p5⟩ := H.path d d (Nat.le_refl _) hd
  obtain ⟨a1, a2, a3, a4, a5, a6, a7, a8, a9⟩ := H
  refine ⟨p, lev (rowOf qu d), p1, p2, hT, p3, p4, fun i j hi hj z => ?_, fun p' m' W' T' => ?_⟩
  · have h1 := p5 i (by omega)
    have h2 := p5 j hj
    rw [z, h2] at h1
    omega
  · rcases Nat.lt_or_ge m' (lev (rowOf qu d)) with z | z
    · exfalso
      have key : ∀ j, j ≤ m' → ∃ k, k < q ∧ rowOf qu k = p' j ∧ lev (p' j) ≤ j := by
        intro j
        induction j with
        | zero =>
          intro _
          obtain ⟨k, k1, k2, k3⟩ := hroot _ W'.1
          exact ⟨k, k1, k2, by omega⟩
        | succ j ih =>
          intro hj
          obtain ⟨k, k1, k2, k3⟩ := ih (by omega)
          have hkd : k < d := by
            rcases Nat.lt_or_ge k d with w | w
            · exact w
            · have := a5 d k w k1; rw [k2] at this; omega
          obtain ⟨k', l1, l2, l3⟩ := a7 k (p' (j + 1)) hkd k1 (by rw [k2]; exact W'.2.2 j (by omega))
          exact ⟨k', l1, l2, by rw [k2] at l3; omega⟩
      obtain ⟨k, k1, k2, k3⟩ := key m' (Nat.le_refl _)
      have hkd : k < d := by
        rcases Nat.lt_or_ge k d with w | w
        · exact w
        · have := a5 d k w k1; rw [k2] at this; omega
      exact a8 k hkd k1 (by rw [k2]; exact T')
    · exact z
end CBFS
