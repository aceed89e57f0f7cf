/-! the class: how many bends there are -/
def IsB (n : Nat) (tKi tEa tHa tPr tEx tSt tBe : Nat → Int32) (sh T : Int) : Prop := T = sh ∨ (sh < T ∧ ∃ c0 c1 c2, CAt n (iT tEa) (iT tHa) (cT tKi tEa tPr tEx tSt) (foC n tBe) (T - 1) c0 ∧ CAt n (iT tEa) (iT tHa) (cT tKi tEa tPr tEx tSt) (foC n tBe) T c1 ∧ CAt n (iT tEa) (iT tHa) (cT tKi tEa tPr tEx tSt) (foC n tBe) (T + 1) c2 ∧ c0 - c1 ≠ c1 - c2)
noncomputable def kS (n : Nat) (tKi tEa tHa tPr tEx tSt tBe : Nat → Int32) (sh : Int) : Nat := ctB (fun T => @decide (IsB n tKi tEa tHa tPr tEx tSt tBe sh (T : Int)) (Classical.propDecidable _)) 721
theorem max_ex (f : Nat → Int) : ∀ n : Nat, ∃ L, MaxEnd n f L
  | 0 => ⟨0, by omega, fun t h => absurd h (by omega), Or.inl rfl⟩
  | n + 1 => by
    obtain ⟨L, h1, h2, h3⟩ := max_ex f n
    by_cases q : f n ≤ L
    · refine ⟨L, h1, fun t ht => ?_, ?_⟩
      · rcases Nat.lt_or_ge t n with z | z
        · exact h2 t z
        · rw [show t = n by omega]; exact q
      · rcases h3 with z | ⟨t, z1, z2⟩
        · exact Or.inl z
        · exact Or.inr ⟨t, by omega, z2⟩
    · refine ⟨f n, by omega, fun t ht => ?_, Or.inr ⟨n, by omega, rfl⟩⟩
      rcases Nat.lt_or_ge t n with z | z
      · have := h2 t z; omega
      · rw [show t = n by omega]; exact Int.le_refl _
theorem ct_inj {N k : Nat} {P : Nat → Bool} {p : Nat → Nat} (hi : ∀ i j, i < j → j < k → p i ≠ p j) (hp : ∀ i, i < k → p i < N ∧ P (p i) = true) : k ≤ ctB P N := by
  have key : ∀ a, a ≤ k → a ≤ ctB (fun v => decide (∃ j, j < a ∧ p j = v)) N := by
    intro a
    induction a with
    | zero => intro _; exact Nat.zero_le _
    | succ a ih =>
      intro ha
      have h1 := ih (by omega)
      have h2 := ctB_lt (n := N) (p := fun v => decide (∃ j, j < a ∧ p j = v)) (q := fun v => decide (∃ j, j < a + 1 ∧ p j = v)) (fun v _ hp => by
        obtain ⟨j, hj, e⟩ := of_decide_eq_true hp
        exact decide_eq_true ⟨j, by omega, e⟩) (v := p a) (hp a (by omega)).1 (by
        apply decide_eq_false
        rintro ⟨j, hj, e⟩
        exact hi j a hj (by omega) e) (decide_eq_true ⟨a, by omega, rfl⟩)
      omega
  refine Nat.le_trans (key k (Nat.le_refl _)) (ctB_mono (fun v _ h => ?_))
  obtain ⟨j, hj, e⟩ := of_decide_eq_true h
  rw [← e]; exact (hp j hj).2
theorem ct_cov {N : Nat} {p : Nat → Nat} : ∀ {k : Nat} {P : Nat → Bool}, (∀ T, T < N → P T = true → ∃ i, i < k ∧ p i = T) → ctB P N ≤ k
  | 0, P, h => by
    rw [ctB_none (fun T hT => ?_)]
    · exact Nat.le_refl _
    · cases hq : P T
      · rfl
      · obtain ⟨i, i1, _⟩ := h T hT hq; omega
  | k + 1, P, h => by
    have i1 := ct_cov (k := k) (P := fun T => P T && !decide (T = p k)) (fun T hT hq => by
      simp at hq
      obtain ⟨i, i1, i2⟩ := h T hT hq.1
      refine ⟨i, ?_, i2⟩
      rcases Nat.lt_or_ge i k with z | z
      · exact z
      · exact absurd (by rw [← i2, show i = k by omega]) hq.2)
    cases hq : P (p k)
    · have : ctB (fun T => P T && !decide (T = p k)) N = ctB P N := ctB_congr (fun T _ => by
        by_cases z : T = p k
        · rw [z, hq]; rfl
        · simp [z])
      omega
    · have := ctB_add (p := fun T => P T && !decide (T = p k)) (q := P) (v := p k) (by simp) hq (fun T z => by simp [z]) N
      split at this <;> omega
section COUNT
variable {n : Nat} {tKi tEa tHa tPr tEx tSt tBe th pa ou : Nat → Int32} {nFo : Int32} {nRo nBe nEa nMi nHa nER nMR : Nat → Int32} {sh : Int} {eL : Nat → Int32} {eC eS : Nat → Int64} {eB eE eF eG : Nat → Nat → Int32}
theorem draw_next (hT : TB n (nI n) tKi tEa tHa tPr tEx tSt tBe) {B : Nat → Int} (hE : Early n (foC n tBe) (iT tHa) B) (hB : LenOf n (iT tHa) B sh) {x3 x5 x7 : Int} {k : Nat} (D : DrawI n tKi tEa tHa tPr tEx tSt tBe sh x3 x5 x7 k th pa ou) : sh ≤ 720 ∧ (0 < k → x7 ≤ 720 ∧ CAt n (iT tEa) (iT tHa) (cT tKi tEa tPr tEx tSt) (foC n tBe) (x7 - 1) (x3 + x5)) := by
  obtain ⟨hF, ⟨b1, f1, S, G, hf1⟩, hc⟩ := id D
  obtain ⟨yb, yf, hY⟩ := LeaT.ex S G
  obtain ⟨r, hr⟩ := max_ex yf n
  obtain ⟨bE, fE, hEe⟩ : ∃ bE fE : Nat → Int, ((∀ t, t < n → ¬ 0 < iT ou t) ∧ ∀ t, t < n → bE t = -1000000 ∧ fE t = -1000000) ∨ ((∃ t, t < n ∧ 0 < iT ou t) ∧ LeaT n (onT (iT tEa) (mdT tKi tEa tHa tEx) (iT tHa) (erT tKi tEa tHa tPr tEx) (s2T tKi tEa tHa tEx tSt) (iT th)) (offT (iT tEa) (mdT tKi tEa tHa tEx) (iT tHa) (erT tKi tEa tHa tPr tEx) (s2T tKi tEa tHa tEx tSt) (iT th)) (iT th) (Red (foC n tBe)) (paI pa) (fun _ => -1000000) (fun t => if 0 < iT ou t then 0 else -1000000) bE fE ∧ ∀ t, t < n → bE t ≤ 1000 ∧ fE t ≤ 1000) := by
    rcases hc with ⟨k0, h5, hz1, hz2, hz3, h3⟩ | ⟨k1, h7, h72, h5, bz, fz, H, hP, hLn, hC⟩
    · exact ⟨fun _ => -1000000, fun _ => -1000000, Or.inl ⟨fun t ht => by rw [hz2 t ht]; omega, fun t _ => ⟨rfl, rfl⟩⟩⟩
    · obtain ⟨bE, fE, z⟩ := yE_ex hT H hP hLn (by have := hB.1; omega)
      refine ⟨bE, fE, Or.inr ⟨?_, z⟩⟩
      apply Classical.byContradiction
      intro q
      have : sT (iT ou) n = 0 := by
        rw [sT_congr (g := fun _ => 0) (fun t ht => ?_)]
        · exact sT_zero n
        · have w1 := (hF.1 t ht).2.1
          have w2 : ¬ 0 < iT ou t := fun w => q ⟨t, ht, w⟩
          show iT ou t = 0
          omega
      have := hF.2.2
      omega
  obtain ⟨⟨c1, c2, c3, c4⟩, _, _, _, hpl, _⟩ := draw_step hT hE hB D hY hr hEe
  refine ⟨by omega, fun hk => ⟨(c4 hk).2, ?_⟩⟩
  have c5 := c4 hk
  obtain ⟨p, q⟩ := hpl (x7 - 1) (by omega) (by omega) (fun _ => by omega)
  refine ⟨_, _, p.1, ?_⟩
  have : x5 * (x7 - r) = x5 * (x7 - 1 - r) + x5 := by rw [show x7 - r = (x7 - 1 - r) + 1 by omega, Int.mul_add, Int.mul_one]
  rw [q]; omega
theorem isB_mid {i : Nat} (H : BendOK n tKi tEa tHa tPr tEx tSt tBe sh eL eC eS eB eE eF eG i) {s' : Int} (hs : (eS i).toInt < s') (hsh : sh < (eL i).toInt) (hC : CAt n (iT tEa) (iT tHa) (cT tKi tEa tPr tEx tSt) (foC n tBe) ((eL i).toInt - 1) ((eC i).toInt + s')) : IsB n tKi tEa tHa tPr tEx tSt tBe sh (eL i).toInt := by
  have h2 := H.1.2
  have k1 := bend_cat H (T := (eL i).toInt) (Int.le_refl _) (by omega) (fun j hj => by have := (H.2.2.2.2.1 j hj).1; omega)
  have k2 := bend_cat H (T := (eL i).toInt + 1) (by omega) (by omega) (fun j hj => by have := (H.2.2.2.2.1 j hj).1; omega)
  rw [Int.sub_self, Int.mul_zero] at k1
  rw [show (eL i).toInt + 1 - (eL i).toInt = 1 by omega, Int.mul_one] at k2
  exact Or.inr ⟨hsh, _, _, _, hC, k1, k2, by omega⟩
theorem isB_next {i : Nat} (H : BendOK n tKi tEa tHa tPr tEx tSt tBe sh eL eC eS eB eE eF eG i) (H' : BendOK n tKi tEa tHa tPr tEx tSt tBe sh eL eC eS eB eE eF eG (i + 1)) : IsB n tKi tEa tHa tPr tEx tSt tBe sh (eL i).toInt := by
  obtain ⟨q1, q2, q3⟩ := H'.2.2.2.2.1 i rfl
  have h1 := H'.1
  have h2 := H.1
  refine isB_mid H (s' := (eS (i + 1)).toInt) q2 (by omega) ?_
  have k := bend_cat H' (T := (eL i).toInt - 1) (by omega) (by omega) (fun j hj => by rw [show j = i by omega]; omega)
  have e : (eC (i + 1)).toInt - (eS (i + 1)).toInt * ((eL i).toInt - 1 - (eL (i + 1)).toInt) = (eC i).toInt + (eS (i + 1)).toInt := by
    have : (eS (i + 1)).toInt * ((eL i).toInt - (eL (i + 1)).toInt) = (eS (i + 1)).toInt * ((eL i).toInt - 1 - (eL (i + 1)).toInt) + (eS (i + 1)).toInt := by
      rw [show (eL i).toInt - (eL (i + 1)).toInt = ((eL i).toInt - 1 - (eL (i + 1)).toInt) + 1 by omega, Int.mul_add, Int.mul_one]
    omega
  rw [e] at k
  exact k
theorem len_dec {k : Nat} (hb : ∀ i, i < k → BendOK n tKi tEa tHa tPr tEx tSt tBe sh eL eC eS eB eE eF eG i) : ∀ i j, i < j → j < k → (eL j).toInt < (eL i).toInt := by
  intro i j
  induction j with
  | zero => intro h; omega
  | succ j ih =>
    intro h1 h2
    have q := ((hb (j + 1) h2).2.2.2.2.1 j rfl).1
    rcases Nat.lt_or_ge i j with z | z
    · have := ih z (by omega); omega
    · rw [show i = j by omega]; exact q
/-- while the curve is drawn, there are more bends to come -/
theorem more (hT : TB n (nI n) tKi tEa tHa tPr tEx tSt tBe) {B : Nat → Int} (hE : Early n (foC n tBe) (iT tHa) B) (hB : LenOf n (iT tHa) B sh) {x3 x5 x7 : Int} {k : Nat} (D : DrawI n tKi tEa tHa tPr tEx tSt tBe sh x3 x5 x7 k th pa ou) (hlink : ∀ j, j + 1 = k → (eL j).toInt = x7 ∧ (eC j).toInt = x3 ∧ (eS j).toInt < x5) (hb : ∀ i, i < k → BendOK n tKi tEa tHa tPr tEx tSt tBe sh eL eC eS eB eE eF eG i) : k < kS n tKi tEa tHa tPr tEx tSt tBe sh := by
  have s0 := hB.1
  obtain ⟨n1, n2⟩ := draw_next hT hE hB D
  have hx : 0 < k → sh < x7 := fun q => by rcases D.2.2 with ⟨z, _⟩ | ⟨_, z, _⟩ <;> omega
  have up : ∀ i, i < k → sh < (eL i).toInt := fun i hi => by
    have l := (hlink (k - 1) (by omega)).1
    have := hx (by omega)
    rcases Nat.lt_or_ge i (k - 1) with z | z
    · have := len_dec hb i (k - 1) z (by omega); omega
    · rw [show i = k - 1 by omega]; omega
  refine ct_inj (k := k + 1) (p := fun i => if i < k then (eL i).toInt.toNat else sh.toNat) (fun i j hi hj => ?_) (fun i hi => ?_)
  · have u1 := up i (by omega)
    rw [if_pos (show i < k by omega)]
    by_cases q : j < k
    · rw [if_pos q]
      have u2 := up j q
      have := len_dec hb i j hi q
      omega
    · rw [if_neg q]; omega
  · by_cases q : i < k
    · rw [if_pos q]
      have u := up i q
      have b := (hb i q).1
      refine ⟨by omega, @decide_eq_true _ (Classical.propDecidable _) ?_⟩
      rw [show ((eL i).toInt.toNat : Int) = (eL i).toInt by omega]
      rcases Nat.lt_or_ge (i + 1) k with z | z
      · exact isB_next (hb i q) (hb (i + 1) z)
      · obtain ⟨l1, l2, l3⟩ := hlink i (by omega)
        refine isB_mid (hb i q) l3 u ?_
        rw [l1, l2]; exact (n2 (by omega)).2
    · rw [if_neg q]
      refine ⟨by omega, @decide_eq_true _ (Classical.propDecidable _) (Or.inl (by omega))⟩
/-- a curve has as many bends as there are -/
theorem bends_iff {k : Nat} (hk : 0 < k) (hb : ∀ i, i < k → BendOK n tKi tEa tHa tPr tEx tSt tBe sh eL eC eS eB eE eF eG i) (hl : ∀ j, j + 1 = k → (eL j).toInt = sh) {T : Int} (hT : T ≤ 720) : IsB n tKi tEa tHa tPr tEx tSt tBe sh T ↔ ∃ i, i < k ∧ (eL i).toInt = T := by
  constructor
  · intro H
    by_cases hs : T = sh
    · exact ⟨k - 1, by omega, by rw [hl (k - 1) (by omega), hs]⟩
    · rcases H with z | ⟨z0, c0, c1, c2, z1, z2, z3, z4⟩
      · exact absurd z hs
      · obtain ⟨i, i1, i2⟩ := pk_least (fun i : Nat => i < k ∧ (eL i).toInt ≤ T) ⟨k - 1, by omega, by rw [hl (k - 1) (by omega)]; omega⟩
        by_cases q : (eL i).toInt = T
        · exact ⟨i, i1.1, q⟩
        · exfalso
          have hp : ∀ j, j + 1 = i → T + 1 ≤ (eL j).toInt := fun j hj => by
            have := i2 j (by omega)
            have : ¬ (eL j).toInt ≤ T := fun w => this ⟨by omega, w⟩
            omega
          have i3 := i1.2
          have k0 := z1.one (bend_cat (hb i i1.1) (T := T - 1) (by omega) (by omega) (fun j hj => by have := hp j hj; omega))
          have k1 := z2.one (bend_cat (hb i i1.1) (T := T) (by omega) (by omega) (fun j hj => by have := hp j hj; omega))
          have k2 := z3.one (bend_cat (hb i i1.1) (T := T + 1) (by omega) (by omega) (fun j hj => by have := hp j hj; omega))
          have m1 : (eS i).toInt * (T - (eL i).toInt) = (eS i).toInt * (T - 1 - (eL i).toInt) + (eS i).toInt := by
            rw [show T - (eL i).toInt = (T - 1 - (eL i).toInt) + 1 by omega, Int.mul_add, Int.mul_one]
          have m2 : (eS i).toInt * (T + 1 - (eL i).toInt) = (eS i).toInt * (T - (eL i).toInt) + (eS i).toInt := by
            rw [show T + 1 - (eL i).toInt = (T - (eL i).toInt) + 1 by omega, Int.mul_add, Int.mul_one]
          omega
  · rintro ⟨i, i1, i2⟩
    rw [← i2]
    rcases Nat.lt_or_ge (i + 1) k with z | z
    · exact isB_next (hb i i1) (hb (i + 1) z)
    · exact Or.inl (hl i (by omega))
theorem bends_count {k : Nat} (s0 : 0 ≤ sh) (hk : 0 < k) (hb : ∀ i, i < k → BendOK n tKi tEa tHa tPr tEx tSt tBe sh eL eC eS eB eE eF eG i) (hl : ∀ j, j + 1 = k → (eL j).toInt = sh) : kS n tKi tEa tHa tPr tEx tSt tBe sh = k := by
  apply Nat.le_antisymm
  · refine ct_cov (p := fun i => (eL i).toInt.toNat) (fun T hT q => ?_)
    obtain ⟨i, i1, i2⟩ := (bends_iff hk hb hl (by omega)).mp (@of_decide_eq_true _ (Classical.propDecidable _) q)
    exact ⟨i, i1, by omega⟩
  · refine ct_inj (p := fun i => (eL i).toInt.toNat) (fun i j hi hj => ?_) (fun i hi => ?_)
    · have := len_dec hb i j hi hj
      have := (hb i (by omega)).1
      have := (hb j hj).1
      omega
    · have := (hb i hi).1
      refine ⟨by omega, @decide_eq_true _ (Classical.propDecidable _) ?_⟩
      rw [show ((eL i).toInt.toNat : Int) = (eL i).toInt by omega]
      exact (bends_iff hk hb hl (by omega)).mpr ⟨i, hi, rfl⟩
theorem draw_loop (hT : TB n (nI n) tKi tEa tHa tPr tEx tSt tBe) (hL : Laid n tKi tEa tHa tPr tEx tSt tBe nFo nRo nBe nEa nMi nHa nER nMR) {a2 : Int32} {B : Nat → Int} (hE : Early n (foC n tBe) (iT tHa) B) (hB : LenOf n (iT tHa) B a2.toInt) {K eM0 : Nat} (hK : eM0 + K = max eM0 (kS n tKi tEa tHa tPr tEx tSt tBe a2.toInt)) {X : Int32 → Int32 → (Nat → Int32) → (Nat → Int32) → (Nat → Int32) → (Nat → Int32) → (Nat → Int32) → Nat → (Nat → Int32) → (Nat → Int64) → (Nat → Int64) → (Nat → Nat → Int32) → (Nat → Nat → Int32) → (Nat → Nat → Int32) → (Nat → Nat → Int32) → Prop}
    (hX : ∀ (k : Nat) (qd : Int32) (th pa ou fr qu : Nat → Int32) (eM : Nat) (eL : Nat → Int32) (eC eS : Nat → Int64) (eB eE eF eG : Nat → Nat → Int32), 0 < k → k ≤ 721 → eM = max eM0 k → (∀ i, i < k → BendOK n tKi tEa tHa tPr tEx tSt tBe a2.toInt eL eC eS eB eE eF eG i) → (∀ j, j + 1 = k → (eL j).toInt = a2.toInt) → X (nI k) qd th pa ou fr qu eM eL eC eS eB eE eF eG) :
    ∀ (m k : Nat) (x3 x5 : Int64) (x7 x8 qd : Int32) (th pa ou fr qu : Nat → Int32) (eM : Nat) (eL : Nat → Int32) (eC eS : Nat → Int64) (eB eE eF eG : Nat → Nat → Int32), k + m = 721 → (k = 0 → x7 = 0) → eM = max eM0 k → (∀ i, i < k → BendOK n tKi tEa tHa tPr tEx tSt tBe a2.toInt eL eC eS eB eE eF eG i) → StI n tKi tEa tHa tPr tEx tSt tBe a2.toInt x3 x5 x7 x8 k th pa ou eL eC eS →
      wp_X3_draw_L27 K a2 eM0 (nI n) nFo nRo nBe nEa nMi nHa nER nMR X (m + 1) x3 x5 x7 x8 (nI k) qd th pa ou fr qu eM eL eC eS eB eE eF eG := by
  have hsh := hB.1
  intro m
  induction m with
  | zero =>
    intro k x3 x5 x7 x8 qd th pa ou fr qu eM eL eC eS eB eE eF eG hk h7 h1 hb hs
    rw [wp_X3_draw_L27]
    rcases hs with ⟨s1, s2, s3⟩ | ⟨s1, s2, s3⟩
    · exfalso
      rcases s2.2.2 with ⟨z, _⟩ | ⟨_, z1, z2, _⟩ <;> omega
    · exact ⟨fun _ => hX k qd th pa ou fr qu eM eL eC eS eB eE eF eG s2 (by omega) h1 hb s3, fun q => absurd s1 q⟩
  | succ m ih =>
    intro k x3 x5 x7 x8 qd th pa ou fr qu eM eL eC eS eB eE eF eG hk h7 h1 hb hs
    rw [wp_X3_draw_L27]
    rcases hs with ⟨s1, s2, s3⟩ | ⟨s1, s2, s3⟩
    · have hm := more hT hE hB s2 s3 hb
      refine ⟨fun q => by rw [s1] at q; exact absurd q (by decide), fun _ => ?_⟩
      refine pk_le 721 k (fun q => absurd q (by omega)) (fun _ => ⟨pk_in k 721 (by omega), ?_⟩)
      rw [cl_nI (by omega)]
      refine ⟨fun q => ?_, fun q => ?_⟩
      · exact draw_b hT hL hE hB h7 s2 s3 hb (fun x3 x5 x7 x8 qd th pa ou fr qu eL eC eS eB eE eF eG g1 g2 => ih (k + 1) x3 x5 x7 x8 qd th pa ou fr qu eM eL eC eS eB eE eF eG (by omega) (fun q => absurd q (by omega)) (by omega) g1 g2)
      · have ek : k = eM := by omega
        subst ek
        refine ⟨rfl, by omega, draw_b hT hL hE hB h7 s2 (fun j hj => ?_) (fun i hi => (hb i hi).congr (fun j hj => ?_)) (fun x3 x5 x7 x8 qd th pa ou fr qu eL eC eS eB eE eF eG g1 g2 => ih (k + 1) x3 x5 x7 x8 qd th pa ou fr qu (k + 1) eL eC eS eB eE eF eG (by omega) (fun q => absurd q (by omega)) (by omega) g1 g2)⟩
        · rw [va_up_ne _ _ (by omega), va_up_ne _ _ (by omega), va_up_ne _ _ (by omega)]
          exact s3 j hj
        · rw [va_up_ne _ _ (by omega), va_up_ne _ _ (by omega), va_up_ne _ _ (by omega), va_up_ne _ _ (by omega), va_up_ne _ _ (by omega), va_up_ne _ _ (by omega), va_up_ne _ _ (by omega)]
          exact ⟨rfl, rfl, rfl, rfl, rfl, rfl, rfl⟩
    · exact ⟨fun _ => hX k qd th pa ou fr qu eM eL eC eS eB eE eF eG s2 (by omega) h1 hb s3, fun q => absurd s1 q⟩
/-- the curve of the class -/
def CurveOK (n : Nat) (tKi tEa tHa tPr tEx tSt tBe : Nat → Int32) (sh : Int) (cC : Int32) (eM : Nat) (eL : Nat → Int32) (eC eS : Nat → Int64) (eB eE eF eG : Nat → Nat → Int32) : Prop :=
  ∃ k, cC = nI k ∧ 0 < k ∧ k ≤ 721 ∧ k ≤ eM ∧ (∀ i, i < k → BendOK n tKi tEa tHa tPr tEx tSt tBe sh eL eC eS eB eE eF eG i) ∧ ∀ j, j + 1 = k → (eL j).toInt = sh
theorem wp_draw (hT : TB n (nI n) tKi tEa tHa tPr tEx tSt tBe) {a2 : Int32} (hsh : Sh n (foC n tBe) (iT tHa) a2.toInt) {K eM : Nat} (hK : eM + K = max eM (kS n tKi tEa tHa tPr tEx tSt tBe a2.toInt)) {cC nC nFo nQd : Int32} {nRo nBe nEa nMi nHa nER nMR nTh nPa nOu nFr nQu : Nat → Int32}
    {Q : Int32 → Int32 → Int32 → Int32 → (Nat → Int32) → (Nat → Int32) → (Nat → Int32) → (Nat → Int32) → (Nat → Int32) → (Nat → Int32) → (Nat → Int32) → (Nat → Int32) → (Nat → Int32) → (Nat → Int32) → (Nat → Int32) → (Nat → Int32) → Nat → (Nat → Int32) → (Nat → Int64) → (Nat → Int64) → (Nat → Nat → Int32) → (Nat → Nat → Int32) → (Nat → Nat → Int32) → (Nat → Nat → Int32) → Prop}
    (hQ : ∀ (c nC nFo nQd : Int32) (nRo nBe nEa nMi nHa nER nMR nTh nPa nOu nFr nQu : Nat → Int32) (eM' : Nat) (eL : Nat → Int32) (eC eS : Nat → Int64) (eB eE eF eG : Nat → Nat → Int32), eM' = eM + K → CurveOK n tKi tEa tHa tPr tEx tSt tBe a2.toInt c eM' eL eC eS eB eE eF eG → Q c nC nFo nQd nRo nBe nEa nMi nHa nER nMR nTh nPa nOu nFr nQu eM' eL eC eS eB eE eF eG) :
    wp_X3_draw (nI n) tKi tEa tHa tPr tEx tSt tBe cC nC nFo nQd nRo nBe nEa nMi nHa nER nMR nTh nPa nOu nFr nQu eM eL eC eS eB eE eF eG a2 K Q := by
  obtain ⟨B, hE, hB⟩ := hsh
  have hn := hT.2.1
  refine wp_lay hT (fun fo ro be a b c d f th pa ou hLd hth hpa hou => wp_lc hT (fun v hv cc ec => ⟨722, ?_⟩))
  rw [ec]
  have hz1 : ∀ t, t < n → iT th t = 0 := fun t ht => by unfold iT; rw [hth t (by omega)]; rfl
  have hz2 : ∀ t, t < n → iT ou t = 0 := fun t ht => by unfold iT; rw [hou t (by omega)]; rfl
  have hz3 : ∀ o t, o < n → t < n → paI pa o t = 0 := fun o t ho ht => by unfold paI; rw [hpa _ (by omega)]; rfl
  obtain ⟨b1, f1, S, G, h7⟩ := first_sol hT hLd.1.2 hz1 hz3
  obtain ⟨yb, yf, hY⟩ := LeaT.ex S G
  have le := hY.2.2 b1 f1 S G
  have p := bend0 hT hz1 hz2 hz3 hY (T := 720) (fun t ht => by have := (le t ht).2; have := h7 t ht; omega)
  refine draw_loop hT hLd hE hB hK (fun k qd th pa ou fr qu eM' eL eC eS eB eE eF eG g1 g2 g3 g6 g7 => hQ _ _ _ _ _ _ _ _ _ _ _ _ _ _ _ _ eM' eL eC eS eB eE eF eG (by have := bends_count hB.1 g1 g6 g7; omega) ⟨k, rfl, g1, g2, by omega, g6, g7⟩) 721 0 v 0 0 1 _ _ _ _ _ _ _ _ _ _ _ _ _ _ (by omega) (fun _ => rfl) (by omega) (fun i hi => absurd hi (by omega)) (Or.inl ⟨rfl, ⟨p.2.2.1.2.2.1, ⟨b1, f1, S, G, fun t ht => ⟨?_, fun q => absurd q (by omega)⟩⟩, Or.inl ⟨rfl, rfl, hz1, hz2, hz3, hv⟩⟩, fun j hj => absurd hj (by omega)⟩)
  have := h7 t ht
  omega
theorem kS_le (n : Nat) (tKi tEa tHa tPr tEx tSt tBe : Nat → Int32) (sh : Int) : kS n tKi tEa tHa tPr tEx tSt tBe sh ≤ 721 := ctB_le _ _
end COUNT
