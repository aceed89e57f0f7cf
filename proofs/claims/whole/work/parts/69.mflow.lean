/-! the reference's net: rooms, search, push -/
def rm (m : Nat → Int64) (u v : Nat) : Int := (m (26 * u + v)).toInt
theorem ix26 (k o : Nat) : (26 * nI k) + nI o = nI (26 * k + o) := by
  have h : (26 : Int32) * nI k = nI (26 * k) := pk_mul 26 k
  rw [h, nI_add]
theorem rm_upd {m : Nat → Int64} {a c : Nat} {w : Int64} (hc : c < 26) {u v : Nat} (hv : v < 26) : rm (vp_updL m (26 * a + c) w) u v = if u = a ∧ v = c then w.toInt else rm m u v := by
  unfold rm vp_updL
  by_cases h : u = a ∧ v = c
  · rw [if_pos h, if_pos (by omega)]
  · rw [if_neg h, if_neg (by omega)]
/-- nothing below 0, nothing above K -/
def RmB (m : Nat → Int64) (K : Int) : Prop := ∀ u v, u < 26 → v < 26 → 0 ≤ rm m u v ∧ rm m u v ≤ K
theorem wp_edge {m : Nat → Int64} {a c : Nat} (ha : a < 26) (hc : c < 26) {K : Int} (hB : RmB m K) (hK : K ≤ 2305843009213693952) {d : Int64} (hd : 0 ≤ d.toInt) (hd2 : d.toInt ≤ 1125899911036928) {Q : (Nat → Int64) → Prop} (hQ : ∀ m', RmB m' (K + 1125899911036928) → (∀ u v, u < 26 → v < 26 → rm m' u v = addE (rm m) a c d.toInt u v) → Q m') : wp_X9_edge m (nI a) (nI c) d Q := by
  unfold wp_X9_edge
  rw [ix26, cl_nI (by omega)]
  refine ⟨pk_in (26 * a + c) 676 (by omega), pk_in (26 * a + c) 676 (by omega), fun m' em => ?_⟩
  have hb := hB a c ha hc
  have hb' : 0 ≤ (m (26 * a + c)).toInt ∧ (m (26 * a + c)).toInt ≤ K := hb
  have hadd := l_add (a := m (26 * a + c)) (b := d) (by omega) (by omega)
  have e : ∀ u v, u < 26 → v < 26 → rm m' u v = addE (rm m) a c d.toInt u v := by
    intro u v hu hv
    rw [em, rm_upd hc hv]
    unfold addE
    by_cases h : u = a ∧ v = c
    · rw [if_pos h, if_pos h, hadd, h.1, h.2]; rfl
    · rw [if_neg h, if_neg h]; omega
  refine hQ m' (fun u v hu hv => ?_) e
  rw [e u v hu hv]
  have := hB u v hu hv
  unfold addE
  split <;> omega
theorem cutv_congr {r r' : Nat → Nat → Int} {N : Nat} {Y : Nat → Bool} (h : ∀ a c, a < N → c < N → r a c = r' a c) : cutv r N Y = cutv r' N Y := by
  unfold cutv
  refine sT_congr (fun a ha => sT_congr (fun c hc => ?_))
  rw [h a c ha hc]
def goB (go : Nat → Int32) (c : Nat) : Bool := !decide (go c = 0)
/-- what a search knows: a queue of nodes, whence each came -/
def BF (m : Nat → Int64) (q : Nat) (go fr qu : Nat → Int32) (seen : Nat) : Prop :=
  (∀ i, i < q → qu i = nI (rowOf qu i) ∧ rowOf qu i < 26) ∧ (∀ i j, i < j → j < q → rowOf qu i ≠ rowOf qu j) ∧ (∀ c, c < 26 → (go c = 0 ∨ go c = 1) ∧ (¬ go c = 0 ↔ ∃ i, i < q ∧ rowOf qu i = c)) ∧ rowOf qu 0 = 24 ∧ 0 < q ∧ (∀ i, 0 < i → i < q → ∃ j, j < i ∧ fr (rowOf qu i) = nI (rowOf qu j) ∧ ¬ rm m (rowOf qu j) (rowOf qu i) = 0) ∧ (∀ i c, i < seen → i < q → c < 26 → ¬ rm m (rowOf qu i) c = 0 → ¬ go c = 0) ∧ ctB (goB go) 26 = q
/-- a search that has ended -/
def Found (m : Nat → Int64) (go fr : Nat → Int32) : Prop := ∃ rk : Nat → Nat, ¬ go 24 = 0 ∧ (∀ c, c < 26 → go c = 0 ∨ go c = 1) ∧ (∀ a c, a < 26 → c < 26 → ¬ go a = 0 → ¬ rm m a c = 0 → ¬ go c = 0) ∧ ∀ c, c < 26 → ¬ go c = 0 → c ≠ 24 → ∃ u, u < 26 ∧ fr c = nI u ∧ ¬ go u = 0 ∧ rk u < rk c ∧ ¬ rm m u c = 0
section REACH
variable {m : Nat → Int64}
theorem rch_0 {Q : (Nat → Int32) → Prop} : ∀ (j k : Nat) (go : Nat → Int32), k + j = 26 → (∀ c, c < k → go c = if c = 24 then 1 else 0) → (∀ go', (∀ c, c < 26 → go' c = if c = 24 then 1 else 0) → Q go') → wp_X9_reaches_L2 Q (j + 1) (nI k) go := by
  intro j
  induction j with
  | zero =>
    intro k go hk h hQ
    rw [wp_X9_reaches_L2]
    exact pk_le 26 k (fun _ => hQ go (fun c hc => h c (by omega))) (fun q => absurd q (by omega))
  | succ j ih =>
    intro k go hk h hQ
    rw [wp_X9_reaches_L2]
    have step : ∀ v : Int32, (v = if k = 24 then 1 else 0) → (v = 0 ∨ v = 1) → wp_X9_reaches_b24 (wp_X9_reaches_L2 Q (j + 1)) (nI k) v (nI k) go := by
      intro v hv hv2
      refine ⟨pk_in k 26 (by omega), fun go' eg x ex => ?_⟩
      rw [cl_nI (by omega), nar_b hv2] at eg
      rw [ex, nI_1]
      refine ih (k + 1) go' (by omega) (fun c hc => ?_) hQ
      rw [eg]
      by_cases h1 : c = k
      · rw [h1, upd_at, hv]
      · rw [upd_ne h1]; exact h c (by omega)
    exact pk_le 26 k (fun q => absurd q (by omega)) (fun q => pk_eq k 24 (fun e => step 1 (by rw [if_pos e]) (Or.inr rfl)) (fun e => step 0 (by rw [if_neg e]) (Or.inl rfl)) |>.symm)
theorem BF.room {q : Nat} {go fr qu : Nat → Int32} {seen : Nat} (H : BF m q go fr qu seen) {c : Nat} (h : c < 26) (h0 : go c = 0) : q < 26 := by
  rcases Nat.lt_or_ge q 26 with z | z
  · exact z
  · have := ctB_all (p := goB go) (n := 26) (by have := H.2.2.2.2.2.2.2; omega) c h
    simp [goB, h0] at this
theorem BF.le {q : Nat} {go fr qu : Nat → Int32} {seen : Nat} (H : BF m q go fr qu seen) : q ≤ 26 := by
  have h1 := H.2.2.2.2.2.2.2
  have h2 := ctB_le (goB go) 26
  omega
theorem BF.add {q : Nat} {go fr qu : Nat → Int32} {seen : Nat} (H : BF m q go fr qu seen) {c : Nat} (h : c < 26) (h0 : go c = 0) (hs : seen < q) (hr : ¬ rm m (rowOf qu seen) c = 0) : BF m (q + 1) (upd go c 1) (upd fr c (nI (rowOf qu seen))) (upd qu q (nI c)) seen := by
  obtain ⟨a1, a2, a3, a4, a5, a6, a7, a8⟩ := H
  have e : ∀ i, rowOf (upd qu q (nI c)) i = if i = q then c else rowOf qu i := rowOf_upd (by omega)
  have hnq : ∀ i, i < q → rowOf qu i ≠ c := fun i hi q2 => ((a3 c h).2.mpr ⟨i, hi, q2⟩) h0
  refine ⟨fun i hi => ?_, fun i j hi hj => ?_, fun v hv => ?_, ?_, by omega, fun i h1 h2 => ?_, fun i v h1 h2 hv h3 => ?_, ?_⟩
  · rw [e i]
    by_cases hq : i = q
    · rw [if_pos hq, hq, upd_at]; exact ⟨rfl, h⟩
    · rw [if_neg hq, upd_ne hq]; exact a1 i (by omega)
  · rw [e i, e j, if_neg (show ¬ i = q by omega)]
    by_cases hq : j = q
    · rw [if_pos hq]; exact hnq i (by omega)
    · rw [if_neg hq]; exact a2 i j hi (by omega)
  · by_cases hvc : v = c
    · rw [hvc, upd_at]
      exact ⟨Or.inr rfl, fun _ => ⟨q, by omega, by rw [e q, if_pos rfl]⟩, fun _ => by decide⟩
    · rw [upd_ne hvc]
      refine ⟨(a3 v hv).1, (a3 v hv).2.trans ⟨?_, ?_⟩⟩
      · rintro ⟨i, g1, g2⟩; exact ⟨i, by omega, by rw [e i, if_neg (by omega)]; exact g2⟩
      · rintro ⟨i, g1, g2⟩
        rw [e i] at g2
        by_cases hq : i = q
        · rw [if_pos hq] at g2; exact absurd g2.symm hvc
        · rw [if_neg hq] at g2; exact ⟨i, by omega, g2⟩
  · rw [e 0, if_neg (by omega)]; exact a4
  · rw [e i]
    by_cases hq : i = q
    · rw [if_pos hq, upd_at]
      exact ⟨seen, by omega, by rw [e seen, if_neg (by omega)], by rw [e seen, if_neg (by omega)]; exact hr⟩
    · rw [if_neg hq]
      obtain ⟨j, g1, g2, g3⟩ := a6 i h1 (by omega)
      rw [upd_ne (hnq i (by omega))]
      exact ⟨j, g1, by rw [e j, if_neg (by omega)]; exact g2, by rw [e j, if_neg (by omega)]; exact g3⟩
  · rw [e i, if_neg (by omega)] at h3
    by_cases hvc : v = c
    · rw [hvc, upd_at]; decide
    · rw [upd_ne hvc]; exact a7 i v h1 (by omega) hv h3
  · rw [ctB_add (p := goB go) (q := goB (upd go c 1)) (v := c) (by simp [goB, h0]) (by simp [goB, upd_at]) (fun k hk => by simp [goB, upd_ne hk]) 26, a8, if_pos h]
theorem rch_in {seen : Nat} {Q : Int32 → (Nat → Int32) → (Nat → Int32) → (Nat → Int32) → Prop} (hQ : ∀ (q' : Nat) (go' fr' qu' : Nat → Int32), seen < q' → BF m q' go' fr' qu' (seen + 1) → Q (nI q') go' fr' qu') : ∀ (j k q a : Nat) (go fr qu : Nat → Int32), k + j = 26 → seen < q → BF m q go fr qu seen → rowOf qu seen = a → (∀ c, c < k → ¬ rm m a c = 0 → ¬ go c = 0) → wp_X9_reaches_L58 m (nI a) Q (j + 1) (nI q) (nI k) go fr qu := by
  intro j
  induction j with
  | zero =>
    intro k q a go fr qu hk hs H ha hc
    rw [wp_X9_reaches_L58]
    refine pk_le 26 k (fun _ => hQ q go fr qu hs ?_) (fun q => absurd q (by omega))
    obtain ⟨a1, a2, a3, a4, a5, a6, a7, a8⟩ := H
    refine ⟨a1, a2, a3, a4, a5, a6, fun i c h1 h2 h3 h4 => ?_, a8⟩
    rcases Nat.lt_or_ge i seen with z | z
    · exact a7 i c z h2 h3 h4
    · rw [show i = seen by omega, ha] at h4; exact hc c (by omega) h4
  | succ j ih =>
    intro k q a go fr qu hk hs H ha hc
    have ha26 : a < 26 := by rw [← ha]; exact (H.1 seen hs).2
    have hq26 := H.le
    rw [wp_X9_reaches_L58]
    refine pk_le 26 k (fun q => absurd q (by omega)) (fun q1 => ?_)
    rw [ix26, cl_nI (by omega), cl_nI (by omega), cl_nI (by omega), cmp_eq0]
    have skip : (¬ rm m a k = 0 → ¬ go k = 0) → wp_X9_reaches_b122 (wp_X9_reaches_L58 m (nI a) Q (j + 1)) (nI q) (nI k) go fr qu := by
      intro h x ex
      rw [ex, nI_1]
      refine ih (k + 1) q a go fr qu (by omega) hs H ha (fun c h1 h2 => ?_)
      rcases Nat.lt_or_ge c k with z | z
      · exact hc c z h2
      · rw [show c = k by omega] at h2 ⊢; exact h h2
    refine ⟨pk_in k 26 (by omega), fun hg => skip (fun _ => hg), fun hg => ⟨pk_in (26 * a + k) 676 (by omega), fun hr => ?_, fun hr => skip (fun h => absurd hr h)⟩⟩
    have hq := H.room (by omega) hg
    refine ⟨pk_in k 26 (by omega), fun go' eg => ⟨pk_in k 26 (by omega), fun fr' ef => ⟨pk_in q 26 hq, fun qu' eq x ex y ey => ?_⟩⟩⟩
    rw [nar_b1] at eg
    rw [ey, nI_1, ex, nI_1, eg, ef, eq]
    refine ih (k + 1) (q + 1) a _ _ _ (by omega) (by omega) (by rw [← ha]; exact H.add (by omega) hg hs (by rw [ha]; exact hr)) (by rw [rowOf_upd (by omega), if_neg (by omega)]; exact ha) (fun c h1 h2 => ?_)
    by_cases hck : c = k
    · rw [hck, upd_at]; decide
    · rw [upd_ne hck]; exact hc c (by omega) h2
theorem BF.found {q : Nat} {go fr qu : Nat → Int32} (H : BF m q go fr qu q) : Found m go fr := by
  obtain ⟨a1, a2, a3, a4, a5, a6, a7, a8⟩ := H
  have hex : ∀ c, ∃ i, (∃ i, i < q ∧ rowOf qu i = c) → i < q ∧ rowOf qu i = c := fun c => by
    by_cases h : ∃ i, i < q ∧ rowOf qu i = c
    · obtain ⟨i, h1⟩ := h; exact ⟨i, fun _ => h1⟩
    · exact ⟨0, fun g => absurd g h⟩
  have one : ∀ i j, i < q → j < q → rowOf qu i = rowOf qu j → i = j := fun i j hi hj e => by
    rcases Nat.lt_trichotomy i j with z | z | z
    · exact absurd e (a2 i j z hj)
    · exact z
    · exact absurd e.symm (a2 j i z hi)
  have rkq : ∀ i, i < q → Classical.choose (hex (rowOf qu i)) = i := fun i hi => by
    have := Classical.choose_spec (hex (rowOf qu i)) ⟨i, hi, rfl⟩
    exact one _ _ this.1 hi this.2
  refine ⟨fun c => Classical.choose (hex c), (a3 24 (by omega)).2.mpr ⟨0, a5, a4⟩, fun c hc => (a3 c hc).1, fun a c ha hc h1 h2 => ?_, fun c hc h1 h2 => ?_⟩
  · obtain ⟨i, g1, g2⟩ := (a3 a ha).2.mp h1
    rw [← g2] at h2
    exact a7 i c g1 g1 hc h2
  · obtain ⟨i, g1, g2⟩ := (a3 c hc).2.mp h1
    have hi : 0 < i := by
      rcases Nat.eq_zero_or_pos i with z | z
      · rw [z, a4] at g2; exact absurd g2.symm h2
      · exact z
    obtain ⟨j, k1, k2, k3⟩ := a6 i hi g1
    rw [g2] at k2 k3
    have hj := a1 j (by omega)
    refine ⟨rowOf qu j, hj.2, k2, (a3 _ hj.2).2.mpr ⟨j, by omega, rfl⟩, ?_, k3⟩
    show Classical.choose (hex (rowOf qu j)) < Classical.choose (hex c)
    rw [← g2, rkq j (by omega), rkq i g1]
    exact k1
theorem rch_out {Q : (Nat → Int32) → (Nat → Int32) → (Nat → Int32) → Prop} (hQ : ∀ go fr qu, Found m go fr → Q go fr qu) : ∀ (j seen q : Nat) (go fr qu : Nat → Int32), seen + j = 26 → seen ≤ q → BF m q go fr qu seen → wp_X9_reaches_L43 m Q (j + 1) (nI q) (nI seen) go fr qu := by
  intro j
  induction j with
  | zero =>
    intro seen q go fr qu hs h1 H
    have := H.le
    rw [wp_X9_reaches_L43]
    refine pk_le q seen (fun _ => hQ go fr qu ?_) (fun z => absurd z (by omega))
    rw [show q = seen by omega] at H
    exact H.found
  | succ j ih =>
    intro seen q go fr qu hs h1 H
    have hle := H.le
    rw [wp_X9_reaches_L43]
    refine pk_le q seen (fun z => hQ go fr qu ?_) (fun z => ⟨pk_in seen 26 (by omega), fun x ex => ⟨27, ?_⟩⟩)
    · rw [show seen = q by omega] at H; exact H.found
    · rw [cl_nI (by omega), (H.1 seen z).1] at ex
      rw [ex]
      refine rch_in (fun q' go' fr' qu' g1 g2 y ey => ?_) 26 0 q _ go fr qu (by omega) z H rfl (fun c h => absurd h (by omega))
      rw [ey, nI_1]
      exact ih (seen + 1) q' go' fr' qu' (by omega) (by omega) g2
theorem wp_rch {go fr qu : Nat → Int32} {Q : Int32 → (Nat → Int32) → (Nat → Int32) → (Nat → Int32) → Prop} (hQ : ∀ go fr qu, Found m go fr → Q (go 25) go fr qu) : wp_X9_reaches m go fr qu Q := by
  refine ⟨27, rch_0 26 0 go (by omega) (fun c h => absurd h (by omega)) (fun go1 hgo => ⟨pk_in 0 26 (by omega), fun qu1 eq => ⟨27, rch_out (fun go2 fr2 qu2 hF => ⟨pk_in 25 26 (by omega), ?_, hQ go2 fr2 qu2 hF⟩) 26 0 1 go1 fr qu1 (by omega) (by omega) ?_⟩⟩)⟩
  · have e0 : qu1 0 = nI 24 := by rw [eq]; exact upd_at _ _ _
    have e1 : rowOf qu1 0 = 24 := by unfold rowOf; rw [e0]; exact cl_nI (by omega)
    refine ⟨fun i hi => ?_, fun i j h1 h2 => by omega, fun c hc => ?_, e1, by omega, fun i h1 h2 => by omega, fun i c h1 => by omega, ?_⟩
    · rw [show i = 0 by omega, e1]; exact ⟨e0, by omega⟩
    · rw [hgo c hc]
      by_cases h : c = 24
      · rw [if_pos h]; exact ⟨Or.inr rfl, fun _ => ⟨0, by omega, by rw [e1, h]⟩, fun _ => by decide⟩
      · rw [if_neg h]; exact ⟨Or.inl rfl, fun q => absurd rfl q, fun ⟨i, h1, h2⟩ => by rw [show i = 0 by omega, e1] at h2; exact absurd h2.symm h⟩
    · rw [ctB_congr (q := fun c => decide (c = 24)) (fun k hk => by
        unfold goB
        rw [hgo k hk]
        by_cases h : k = 24
        · simp [h]
        · simp [h])]
      decide
  · obtain ⟨rk, _, h2, _⟩ := hF
    exact h2 25 (by omega)
end REACH
