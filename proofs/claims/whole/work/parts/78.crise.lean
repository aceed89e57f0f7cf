/-! the class's rise: rounds that bring moments to the least ones -/
def paI (nPa : Nat → Int32) (o t : Nat) : Int := (nPa (o * 12 + t)).toInt
theorem ixr12 (k o : Nat) : (nI k * 12) + nI o = nI (k * 12 + o) := by
  have h : nI k * (12 : Int32) = nI (k * 12) := pk_mul k 12
  rw [h, nI_add]
section CRISE
variable {n : Nat} {e md h er s2 : Nat → Int} {nEa nMi nHa nER nMR nTh nPa nRo nBe tBe : Nat → Int32} {B C yb yf : Nat → Int}
theorem ro_in (hn : n ≤ 12) (hro : RowOK n (foC n tBe) nRo) (hbe : ∀ t, t < n → ∀ i, bt (nBe t) i = true ↔ Red (foC n tBe) t i) {f2 : Nat → Int32} {k t : Nat} (hk : k < n) (ht : t < n) {top : Int} (hle : ∀ o, Red (foC n tBe) t o → (f2 o).toInt ≤ top) {Q : Int32 → Prop} :
    ∀ (m j : Nat) (x : Int32), j + m = k → x.toInt ≤ top → (∀ r : Int32, x.toInt ≤ r.toInt → r.toInt ≤ top → (∀ i, j ≤ i → i < k → Red (foC n tBe) t (rowOf nRo i) → (f2 (rowOf nRo i)).toInt ≤ r.toInt) → Q r) → wp_X4_riseOn_L32 nBe nRo (nI k) f2 (nI t) Q (m + 1) x (nI j) := by
  intro m
  induction m with
  | zero =>
    intro j x hj hx hQ
    rw [wp_X4_riseOn_L32]
    exact pk_le k j (fun _ => hQ x (by omega) hx (fun i g1 g2 => by omega)) (fun q => absurd q (by omega))
  | succ m ih =>
    intro j x hj hx hQ
    rw [wp_X4_riseOn_L32]
    refine pk_le k j (fun q => absurd q (by omega)) (fun q => ⟨pk_in j 12 (by omega), fun y ey => ⟨pk_in t 12 (by omega), ?_⟩⟩)
    rw [cl_nI (by omega), hro.1 j (by omega)] at ey
    have hl := hro.2.lt (k := j) (by omega)
    rw [ey, cl_nI (by omega)]
    refine wp_bit (by omega) (fun hb z ez => ?_) (fun hb => ⟨pk_in (rowOf nRo j) 12 (by omega), fun z ez w ew => ?_⟩)
    · rw [ez, nI_1]
      refine ih (j + 1) x (by omega) hx (fun r g1 g2 g3 => hQ r g1 g2 (fun i k1 k2 k3 => ?_))
      rcases Nat.lt_or_ge j i with z | z
      · exact g3 i (by omega) k2 k3
      · rw [show i = j by omega] at k3; rw [(hbe t ht _).mpr k3] at hb; exact absurd hb (by decide)
    · rw [cl_nI (by omega)] at ez
      have hred := (hbe t ht _).mp hb
      have ezi : z.toInt = max x.toInt (f2 (rowOf nRo j)).toInt := by rw [ez, ifs_max]
      have hl2 := hle _ hred
      rw [ew, nI_1]
      refine ih (j + 1) z (by omega) (by omega) (fun r g1 g2 g3 => hQ r (by omega) g2 (fun i k1 k2 k3 => ?_))
      rcases Nat.lt_or_ge j i with z | z
      · exact g3 i (by omega) k2 k3
      · rw [show i = j by omega]; omega
/-- between a start and the least moments -/
def Btw (n : Nat) (a b yb yf : Nat → Int) (f1 f2 : Nat → Int32) : Prop := ∀ t, t < n → a t ≤ iT f1 t ∧ iT f1 t ≤ yb t ∧ b t ≤ iT f2 t ∧ iT f2 t ≤ yf t
theorem ro_out (hn : n ≤ 12) (hro : RowOK n (foC n tBe) nRo) (hbe : ∀ t, t < n → ∀ i, bt (nBe t) i = true ↔ Red (foC n tBe) t i) (hK : NetK n e md h er s2 nEa nMi nHa nER nMR) (hon : ∀ t, t < n → 0 ≤ onT e md h er s2 (iT nTh) t ∧ onT e md h er s2 (iT nTh) t ≤ 60) {pa : Nat → Nat → Int} (hS : SolT n (onT e md h er s2 (iT nTh)) (offT e md h er s2 (iT nTh)) (iT nTh) (Red (foC n tBe)) pa yb yf) (htop : ∀ t, t < n → yb t ≤ 1000 ∧ yf t ≤ 1000)
    {g1 g2 : Nat → Int32} (hlow : ∀ t, t < n → -1000000 ≤ iT g1 t ∧ -1000000 ≤ iT g2 t) {Q : Int32 → (Nat → Int32) → (Nat → Int32) → Prop}
    (hQ : ∀ (r : Int32) (f1 f2 : Nat → Int32), (r = 0 ∨ r = 1) → Btw n (iT g1) (iT g2) yb yf f1 f2 → (∀ t, t < n → iT f1 t + onT e md h er s2 (iT nTh) t ≤ iT f2 t ∧ ∀ o, Red (foC n tBe) t o → iT g2 o ≤ iT f1 t) → (r = 0 → ∀ t, t < n → iT f1 t = iT g1 t ∧ iT f2 t = iT g2 t) → Q r f1 f2) :
    ∀ (m k : Nat) (x : Int32) (f1 f2 : Nat → Int32), k + m = n → (x = 0 ∨ x = 1) → Btw n (iT g1) (iT g2) yb yf f1 f2 → (∀ i, i < k → iT f1 (rowOf nRo i) + onT e md h er s2 (iT nTh) (rowOf nRo i) ≤ iT f2 (rowOf nRo i) ∧ ∀ o, Red (foC n tBe) (rowOf nRo i) o → iT g2 o ≤ iT f1 (rowOf nRo i)) → (∀ i, k ≤ i → i < n → iT f1 (rowOf nRo i) = iT g1 (rowOf nRo i) ∧ iT f2 (rowOf nRo i) = iT g2 (rowOf nRo i)) → (x = 0 → ∀ t, t < n → iT f1 t = iT g1 t ∧ iT f2 t = iT g2 t) → wp_X4_riseOn_L5 nBe (nI n) nER nEa nHa nMR nMi nRo nTh Q (m + 1) x (nI k) f1 f2 := by
  intro m
  induction m with
  | zero =>
    intro k x f1 f2 hk hx hB h1 h2 h3
    rw [wp_X4_riseOn_L5]
    refine pk_le n k (fun _ => hQ x f1 f2 hx hB (fun t ht => ?_) h3) (fun q => absurd q (by omega))
    obtain ⟨i, hi, ei⟩ := hro.2.onto ht
    rw [← ei]; exact h1 i (by omega)
  | succ m ih =>
    intro k x f1 f2 hk hx hB h1 h2 h3
    rw [wp_X4_riseOn_L5]
    refine pk_le n k (fun q => absurd q (by omega)) (fun q => ⟨pk_in k 12 (by omega), fun y ey => ?_⟩)
    rw [cl_nI (by omega), hro.1 k (by omega)] at ey
    have hl := hro.2.lt (k := k) (by omega)
    rw [ey, cl_nI (by omega)]
    refine ⟨pk_in (rowOf nRo k) 12 (by omega), fun x6 e6 => ⟨k + 1, ?_⟩⟩
    have hBk := hB _ hl
    have hSk := hS _ hl
    have hlk := hlow _ hl
    have htk := htop _ hl
    have honk := hon _ hl
    have h2k := h2 k (Nat.le_refl _) (by omega)
    have e6' : x6.toInt = iT g1 (rowOf nRo k) := by rw [e6]; exact h2k.1
    refine ro_in hn hro hbe (by omega) hl (top := yb (rowOf nRo k)) (fun o ho => ?_) k 0 x6 (by omega) (by rw [e6]; exact hBk.2.1) (fun r r1 r2 r3 => ⟨pk_in (rowOf nRo k) 12 (by omega), ?_⟩)
    · have a := (hB o ho.1.2.1).2.2.2
      have b := (hSk.2.2 o ho.1.2.1).1 ho
      have a' : (f2 o).toInt ≤ yf o := a
      omega
    refine wp_spOn hn hK hl (fun s es x7 e7 => ?_)
    have hadd := i_add (a := r) (b := s) (by rw [es]; omega) (by rw [es]; omega)
    have e7' : x7.toInt = max (iT f2 (rowOf nRo k)) (r.toInt + onT e md h er s2 (iT nTh) (rowOf nRo k)) := by
      rw [e7, ifs_max, hadd, es]; rfl
    have fin : ∀ y : Int32, (y = 0 ∨ y = 1) → (y = 0 → x = 0 ∧ r.toInt = iT f1 (rowOf nRo k) ∧ x7.toInt = iT f2 (rowOf nRo k)) → wp_X4_riseOn_b125 (wp_X4_riseOn_L5 nBe (nI n) nER nEa nHa nMR nMi nRo nTh Q (m + 1)) y (nI k) (nI (rowOf nRo k)) r x7 f1 f2 := by
      intro y hy hy0
      refine ⟨pk_in (rowOf nRo k) 12 (by omega), fun f1' e1 => ⟨pk_in (rowOf nRo k) 12 (by omega), fun f2' e2 z ez => ?_⟩⟩
      rw [cl_nI (by omega)] at e1 e2
      have a1 : ∀ o, o ≠ rowOf nRo k → iT f1' o = iT f1 o := fun o ho => by unfold iT; rw [e1, upd_ne ho]
      have a2 : iT f1' (rowOf nRo k) = r.toInt := by unfold iT; rw [e1, upd_at]
      have b1 : ∀ o, o ≠ rowOf nRo k → iT f2' o = iT f2 o := fun o ho => by unfold iT; rw [e2, upd_ne ho]
      have b2 : iT f2' (rowOf nRo k) = x7.toInt := by unfold iT; rw [e2, upd_at]
      rw [ez, nI_1]
      refine ih (k + 1) y f1' f2' (by omega) hy (fun t ht => ?_) (fun i hi => ?_) (fun i hi hi2 => ?_) (fun h0 t ht => ?_)
      · by_cases htk : t = rowOf nRo k
        · rw [htk, a2, b2]
          have := hSk.1
          omega
        · rw [a1 t htk, b1 t htk]; exact hB t ht
      · rcases Nat.lt_or_ge i k with w | w
        · have hne : rowOf nRo i ≠ rowOf nRo k := fun z => by have := hro.2.inj (by omega) (by omega) z; omega
          rw [a1 _ hne, b1 _ hne]; exact h1 i w
        · rw [show i = k by omega, a2, b2]
          refine ⟨by omega, fun o ho => ?_⟩
          obtain ⟨i', hi', ei'⟩ := hro.2.pred (by omega) ho.1
          have g3 := r3 i' (Nat.zero_le _) hi' (by rw [ei']; exact ho)
          rw [ei'] at g3
          have := (hB o ho.1.2.1).2.2.1
          have g3' : iT f2 o ≤ r.toInt := g3
          omega
      · have hne : rowOf nRo i ≠ rowOf nRo k := fun z => by have := hro.2.inj (by omega) (by omega) z; omega
        rw [a1 _ hne, b1 _ hne]; exact h2 i (by omega) hi2
      · have z := hy0 h0
        by_cases htk : t = rowOf nRo k
        · rw [htk, a2, b2, z.2.1, z.2.2]; exact h3 z.1 _ hl
        · rw [a1 t htk, b1 t htk]; exact h3 z.1 t ht
    refine ⟨fun _ => fin 1 (Or.inr rfl) (fun z => absurd z (by decide)), fun hx0 => ⟨pk_in (rowOf nRo k) 12 (by omega), fun _ => fin 1 (Or.inr rfl) (fun z => absurd z (by decide)), fun c1 => ⟨pk_in (rowOf nRo k) 12 (by omega), fun c2 => fin 0 (Or.inl rfl) (fun _ => ⟨hx0, ?_, ?_⟩), fun _ => fin 1 (Or.inr rfl) (fun z => absurd z (by decide))⟩⟩⟩
    · rw [i_lt] at c1
      have c1' : ¬ iT f1 (rowOf nRo k) < r.toInt := c1
      omega
    · rw [i_le] at c2
      have c2' : x7.toInt ≤ iT f2 (rowOf nRo k) := c2
      omega
theorem rf_in (hn : n ≤ 12) (hro : RowOK n (foC n tBe) nRo) {k t : Nat} (hk : k < n) (ht : t < n) {x6 : Int32} (hle : ∀ o, o < n → 0 < paI nPa o t → x6.toInt ≤ yf o) {Q : Int32 → (Nat → Int32) → Prop} {x0 : Int32} {g : Nat → Int32}
    (hQ : ∀ (r : Int32) (f2 : Nat → Int32), (r = 0 ∨ r = 1) → (∀ o, o < n → iT g o ≤ iT f2 o ∧ iT f2 o ≤ yf o) → (∀ i, i < k → 0 < paI nPa (rowOf nRo i) t → x6.toInt ≤ iT f2 (rowOf nRo i)) → (r = 0 → x0 = 0 ∧ ∀ o, o < n → iT f2 o = iT g o) → Q r f2) :
    ∀ (m j : Nat) (x : Int32) (f2 : Nat → Int32), j + m = k → (x = 0 ∨ x = 1) → (∀ o, o < n → iT g o ≤ iT f2 o ∧ iT f2 o ≤ yf o) → (∀ i, i < j → 0 < paI nPa (rowOf nRo i) t → x6.toInt ≤ iT f2 (rowOf nRo i)) → (x = 0 → x0 = 0 ∧ ∀ o, o < n → iT f2 o = iT g o) → wp_X4_riseOff_L82 nPa nRo (nI k) (nI t) x6 Q (m + 1) x (nI j) f2 := by
  intro m
  induction m with
  | zero =>
    intro j x f2 hj hx h1 h2 h3
    rw [wp_X4_riseOff_L82]
    exact pk_le k j (fun _ => hQ x f2 hx h1 (fun i hi => h2 i (by omega)) h3) (fun q => absurd q (by omega))
  | succ m ih =>
    intro j x f2 hj hx h1 h2 h3
    rw [wp_X4_riseOff_L82]
    refine pk_le k j (fun q => absurd q (by omega)) (fun q => ⟨pk_in j 12 (by omega), fun y ey => ?_⟩)
    rw [cl_nI (by omega), hro.1 j (by omega)] at ey
    have hl := hro.2.lt (k := j) (by omega)
    rw [ey, ixr12, cl_nI (by omega), cl_nI (by omega), i_le, lt0, i_le]
    have skip : (0 < paI nPa (rowOf nRo j) t → x6.toInt ≤ iT f2 (rowOf nRo j)) → wp_X4_riseOff_b131 (wp_X4_riseOff_L82 nPa nRo (nI k) (nI t) x6 Q (m + 1)) x (nI j) f2 := by
      intro hh z ez
      rw [ez, nI_1]
      refine ih (j + 1) x f2 (by omega) hx h1 (fun i hi => ?_) h3
      rcases Nat.lt_or_ge i j with w | w
      · exact h2 i w
      · rw [show i = j by omega]; exact hh
    refine ⟨pk_in (rowOf nRo j * 12 + t) 144 (by omega), fun c => skip (fun z => absurd c (by have z' : 0 < (nPa (rowOf nRo j * 12 + t)).toInt := z; omega)), fun c => ⟨pk_in (rowOf nRo j) 12 (by omega), fun c2 => skip (fun _ => c2), fun c2 => ⟨pk_in (rowOf nRo j) 12 (by omega), fun f2' e2 z ez => ?_⟩⟩⟩
    have hp : 0 < paI nPa (rowOf nRo j) t := by unfold paI; omega
    have b1 : ∀ o, o ≠ rowOf nRo j → iT f2' o = iT f2 o := fun o ho => by unfold iT; rw [e2, upd_ne ho]
    have b2 : iT f2' (rowOf nRo j) = x6.toInt := by unfold iT; rw [e2, upd_at]
    have c2' : ¬ x6.toInt ≤ iT f2 (rowOf nRo j) := c2
    rw [ez, nI_1]
    refine ih (j + 1) 1 f2' (by omega) (Or.inr rfl) (fun o ho => ?_) (fun i hi hpi => ?_) (fun z => absurd z (by decide))
    · by_cases hoj : o = rowOf nRo j
      · rw [hoj, b2]; have := h1 _ hl; have := hle _ hl hp; omega
      · rw [b1 o hoj]; exact h1 o ho
    · by_cases hij : rowOf nRo i = rowOf nRo j
      · rw [hij, b2]; exact Int.le_refl _
      · rw [b1 _ hij]
        have : i ≠ j := fun z => hij (by rw [z])
        exact h2 i (by omega) hpi
theorem rf_out (hn : n ≤ 12) (hro : RowOK n (foC n tBe) nRo) (hK : NetK n e md h er s2 nEa nMi nHa nER nMR) (hoff : ∀ t, t < n → 0 ≤ offT e md h er s2 (iT nTh) t ∧ offT e md h er s2 (iT nTh) t ≤ 60) (hS : SolT n (onT e md h er s2 (iT nTh)) (offT e md h er s2 (iT nTh)) (iT nTh) (Red (foC n tBe)) (paI nPa) yb yf) (htop : ∀ t, t < n → yb t ≤ 1000 ∧ yf t ≤ 1000) (hpa : ∀ o t, o < n → t < n → 0 < paI nPa o t → foC n tBe t o)
    {g1 g2 : Nat → Int32} (hlow : ∀ t, t < n → -1000000 ≤ iT g1 t ∧ -1000000 ≤ iT g2 t) {Q : Int32 → (Nat → Int32) → (Nat → Int32) → Prop}
    (hQ : ∀ (r : Int32) (f1 f2 : Nat → Int32), (r = 0 ∨ r = 1) → Btw n (iT g1) (iT g2) yb yf f1 f2 → (∀ t, t < n → 0 < iT nTh t → iT g2 t - offT e md h er s2 (iT nTh) t ≤ iT f1 t ∧ ∀ o, o < n → 0 < paI nPa o t → iT g1 t ≤ iT f2 o) → (r = 0 → ∀ t, t < n → iT f1 t = iT g1 t ∧ iT f2 t = iT g2 t) → Q r f1 f2) :
    ∀ (k : Nat) (x : Int32) (f1 f2 : Nat → Int32), k ≤ n → (x = 0 ∨ x = 1) → Btw n (iT g1) (iT g2) yb yf f1 f2 → (∀ i, k ≤ i → i < n → 0 < iT nTh (rowOf nRo i) → iT g2 (rowOf nRo i) - offT e md h er s2 (iT nTh) (rowOf nRo i) ≤ iT f1 (rowOf nRo i) ∧ ∀ o, o < n → 0 < paI nPa o (rowOf nRo i) → iT g1 (rowOf nRo i) ≤ iT f2 o) → (x = 0 → ∀ t, t < n → iT f1 t = iT g1 t ∧ iT f2 t = iT g2 t) → wp_X4_riseOff_L10 nER nEa nHa nMR nMi nPa nRo nTh Q (k + 1) x (mI k) f1 f2 := by
  intro k
  induction k with
  | zero =>
    intro x f1 f2 hk hx hB h1 h3
    rw [wp_X4_riseOff_L10]
    refine ⟨fun _ => hQ x f1 f2 hx hB (fun t ht => ?_) h3, fun q => absurd mI_0 q⟩
    obtain ⟨i, hi, ei⟩ := hro.2.onto ht
    rw [← ei]; exact h1 i (Nat.zero_le _) hi
  | succ k ih =>
    intro x f1 f2 hk hx hB h1 h3
    rw [wp_X4_riseOff_L10, mI_s]
    refine ⟨fun q => absurd q (nI_pos (by omega)), fun _ => ⟨pk_in k 12 (by omega), fun y ey => ?_⟩⟩
    rw [cl_nI (by omega), hro.1 k (by omega)] at ey
    have hl := hro.2.lt (k := k) (by omega)
    rw [ey, cl_nI (by omega), i_le, lt0]
    refine ⟨pk_in (rowOf nRo k) 12 (by omega), fun c w ew => ?_, fun c => ⟨pk_in (rowOf nRo k) 12 (by omega), pk_in (rowOf nRo k) 12 (by omega), wp_spOff hn hK hl (fun s es x6 e6 => ?_)⟩⟩
    · have e3 : w = mI k := ew
      rw [e3]
      refine ih x f1 f2 (by omega) hx hB (fun i hi hi2 => ?_) h3
      rcases Nat.lt_or_ge k i with z | z
      · exact h1 i (by omega) hi2
      · rw [show i = k by omega]; intro z2; unfold iT at z2; omega
    · have hBk := hB _ hl
      have hSk := hS _ hl
      have hlk := hlow _ hl
      have htk := htop _ hl
      have hok := hoff _ hl
      have hth : 0 < iT nTh (rowOf nRo k) := by unfold iT; omega
      have hsub := i_sub (a := f2 (rowOf nRo k)) (b := s) (by rw [es]; unfold iT at hBk hlk; omega) (by rw [es]; unfold iT at hBk hlk; omega)
      have e6' : x6.toInt = max (iT f1 (rowOf nRo k)) (iT f2 (rowOf nRo k) - offT e md h er s2 (iT nTh) (rowOf nRo k)) := by
        rw [e6, ifs_max, hsub, es]; rfl
      have h6 : x6.toInt ≤ yb (rowOf nRo k) := by have := hSk.2.1 hth; omega
      have fin : ∀ y : Int32, (y = 0 ∨ y = 1) → (y = 0 → x = 0 ∧ x6.toInt = iT f1 (rowOf nRo k)) → wp_X4_riseOff_b72 nPa nRo (wp_X4_riseOff_L10 nER nEa nHa nMR nMi nPa nRo nTh Q (k + 1)) y (nI k) (nI (rowOf nRo k)) x6 f1 f2 := by
        intro y hy hy0
        refine ⟨pk_in (rowOf nRo k) 12 (by omega), fun f1' e1 => ⟨k + 1, ?_⟩⟩
        rw [cl_nI (by omega)] at e1
        have a1 : ∀ o, o ≠ rowOf nRo k → iT f1' o = iT f1 o := fun o ho => by unfold iT; rw [e1, upd_ne ho]
        have a2 : iT f1' (rowOf nRo k) = x6.toInt := by unfold iT; rw [e1, upd_at]
        refine rf_in (g := f2) (x0 := y) hn hro (by omega) hl (fun o ho hp => by have := (hSk.2.2 o ho).2 hp; omega) (fun r f2' hr q1 q2 q3 w ew => ?_) k 0 y f2 (by omega) hy (fun o ho => ⟨Int.le_refl _, (hB o ho).2.2.2⟩) (fun i hi => absurd hi (by omega)) (fun z => ⟨z, fun _ _ => rfl⟩)
        have e3 : w = mI k := ew
        rw [e3]
        refine ih r f1' f2' (by omega) hr (fun t ht => ?_) (fun i hi hi2 hpi => ?_) (fun h0 t ht => ?_)
        · have q := q1 t ht
          have b := hB t ht
          by_cases htk : t = rowOf nRo k
          · rw [htk, a2]; rw [htk] at q b; omega
          · rw [a1 t htk]; omega
        · rcases Nat.lt_or_ge k i with z | z
          · have hne : rowOf nRo i ≠ rowOf nRo k := fun z => by have := hro.2.inj (by omega) (by omega) z; omega
            rw [a1 _ hne]
            have h := h1 i (by omega) hi2 hpi
            exact ⟨h.1, fun o ho hp => Int.le_trans (h.2 o ho hp) (q1 o ho).1⟩
          · rw [show i = k by omega, a2]
            refine ⟨by omega, fun o ho hp => ?_⟩
            obtain ⟨i', hi', ei'⟩ := hro.2.pred (by omega) (hpa o _ ho hl hp)
            have := q2 i' hi' (by rw [ei']; exact hp)
            rw [ei'] at this
            omega
        · have z := q3 h0
          have z2 := hy0 z.1
          have z3 := h3 z2.1
          have z4 := z.2 t ht
          by_cases htk : t = rowOf nRo k
          · rw [htk, a2, z2.2]; rw [htk] at z4; have := z3 _ hl; omega
          · rw [a1 t htk]; have := z3 t ht; omega
      refine ⟨fun _ => fin 1 (Or.inr rfl) (fun z => absurd z (by decide)), fun hx0 => ⟨pk_in (rowOf nRo k) 12 (by omega), fun c2 => fin 0 (Or.inl rfl) (fun _ => ⟨hx0, ?_⟩), fun _ => fin 1 (Or.inr rfl) (fun z => absurd z (by decide))⟩⟩
      rw [i_le] at c2
      have c2' : x6.toInt ≤ iT f1 (rowOf nRo k) := c2
      omega
/-- rounds until nothing moves -/
theorem wp_rise (hn : n ≤ 12) (hro : RowOK n (foC n tBe) nRo) (hbe : ∀ t, t < n → ∀ i, bt (nBe t) i = true ↔ Red (foC n tBe) t i) (hK : NetK n e md h er s2 nEa nMi nHa nER nMR) (hon : ∀ t, t < n → 0 ≤ onT e md h er s2 (iT nTh) t ∧ onT e md h er s2 (iT nTh) t ≤ 60) (hoff : ∀ t, t < n → 0 ≤ offT e md h er s2 (iT nTh) t ∧ offT e md h er s2 (iT nTh) t ≤ 60)
    (hth : ∀ o t, o < n → t < n → 0 < paI nPa o t → 0 < iT nTh t) (hpa : ∀ o t, o < n → t < n → 0 < paI nPa o t → foC n tBe t o) (hY : LeaT n (onT e md h er s2 (iT nTh)) (offT e md h er s2 (iT nTh)) (iT nTh) (Red (foC n tBe)) (paI nPa) B C yb yf) (htop : ∀ t, t < n → yb t ≤ 1000 ∧ yf t ≤ 1000) (hBC : ∀ t, t < n → -1000000 ≤ B t ∧ -1000000 ≤ C t)
    {f1 f2 : Nat → Int32} (h0 : ∀ t, t < n → iT f1 t = B t ∧ iT f2 t = C t) {Q : (Nat → Int32) → (Nat → Int32) → Prop} (hQ : ∀ a b : Nat → Int32, (∀ t, t < n → iT a t = yb t ∧ iT b t = yf t) → Q a b) : wp_X4_rise f1 f2 (nI n) nRo nBe nEa nMi nHa nER nMR nTh nPa Q := by
  have key : ∀ (m r : Nat) (x : Int32) (a b : Nat → Int32), r + m = 48 → Btw n B C yb yf a b → ((∀ t, t < n → iT a t = yb t ∧ iT b t = yf t) ∨ r ≤ atEnd n yb yf (iT a) (iT b)) → (x = 0 → ∀ t, t < n → iT a t = yb t ∧ iT b t = yf t) → wp_X4_rise_L5 nBe (nI n) nER nEa nHa nMR nMi nPa nRo nTh Q (m + 1) x (nI r) a b := by
    intro m
    induction m with
    | zero =>
      intro r x a b hr hB h1 h2
      rw [wp_X4_rise_L5]
      refine ⟨fun hx => hQ a b (h2 hx), fun _ => pk_le 48 r (fun _ => hQ a b ?_) (fun q => absurd q (by omega))⟩
      rcases h1 with z | z
      · exact z
      · have := atEnd_le (n := n) (b := yb) (f := yf) (B := iT a) (C := iT b); omega
    | succ m ih =>
      intro r x a b hr hB h1 h2
      rw [wp_X4_rise_L5]
      refine ⟨fun hx => hQ a b (h2 hx), fun hx => pk_le 48 r (fun q => absurd q (by omega)) (fun _ => ⟨n + 1, ?_⟩)⟩
      have low : ∀ t, t < n → -1000000 ≤ iT a t ∧ -1000000 ≤ iT b t := fun t ht => by have p := hB t ht; have q := hBC t ht; omega
      refine ro_out hn hro hbe hK hon hY.1 htop (g1 := a) (g2 := b) low (fun r1 a1 b1 e1 u1 u2 u3 => ⟨e1, fun x4 e4 => ⟨n + 1, ?_⟩⟩) n 0 0 a b (by omega) (Or.inl rfl) (fun t ht => ⟨Int.le_refl _, (hB t ht).2.1, Int.le_refl _, (hB t ht).2.2.2⟩) (fun i hi => absurd hi (by omega)) (fun i _ _ => ⟨rfl, rfl⟩) (fun _ t _ => ⟨rfl, rfl⟩)
      rw [mI_of] at e4
      rw [e4]
      have low1 : ∀ t, t < n → -1000000 ≤ iT a1 t ∧ -1000000 ≤ iT b1 t := fun t ht => by have p := u1 t ht; have q := low t ht; omega
      refine rf_out hn hro hK hoff hY.1 htop hpa (g1 := a1) (g2 := b1) low1 (fun r2 a2 b2 e2 v1 v2 v3 => ⟨e2, ?_⟩) n 0 a1 b1 (Nat.le_refl _) (Or.inl rfl) (fun t ht => ⟨Int.le_refl _, (u1 t ht).2.1, Int.le_refl _, (u1 t ht).2.2.2⟩) (fun i hi hi2 => by omega) (fun _ t _ => ⟨rfl, rfl⟩)
      have hB2 : Btw n B C yb yf a2 b2 := fun t ht => by
        have p := hB t ht; have q := u1 t ht; have w := v1 t ht; omega
      have hE : ∀ t, t < n → iT a t + onT e md h er s2 (iT nTh) t ≤ iT b2 t ∧ (0 < iT nTh t → iT b t - offT e md h er s2 (iT nTh) t ≤ iT a2 t) ∧ ∀ o, o < n → (Red (foC n tBe) t o → iT b o ≤ iT a2 t) ∧ (0 < paI nPa o t → iT a t ≤ iT b2 o) := by
        intro t ht
        have q := u1 t ht; have w := v1 t ht; have u := u2 t ht
        refine ⟨by omega, fun z => ?_, fun o ho => ⟨fun z => ?_, fun z => ?_⟩⟩
        · have := (v2 t ht z).1; omega
        · have := u.2 o z; omega
        · have := (v2 t ht (hth o t ho ht z)).2 o ho z; omega
      have nxt : ∀ x' : Int32, (x' = 0 → r1 = 0 ∧ r2 = 0) → wp_X4_rise_b34 (wp_X4_rise_L5 nBe (nI n) nER nEa nHa nMR nMi nPa nRo nTh Q (m + 1)) x' (nI r) a2 b2 := by
        intro x' hx' w ew
        rw [ew, nI_1]
        refine ih (r + 1) x' a2 b2 (by omega) hB2 ?_ (fun z => ?_)
        · rcases lea_grow hY (x := iT a) (z := iT b) (x' := iT a2) (z' := iT b2) (fun t ht => ⟨(hB t ht).1, (hB t ht).2.2.1⟩) (fun t ht => by have q := u1 t ht; have w := v1 t ht; omega) (fun t ht => ⟨(hB2 t ht).2.1, (hB2 t ht).2.2.2⟩) hE with g | g
          · exact Or.inl g
          · rcases h1 with z | z
            · refine Or.inl (fun t ht => ?_)
              have p := z t ht; have q := u1 t ht; have w := v1 t ht; have w2 := hB2 t ht
              omega
            · exact Or.inr (by omega)
        · obtain ⟨z1, z2⟩ := hx' z
          have same : ∀ t, t < n → iT a2 t = iT a t ∧ iT b2 t = iT b t := fun t ht => by
            have p := u3 z1 t ht; have q := v3 z2 t ht; omega
          have sol := hY.2.2 (iT a2) (iT b2) (fun t ht => by
            have p := hE t ht
            have s := same t ht
            refine ⟨by omega, fun q => by have := p.2.1 q; omega, fun o ho => ⟨fun q => ?_, fun q => ?_⟩⟩
            · have := (p.2.2 o ho).1 q; have := same o ho; omega
            · have := (p.2.2 o ho).2 q; omega) (fun t ht => ⟨(hB2 t ht).1, (hB2 t ht).2.2.1⟩)
          intro t ht
          have p := sol t ht
          have q := hB2 t ht
          omega
      refine ⟨fun z => nxt r1 (fun q => ⟨q, z⟩), fun z => nxt 1 (fun q => absurd q (by decide))⟩
  refine ⟨49, key 48 0 1 f1 f2 (by omega) (fun t ht => ?_) (Or.inr (Nat.zero_le _)) (fun z => absurd z (by decide))⟩
  have a := h0 t ht
  have b := hY.2.1 t ht
  omega
end CRISE
