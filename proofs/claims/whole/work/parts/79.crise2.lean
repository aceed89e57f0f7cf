/-! the class: rise from the start, and from the end -/
section CRISE2
variable {n : Nat} {e md h er s2 : Nat → Int} {nEa nMi nHa nER nMR nTh nPa nRo nBe nOu tBe : Nat → Int32} {yb yf : Nat → Int}
theorem mx_in (hn : n ≤ 12) {f2 : Nat → Int32} {Q : Int32 → Prop} : ∀ (j k : Nat) (x : Int32), k + j = n → (∀ r : Int32, x.toInt ≤ r.toInt → (∀ t, k ≤ t → t < n → iT f2 t ≤ r.toInt) → (r.toInt = x.toInt ∨ ∃ t, t < n ∧ r.toInt = iT f2 t) → Q r) → wp_X4_riseFromStart_L21 (nI n) f2 Q (j + 1) x (nI k) := by
  intro j
  induction j with
  | zero =>
    intro k x hk hQ
    rw [wp_X4_riseFromStart_L21]
    exact pk_le n k (fun _ => hQ x (by omega) (fun t h1 h2 => by omega) (Or.inl rfl)) (fun q => absurd q (by omega))
  | succ j ih =>
    intro k x hk hQ
    rw [wp_X4_riseFromStart_L21]
    refine pk_le n k (fun q => absurd q (by omega)) (fun q => ?_)
    rw [cl_nI (by omega)]
    refine ⟨pk_in k 12 (by omega), fun y ey z ez => ?_⟩
    have ey' : y.toInt = max x.toInt (iT f2 k) := by rw [ey, ifs_max]; rfl
    rw [ez, nI_1]
    refine ih (k + 1) y (by omega) (fun r g1 g2 g3 => hQ r (by omega) (fun t h1 h2 => ?_) ?_)
    · rcases Nat.lt_or_ge k t with z | z
      · exact g2 t (by omega) h2
      · rw [show t = k by omega]; omega
    · rcases g3 with z | z
      · rcases Int.le_total x.toInt (iT f2 k) with w | w
        · exact Or.inr ⟨k, by omega, by omega⟩
        · exact Or.inl (by omega)
      · exact Or.inr z
theorem wp_rfs (hn : n ≤ 12) (hro : RowOK n (foC n tBe) nRo) (hbe : ∀ t, t < n → ∀ i, bt (nBe t) i = true ↔ Red (foC n tBe) t i) (hK : NetK n e md h er s2 nEa nMi nHa nER nMR) (hon : ∀ t, t < n → 0 ≤ onT e md h er s2 (iT nTh) t ∧ onT e md h er s2 (iT nTh) t ≤ 60) (hoff : ∀ t, t < n → 0 ≤ offT e md h er s2 (iT nTh) t ∧ offT e md h er s2 (iT nTh) t ≤ 60)
    (hth : ∀ o t, o < n → t < n → 0 < paI nPa o t → 0 < iT nTh t) (hpa : ∀ o t, o < n → t < n → 0 < paI nPa o t → foC n tBe t o) (hY : LeaT n (onT e md h er s2 (iT nTh)) (offT e md h er s2 (iT nTh)) (iT nTh) (Red (foC n tBe)) (paI nPa) (fun _ => 0) (fun _ => 0) yb yf) (htop : ∀ t, t < n → yb t ≤ 1000 ∧ yf t ≤ 1000)
    {f1 f2 : Nat → Int32} {Q : Int32 → (Nat → Int32) → (Nat → Int32) → Prop} (hQ : ∀ (r : Int32) (a b : Nat → Int32), (∀ t, t < n → iT a t = yb t ∧ iT b t = yf t) → MaxEnd n yf r.toInt → Q r a b) : wp_X4_riseFromStart f1 f2 (nI n) nRo nBe nEa nMi nHa nER nMR nTh nPa Q := by
  intro a1 e1 a2 e2
  refine wp_rise hn hro hbe hK hon hoff hth hpa hY htop (fun t _ => ⟨by omega, by omega⟩) (fun t ht => ?_) (fun a b hab => ⟨n + 1, mx_in hn n 0 0 (by omega) (fun r g1 g2 g3 => hQ r a b hab ⟨g1, fun t ht => ?_, ?_⟩)⟩)
  · unfold iT
    rw [e1, e2]
    simp [jFill, show t < 12 by omega]
  · rw [← (hab t ht).2]; exact g2 t (Nat.zero_le _) ht
  · rcases g3 with z | ⟨t, z1, z2⟩
    · exact Or.inl z
    · exact Or.inr ⟨t, z1, by rw [← (hab t z1).2]; exact z2⟩
theorem re_in (hn : n ≤ 12) {Q : Int32 → (Nat → Int32) → Prop} (hQ : ∀ (r : Int32) (f2 : Nat → Int32), (r = 0 ↔ ∀ t, t < n → ¬ 0 < iT nOu t) → (∀ t, t < n → iT f2 t = if 0 < iT nOu t then 0 else -1000000) → Q r f2) :
    ∀ (j k : Nat) (x : Int32) (f2 : Nat → Int32), k + j = n → (x = 0 ↔ ∀ t, t < k → ¬ 0 < iT nOu t) → (∀ t, t < n → iT f2 t = if t < k ∧ 0 < iT nOu t then 0 else -1000000) → wp_X4_riseFromEnd_L17 (nI n) nOu Q (j + 1) x (nI k) f2 := by
  intro j
  induction j with
  | zero =>
    intro k x f2 hk h1 h2
    rw [wp_X4_riseFromEnd_L17]
    rw [show k = n by omega] at h1 h2 ⊢
    refine pk_le n n (fun _ => hQ x f2 h1 (fun t ht => ?_)) (fun q => absurd q (by omega))
    rw [h2 t ht]
    by_cases z : 0 < iT nOu t
    · rw [if_pos ⟨ht, z⟩, if_pos z]
    · rw [if_neg (fun q => z q.2), if_neg z]
  | succ j ih =>
    intro k x f2 hk h1 h2
    rw [wp_X4_riseFromEnd_L17]
    refine pk_le n k (fun q => absurd q (by omega)) (fun q => ?_)
    rw [cl_nI (by omega), i_le, lt0]
    refine ⟨pk_in k 12 (by omega), fun c z ez => ?_, fun c => ⟨pk_in k 12 (by omega), fun f2' e2 z ez => ?_⟩⟩
    · have c' : ¬ 0 < iT nOu k := by unfold iT; omega
      rw [ez, nI_1]
      refine ih (k + 1) x f2 (by omega) (h1.trans ⟨fun g t ht => ?_, fun g t ht => g t (by omega)⟩) (fun t ht => ?_)
      · rcases Nat.lt_or_ge t k with w | w
        · exact g t w
        · rw [show t = k by omega]; exact c'
      · rw [h2 t ht]
        by_cases htk : t = k
        · rw [htk, if_neg (fun q => c' q.2), if_neg (fun q => c' q.2)]
        · by_cases z2 : t < k ∧ 0 < iT nOu t
          · rw [if_pos z2, if_pos ⟨by omega, z2.2⟩]
          · rw [if_neg z2, if_neg (fun q => z2 ⟨by omega, q.2⟩)]
    · have c' : 0 < iT nOu k := by unfold iT; omega
      rw [ez, nI_1]
      refine ih (k + 1) 1 f2' (by omega) ⟨fun g => absurd g (by decide), fun g => absurd c' (g k (by omega))⟩ (fun t ht => ?_)
      unfold iT at h2 ⊢
      rw [e2]
      by_cases htk : t = k
      · rw [htk, upd_at, if_pos ⟨by omega, c'⟩]; rfl
      · rw [upd_ne htk, h2 t ht]
        by_cases z2 : t < k ∧ 0 < (nOu t).toInt
        · rw [if_pos z2, if_pos ⟨by omega, z2.2⟩]
        · rw [if_neg z2, if_neg (fun q => z2 ⟨by omega, q.2⟩)]
theorem wp_rfe (hn : n ≤ 12) (hro : RowOK n (foC n tBe) nRo) (hbe : ∀ t, t < n → ∀ i, bt (nBe t) i = true ↔ Red (foC n tBe) t i) (hK : NetK n e md h er s2 nEa nMi nHa nER nMR) (hon : ∀ t, t < n → 0 ≤ onT e md h er s2 (iT nTh) t ∧ onT e md h er s2 (iT nTh) t ≤ 60) (hoff : ∀ t, t < n → 0 ≤ offT e md h er s2 (iT nTh) t ∧ offT e md h er s2 (iT nTh) t ≤ 60)
    (hth : ∀ o t, o < n → t < n → 0 < paI nPa o t → 0 < iT nTh t) (hpa : ∀ o t, o < n → t < n → 0 < paI nPa o t → foC n tBe t o) (hY : (∃ t, t < n ∧ 0 < iT nOu t) → LeaT n (onT e md h er s2 (iT nTh)) (offT e md h er s2 (iT nTh)) (iT nTh) (Red (foC n tBe)) (paI nPa) (fun _ => -1000000) (fun t => if 0 < iT nOu t then 0 else -1000000) yb yf ∧ ∀ t, t < n → yb t ≤ 1000 ∧ yf t ≤ 1000)
    {f1 f2 : Nat → Int32} {Q : (Nat → Int32) → (Nat → Int32) → Prop} (hQ : ∀ (a b : Nat → Int32), (∃ t, t < n ∧ 0 < iT nOu t) → (∀ t, t < n → iT a t = yb t ∧ iT b t = yf t) → Q a b) (hQ0 : ∀ (a b : Nat → Int32), (∀ t, t < n → ¬ 0 < iT nOu t) → (∀ t, t < n → iT a t = -1000000 ∧ iT b t = -1000000) → Q a b) : wp_X4_riseFromEnd f1 f2 (nI n) nRo nBe nEa nMi nHa nER nMR nTh nPa nOu Q := by
  intro a1 e1 a2 e2
  have hfar : ∀ t, t < n → iT a1 t = -1000000 ∧ iT a2 t = -1000000 := fun t ht => by
    unfold iT
    rw [e1, e2]
    simp [jFill, show t < 12 by omega]
  refine ⟨n + 1, re_in hn (fun r b hr hb => ⟨fun h0 => hQ0 a1 b (hr.mp h0) (fun t ht => ?_), fun h0 => ?_⟩) n 0 0 a2 (by omega) ⟨fun _ t h => absurd h (by omega), fun _ => rfl⟩ (fun t ht => by rw [(hfar t ht).2, if_neg (fun q => by omega)])⟩
  · refine ⟨(hfar t ht).1, ?_⟩
    rw [hb t ht, if_neg (hr.mp h0 t ht)]
  · have hex : ∃ t, t < n ∧ 0 < iT nOu t := Classical.byContradiction (fun q => h0 (hr.mpr (fun t ht z => q ⟨t, ht, z⟩)))
    obtain ⟨y1, y2⟩ := hY hex
    exact wp_rise hn hro hbe hK hon hoff hth hpa y1 y2 (fun t _ => ⟨by omega, by split <;> omega⟩) (fun t ht => ⟨(hfar t ht).1, hb t ht⟩) (fun a b hab => hQ a b hex hab)
end CRISE2
