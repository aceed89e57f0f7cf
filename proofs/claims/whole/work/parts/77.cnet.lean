/-! the class's net as it is laid: rooms, pairs, the least cost -/
def mdT (tKi tEa tHa tEx : Nat → Int32) (t : Nat) : Int := if (tKi t).toInt = 2 ∧ (tHa t).toInt < (tEa t).toInt - (tEx t).toInt then (tEa t).toInt - (tEx t).toInt else (tHa t).toInt
def erT (tKi tEa tHa tPr tEx : Nat → Int32) (t : Nat) : Int := if (tHa t).toInt < (tEa t).toInt then max 0 ((tPr t).toInt - (if (tKi t).toInt = 4 then (tEx t).toInt else 0)) else 0
def s2T (tKi tEa tHa tEx tSt : Nat → Int32) (t : Nat) : Int := if (tKi t).toInt = 2 ∧ (tHa t).toInt < (tEa t).toInt - (tEx t).toInt then (tSt t).toInt else 0
theorem TB.two {n : Nat} {tKi tEa tHa tPr tEx tSt tBe : Nat → Int32} (hT : TB n (nI n) tKi tEa tHa tPr tEx tSt tBe) : ∀ t, t < n → TwoSl (cT tKi tEa tPr tEx tSt t) (iT tEa t) (mdT tKi tEa tHa tEx t) (iT tHa t) (erT tKi tEa tHa tPr tEx t) (s2T tKi tEa tHa tEx tSt t) := by
  intro t ht
  obtain ⟨a1, a2, a3, a4, a5, a6, a7, a8, a9, a10, a11⟩ := hT.2.2.1 t ht
  exact aCost_two a4 a6 a8 a10
/-- the net's rows that stay -/
def NetK (n : Nat) (e md h er s2 : Nat → Int) (nEa nMi nHa nER nMR : Nat → Int32) : Prop := ∀ t, t < n → (nEa t).toInt = e t ∧ (nMi t).toInt = md t ∧ (nHa t).toInt = h t ∧ (nER t).toInt = er t ∧ (nMR t).toInt = er t + s2 t
section CNET
variable {n : Nat} {e md h er s2 : Nat → Int} {nEa nMi nHa nER nMR nTh nPa : Nat → Int32}
theorem wp_spOn (hn : n ≤ 12) (hK : NetK n e md h er s2 nEa nMi nHa nER nMR) {t : Nat} (ht : t < n) {Q : Int32 → Prop} (hQ : ∀ r : Int32, r.toInt = onT e md h er s2 (iT nTh) t → Q r) : wp_X4_spanOn nEa nMi nHa nER nMR nTh (nI t) Q := by
  obtain ⟨k1, k2, k3, k4, k5⟩ := hK t ht
  have hi : vp_in (nI t) 12 := pk_in t 12 (by omega)
  unfold wp_X4_spanOn
  rw [cl_nI (by omega), i_le, i_le, k4, k5]
  unfold onT sOn at hQ
  refine ⟨hi, hi, fun c1 => ⟨hi, hi, fun c2 => ⟨hi, hQ _ ?_⟩, fun c2 => ⟨hi, hQ _ ?_⟩⟩, fun c1 => ⟨hi, hQ _ ?_⟩⟩
  · rw [if_neg (by unfold iT; omega), if_neg (by unfold iT; omega)]; exact k3
  · rw [if_neg (by unfold iT; omega), if_pos (by unfold iT; omega)]; exact k2
  · rw [if_pos (by unfold iT; omega)]; exact k1
theorem wp_spOff (hn : n ≤ 12) (hK : NetK n e md h er s2 nEa nMi nHa nER nMR) {t : Nat} (ht : t < n) {Q : Int32 → Prop} (hQ : ∀ r : Int32, r.toInt = offT e md h er s2 (iT nTh) t → Q r) : wp_X4_spanOff nEa nMi nHa nER nMR nTh (nI t) Q := by
  obtain ⟨k1, k2, k3, k4, k5⟩ := hK t ht
  have hi : vp_in (nI t) 12 := pk_in t 12 (by omega)
  unfold wp_X4_spanOff
  rw [cl_nI (by omega), i_lt, i_lt, k4, k5]
  unfold offT sOff at hQ
  refine ⟨hi, hi, fun c1 => ⟨hi, hi, fun c2 => ⟨hi, hQ _ ?_⟩, fun c2 => ⟨hi, hQ _ ?_⟩⟩, fun c1 => ⟨hi, hQ _ ?_⟩⟩
  · rw [if_neg (by unfold iT; omega), if_neg (by unfold iT; omega)]; exact k3
  · rw [if_neg (by unfold iT; omega), if_pos (by unfold iT; omega)]; exact k2
  · rw [if_pos (by unfold iT; omega)]; exact k1
theorem wp_rmOn (hn : n ≤ 12) (hK : NetK n e md h er s2 nEa nMi nHa nER nMR) {t : Nat} (ht : t < n) (hb : 0 ≤ er t ∧ er t ≤ 100000 ∧ 0 ≤ s2 t ∧ s2 t ≤ 100000) (h0 : 0 ≤ (nTh t).toInt) {Q : Int32 → Prop} (hQ : ∀ r : Int32, r.toInt = rOn (er t) (er t + s2 t) (iT nTh t) → Q r) : wp_X4_roomOn nER nMR nTh (nI t) Q := by
  obtain ⟨k1, k2, k3, k4, k5⟩ := hK t ht
  have hi : vp_in (nI t) 12 := pk_in t 12 (by omega)
  unfold wp_X4_roomOn
  rw [cl_nI (by omega), i_le, i_le, k4, k5]
  unfold rOn iT at hQ
  refine ⟨hi, hi, fun c1 => ⟨hi, hi, fun c2 => hQ _ ?_, fun c2 => ⟨hi, hi, hQ _ ?_⟩⟩, fun c1 => ⟨hi, hi, hQ _ ?_⟩⟩
  · rw [if_neg (by omega), if_neg (by omega)]; rfl
  · rw [if_neg (by omega), if_pos (by omega), i_sub (by omega) (by omega), k5]
  · rw [if_pos (by omega), i_sub (by omega) (by omega), k4]
theorem wp_rmOff (hn : n ≤ 12) (hK : NetK n e md h er s2 nEa nMi nHa nER nMR) {t : Nat} (ht : t < n) (hb : 0 ≤ er t ∧ er t ≤ 100000 ∧ 0 ≤ s2 t ∧ s2 t ≤ 100000) (h0 : 0 ≤ (nTh t).toInt) {Q : Int32 → Prop} (hQ : ∀ r : Int32, r.toInt = rOff (er t) (er t + s2 t) (iT nTh t) → Q r) : wp_X4_roomOff nER nMR nTh (nI t) Q := by
  obtain ⟨k1, k2, k3, k4, k5⟩ := hK t ht
  have hi : vp_in (nI t) 12 := pk_in t 12 (by omega)
  have hr := i_rng (nTh t)
  unfold wp_X4_roomOff
  rw [cl_nI (by omega), i_lt, i_lt, k4, k5]
  unfold rOff iT at hQ
  refine ⟨hi, hi, fun c1 => ⟨hi, hi, hi, fun c2 => ⟨hi, hQ _ ?_⟩, fun c2 => ⟨hi, hQ _ ?_⟩⟩, fun c1 => ⟨hi, hQ _ ?_⟩⟩
  · rw [if_neg (by omega), if_neg (by omega), i_sub (by omega) (by omega), k5]
  · rw [if_neg (by omega), if_pos (by omega), i_sub (by omega) (by omega), k4]
  · rw [if_pos (by omega)]
end CNET
section CLAY
variable {n : Nat} {tKi tEa tHa tPr tEx tSt tBe : Nat → Int32}
theorem lp_in (hn : n ≤ 12) (hb : BitsOK n tBe) {t : Nat} (ht : t < n) {Q : Int32 → Prop} : ∀ (j k : Nat) (x : Int32), k + j = n → (∀ r, (∀ i, bt r i = true ↔ bt x i = true ∨ ∃ o, k ≤ o ∧ foC n tBe t o ∧ TC (foC n tBe) o i) → Q r) → wp_X4_layPairs_L5 (nI t) (nI n) tBe (nI n) Q (j + 1) x (nI k) := by
  intro j
  induction j with
  | zero =>
    intro k x hk hQ
    rw [wp_X4_layPairs_L5]
    refine pk_le n k (fun _ => hQ x (fun i => ⟨Or.inl, fun h => ?_⟩)) (fun q => absurd q (by omega))
    rcases h with h | ⟨o, h1, h2, _⟩
    · exact h
    · have := h2.2.1; omega
  | succ j ih =>
    intro k x hk hQ
    rw [wp_X4_layPairs_L5]
    refine pk_le n k (fun q => absurd q (by omega)) (fun q => ⟨pk_in t 12 (by omega), ?_⟩)
    rw [cl_nI (by omega)]
    refine wp_bit (by omega) (fun hb0 y ey => ?_) (fun hb1 => wp_allB hn hb (by omega) (fun y hy z ez w ew => ?_))
    · rw [ey, nI_1]
      refine ih (k + 1) x (by omega) (fun r hr => hQ r (fun i => ?_))
      rw [hr i]
      constructor
      · rintro (h | ⟨o, h1, h2⟩)
        · exact Or.inl h
        · exact Or.inr ⟨o, by omega, h2⟩
      · rintro (h | ⟨o, h1, h2, h3⟩)
        · exact Or.inl h
        · rcases Nat.lt_or_ge k o with z | z
          · exact Or.inr ⟨o, by omega, h2, h3⟩
          · rw [show o = k by omega] at h2; rw [h2.2.2] at hb0; exact absurd hb0 (by decide)
    · rw [ew, nI_1]
      refine ih (k + 1) z (by omega) (fun r hr => hQ r (fun i => ?_))
      rw [hr i, ez, b_or, Bool.or_eq_true, hy i]
      constructor
      · rintro ((h | h) | ⟨o, h1, h2⟩)
        · exact Or.inl h
        · exact Or.inr ⟨k, Nat.le_refl _, ⟨ht, by omega, hb1⟩, h⟩
        · exact Or.inr ⟨o, by omega, h2⟩
      · rintro (h | ⟨o, h1, h2, h3⟩)
        · exact Or.inl (Or.inl h)
        · rcases Nat.lt_or_ge k o with z | z
          · exact Or.inr ⟨o, by omega, h2, h3⟩
          · rw [show o = k by omega] at h3; exact Or.inl (Or.inr h3)
theorem wp_layP (hn : n ≤ 12) (hb : BitsOK n tBe) {t : Nat} (ht : t < n) {nFo : Int32} {nBe : Nat → Int32} {Q : Int32 → (Nat → Int32) → Prop} (hQ : ∀ (fo : Int32) (be : Nat → Int32), (∀ o, o ≠ t → be o = nBe o) → (∀ i, bt (be t) i = true ↔ Red (foC n tBe) t i) → (∀ i, bt fo i = true ↔ bt nFo i = true ∨ Red (foC n tBe) t i) → Q fo be) : wp_X4_layPairs (nI n) tBe (nI n) nFo nBe (nI t) Q := by
  refine ⟨n + 1, lp_in hn hb ht n 0 0 (by omega) (fun r hr => ⟨pk_in t 12 (by omega), pk_in t 12 (by omega), fun be eb => ⟨pk_in t 12 (by omega), fun fo ef => ?_⟩⟩)⟩
  rw [cl_nI (by omega)] at eb ef
  have hbt : ∀ i, bt (be t) i = true ↔ Red (foC n tBe) t i := by
    intro i
    rw [eb, upd_at]
    rcases Nat.lt_or_ge i 32 with hi | hi
    · rw [b_and, b_not hi, Bool.and_eq_true, Bool.not_eq_true']
      constructor
      · rintro ⟨h1, h2⟩
        refine ⟨⟨ht, hb t ht i h1, h1⟩, fun ⟨o, k1, k2⟩ => ?_⟩
        rw [(hr i).mpr (Or.inr ⟨o, Nat.zero_le _, k1, k2⟩)] at h2
        exact absurd h2 (by decide)
      · rintro ⟨h1, h2⟩
        refine ⟨h1.2.2, ?_⟩
        cases hq : bt r i
        · rfl
        · rcases (hr i).mp hq with z | ⟨o, _, z1, z2⟩
          · rw [b_0] at z; exact absurd z (by decide)
          · exact absurd ⟨o, z1, z2⟩ h2
    · rw [b_big hi]
      exact ⟨fun h => absurd h (by decide), fun h => by have := h.1.2.1; omega⟩
  refine hQ fo be (fun o ho => by rw [eb, upd_ne ho]) hbt (fun i => ?_)
  rw [ef, b_or, Bool.or_eq_true, hbt i]
theorem wp_layR (hT : TB n (nI n) tKi tEa tHa tPr tEx tSt tBe) {t : Nat} (ht : t < n) {nEa nMi nHa nER nMR : Nat → Int32} {Q : (Nat → Int32) → (Nat → Int32) → (Nat → Int32) → (Nat → Int32) → (Nat → Int32) → Prop}
    (hQ : ∀ a b c d f : Nat → Int32, (∀ o, o ≠ t → a o = nEa o ∧ b o = nMi o ∧ c o = nHa o ∧ d o = nER o ∧ f o = nMR o) → (a t).toInt = iT tEa t → (b t).toInt = mdT tKi tEa tHa tEx t → (c t).toInt = iT tHa t → (d t).toInt = erT tKi tEa tHa tPr tEx t → (f t).toInt = erT tKi tEa tHa tPr tEx t + s2T tKi tEa tHa tEx tSt t → Q a b c d f) : wp_X4_layRoom tKi tEa tHa tPr tEx tSt nEa nMi nHa nER nMR (nI t) Q := by
  have hn := hT.2.1
  obtain ⟨a1, a2, a3, a4, a5, a6, a7, a8, a9, a10, a11⟩ := hT.2.2.1 t ht
  have hi : vp_in (nI t) 12 := pk_in t 12 (by omega)
  unfold wp_X4_layRoom
  rw [cl_nI (by omega)]
  refine ⟨hi, hi, fun na ea => ⟨hi, hi, fun nh eh => ⟨hi, ?_⟩⟩⟩
  have eat : na t = tEa t := by rw [ea, upd_at]
  have eht : nh t = tHa t := by rw [eh, upd_at]
  -- behind the rent
  have key : ∀ y : Int32, y.toInt = (if (tKi t).toInt = 4 then (tEx t).toInt else 0) → wp_X4_layRoom_b44 Q (nI t) tEx tKi tPr tSt y na nMi nh nER nMR := by
    intro y ey
    have yb : 0 ≤ y.toInt ∧ y.toInt ≤ 100000 := by rw [ey]; split <;> omega
    have room : ∀ z : Int32, z.toInt = erT tKi tEa tHa tPr tEx t → wp_X4_layRoom_b81 Q (nI t) tEx tKi tSt (nI t) z na nMi nh nER nMR := by
      intro z ez
      have zb : 0 ≤ z.toInt ∧ z.toInt ≤ 100000 := by rw [ez]; unfold erT; rw [← ey]; split <;> omega
      unfold wp_X4_layRoom_b81
      rw [cl_nI (by omega)]
      refine ⟨hi, fun nr er => ⟨hi, hi, fun w ew => ⟨hi, ?_⟩⟩⟩
      rw [eat] at ew
      have ew' : w.toInt = (tEa t).toInt - (tEx t).toInt := by rw [ew, i_sub (by omega) (by omega)]
      have ert : nr t = z := by rw [er, upd_at]
      have last : ∀ (st : Int32) (md : Int32), md.toInt = mdT tKi tEa tHa tEx t → (st = 0 ∧ s2T tKi tEa tHa tEx tSt t = 0 ∨ ¬ st = 0 ∧ s2T tKi tEa tHa tEx tSt t = (tSt t).toInt) → wp_X4_layRoom_b146 Q (nI t) tSt (nI t) md st na nMi nh nr nMR := by
        intro st md emd hst
        unfold wp_X4_layRoom_b146
        rw [cl_nI (by omega)]
        have fin : ∀ (q : Int32) (nm : Nat → Int32), nm = upd nMi t md → 0 ≤ q.toInt → q.toInt ≤ 100000 → q.toInt = s2T tKi tEa tHa tEx tSt t → wp_X4_layRoom_b173 Q (nI t) (nr t) q na nm nh nr nMR := by
          intro q nm em q0 q1 eq
          unfold wp_X4_layRoom_b173
          rw [cl_nI (by omega)]
          refine ⟨hi, fun nf ef => hQ na nm nh nr nf (fun o ho => ⟨by rw [ea, upd_ne ho], by rw [em, upd_ne ho], by rw [eh, upd_ne ho], by rw [er, upd_ne ho], by rw [ef, upd_ne ho]⟩) (by rw [eat]; rfl) (by rw [em, upd_at]; exact emd) (by rw [eht]; rfl) (by rw [ert]; exact ez) ?_⟩
          rw [ef, upd_at, ert, i_add (by omega) (by omega), ez, eq]
        refine ⟨hi, fun nm em => ⟨hi, fun h0 => ?_, fun h1 => ⟨hi, ?_⟩⟩⟩
        · rcases hst with z2 | z2
          · exact fin 0 nm em (by decide) (by decide) (by rw [z2.2]; rfl)
          · exact absurd h0 z2.1
        · rcases hst with z2 | z2
          · exact absurd z2.1 h1
          · exact fin (tSt t) nm em a10 a11 z2.2.symm
      have no : ¬ ((tKi t).toInt = 2 ∧ (tHa t).toInt < (tEa t).toInt - (tEx t).toInt) → wp_X4_layRoom_b122 Q (nI t) tSt w na nMi nh nr nMR := by
        intro hno
        show wp_X4_layRoom_b123 Q (nI t) tSt 0 w na nMi nh nr nMR
        unfold wp_X4_layRoom_b123
        rw [cl_nI (by omega), eht]
        exact ⟨fun _ => ⟨hi, last 0 (tHa t) (by unfold mdT; rw [if_neg hno]) (Or.inl ⟨rfl, by unfold s2T; rw [if_neg hno]⟩)⟩, fun q => absurd rfl q⟩
      refine ⟨fun k => no (fun q => k (by rw [i_eq, q.1]; rfl)), fun k => ⟨hi, ?_⟩⟩
      rw [i_eq, lt2] at k
      rw [eht, i_le, ew']
      refine ⟨fun q => no (fun z => by omega), fun q => ?_⟩
      have yes : (tKi t).toInt = 2 ∧ (tHa t).toInt < (tEa t).toInt - (tEx t).toInt := ⟨k, by omega⟩
      unfold wp_X4_layRoom_b123
      exact ⟨fun q => absurd q (by decide), fun _ => last 1 w (by unfold mdT; rw [if_pos yes]; exact ew') (Or.inr ⟨by decide, by unfold s2T; rw [if_pos yes]⟩)⟩
    unfold wp_X4_layRoom_b44
    rw [cl_nI (by omega), eat, eht, i_le]
    refine ⟨hi, hi, fun q => room 0 ?_, fun q => ⟨hi, room _ ?_⟩⟩
    · unfold erT; rw [if_neg (by omega)]; rfl
    · unfold erT
      rw [if_pos (show (tHa t).toInt < (tEa t).toInt by omega), ifs_max (a := 0), i_sub (by omega) (by omega), ey, lt0]
  refine ⟨fun k => key 0 ?_, fun k => ⟨hi, key (tEx t) ?_⟩⟩
  · rw [i_eq, lt4] at k; rw [if_neg k]; rfl
  · rw [i_eq, lt4] at k; rw [if_pos k]
/-- the net is laid -/
def Laid (n : Nat) (tKi tEa tHa tPr tEx tSt tBe : Nat → Int32) (nFo : Int32) (nRo nBe nEa nMi nHa nER nMR : Nat → Int32) : Prop :=
  RowOK n (foC n tBe) nRo ∧ (∀ t, t < n → ∀ i, bt (nBe t) i = true ↔ Red (foC n tBe) t i) ∧ (∀ i, bt nFo i = true ↔ ∃ t, t < n ∧ Red (foC n tBe) t i) ∧ NetK n (iT tEa) (mdT tKi tEa tHa tEx) (iT tHa) (erT tKi tEa tHa tPr tEx) (s2T tKi tEa tHa tEx tSt) nEa nMi nHa nER nMR
theorem lay_in (hT : TB n (nI n) tKi tEa tHa tPr tEx tSt tBe) {Q : (Int32) → (Nat → Int32) → (Nat → Int32) → (Nat → Int32) → (Nat → Int32) → (Nat → Int32) → (Nat → Int32) → Prop}
    (hQ : ∀ fo be a b c d f, (∀ t, t < n → ∀ i, bt (be t) i = true ↔ Red (foC n tBe) t i) → (∀ i, bt fo i = true ↔ ∃ t, t < n ∧ Red (foC n tBe) t i) → NetK n (iT tEa) (mdT tKi tEa tHa tEx) (iT tHa) (erT tKi tEa tHa tPr tEx) (s2T tKi tEa tHa tEx tSt) a b c d f → Q fo be a b c d f) :
    ∀ (j k : Nat) (fo : Int32) (be a b c d f : Nat → Int32), k + j = n → (∀ t, t < k → ∀ i, bt (be t) i = true ↔ Red (foC n tBe) t i) → (∀ i, bt fo i = true ↔ ∃ t, t < k ∧ Red (foC n tBe) t i) → NetK k (iT tEa) (mdT tKi tEa tHa tEx) (iT tHa) (erT tKi tEa tHa tPr tEx) (s2T tKi tEa tHa tEx tSt) a b c d f → wp_X4_lay_L47 tBe (nI n) tEa tEx tHa tKi tPr tSt (nI n) Q (j + 1) (nI k) fo be a b c d f := by
  have hn := hT.2.1
  have hb := hT.2.2.2.1
  intro j
  induction j with
  | zero =>
    intro k fo be a b c d f hk h1 h2 h3
    rw [wp_X4_lay_L47]
    rw [show k = n by omega] at h1 h2 h3 ⊢
    exact pk_le n n (fun _ => hQ fo be a b c d f h1 h2 h3) (fun q => absurd q (by omega))
  | succ j ih =>
    intro k fo be a b c d f hk h1 h2 h3
    rw [wp_X4_lay_L47]
    refine pk_le n k (fun q => absurd q (by omega)) (fun q => wp_layP hn hb (by omega) (fun fo' be' g1 g2 g3 => wp_layR hT (by omega) (fun a' b' c' d' f' l1 l2 l3 l4 l5 l6 y ey => ?_)))
    rw [ey, nI_1]
    refine ih (k + 1) fo' be' a' b' c' d' f' (by omega) (fun t ht i => ?_) (fun i => ?_) (fun t ht => ?_)
    · by_cases htk : t = k
      · rw [htk]; exact g2 i
      · rw [g1 t htk]; exact h1 t (by omega) i
    · rw [g3 i, h2 i]
      constructor
      · rintro (⟨t, z1, z2⟩ | z)
        · exact ⟨t, by omega, z2⟩
        · exact ⟨k, by omega, z⟩
      · rintro ⟨t, z1, z2⟩
        by_cases htk : t = k
        · rw [htk] at z2; exact Or.inr z2
        · exact Or.inl ⟨t, by omega, z2⟩
    · by_cases htk : t = k
      · rw [htk]; exact ⟨l2, l3, l4, l5, l6⟩
      · obtain ⟨m1, m2, m3, m4, m5⟩ := l1 t htk
        rw [m1, m2, m3, m4, m5]; exact h3 t (by omega)
theorem wp_lay (hT : TB n (nI n) tKi tEa tHa tPr tEx tSt tBe) {nC nFo : Int32} {nRo nBe nEa nMi nHa nER nMR nTh nPa nOu : Nat → Int32} {Q : (Int32) → (Int32) → (Nat → Int32) → (Nat → Int32) → (Nat → Int32) → (Nat → Int32) → (Nat → Int32) → (Nat → Int32) → (Nat → Int32) → (Nat → Int32) → (Nat → Int32) → (Nat → Int32) → Prop}
    (hQ : ∀ fo ro be a b c d f th pa ou, Laid n tKi tEa tHa tPr tEx tSt tBe fo ro be a b c d f → (∀ t, t < 12 → th t = 0) → (∀ k, k < 144 → pa k = 0) → (∀ t, t < 12 → ou t = 0) → Q (nI n) fo ro be a b c d f th pa ou) : wp_X4_lay (nI n) tKi tEa tHa tPr tEx tSt tBe nC nFo nRo nBe nEa nMi nHa nER nMR nTh nPa nOu Q := by
  intro c ec
  rw [ec]
  refine wp_arr hT.2.1 hT.2.2.2.1 hT.2.2.2.2 (fun ro hro th eth pa epa ou eou fo efo => ⟨n + 1, ?_⟩)
  refine lay_in hT (fun fo be a b c d f h1 h2 h3 => hQ fo ro be a b c d f th pa ou ⟨hro, h1, h2, h3⟩ (fun t ht => by rw [eth]; simp [jFill, ht]) (fun t ht => by rw [epa]; simp [jFill, ht]) (fun t ht => by rw [eou]; simp [jFill, ht])) n 0 fo nBe nEa nMi nHa nER nMR (by omega) (fun t h => absurd h (by omega)) (fun i => ?_) (fun t h => absurd h (by omega))
  rw [efo, b_0]
  exact ⟨fun h => absurd h (by decide), fun ⟨t, h, _⟩ => absurd h (by omega)⟩
/-- the least cost of all -/
theorem mn0_eq (hT : TB n (nI n) tKi tEa tHa tPr tEx tSt tBe) {t : Nat} (ht : t < n) : mnT (cT tKi tEa tPr tEx tSt) (iT tEa) (mdT tKi tEa tHa tEx) (iT tHa) (erT tKi tEa tHa tPr tEx) (s2T tKi tEa tHa tEx tSt) (fun _ => 0) t = min (cT tKi tEa tPr tEx tSt t (tHa t).toInt) (cT tKi tEa tPr tEx tSt t (tEa t).toInt) := by
  have h2 := hT.two t ht
  have he := hT.he t ht
  have hin := sOn_in (e := iT tEa t) (er := erT tKi tEa tHa tPr tEx t) (mr := erT tKi tEa tHa tPr tEx t + s2T tKi tEa tHa tEx tSt t) (th := 0) h2.1 h2.2.1
  have a1 := (two_on h2 (Int.le_refl 0) (x := iT tEa t) he.1 (Int.le_refl _)).1
  have a2 := (two_on h2 (Int.le_refl 0) (x := iT tHa t) (Int.le_refl _) he.1).1
  unfold mnT onT
  dsimp only
  simp only [Int.zero_mul, Int.add_zero] at a1 a2 ⊢
  have e1 : cT tKi tEa tPr tEx tSt t (iT tEa t) = cT tKi tEa tPr tEx tSt t (tEa t).toInt := rfl
  have e2 : cT tKi tEa tPr tEx tSt t (iT tHa t) = cT tKi tEa tPr tEx tSt t (tHa t).toInt := rfl
  rcases cT_end (hT.2.2.1 t ht) with z | ⟨_, _, z⟩
  · have := z _ hin.1 hin.2; omega
  · have := z _ hin.1 hin.2; omega
theorem lc_in (hT : TB n (nI n) tKi tEa tHa tPr tEx tSt tBe) {Q : Int64 → Prop} (hQ : ∀ v : Int64, v.toInt = sT (fun t => min (cT tKi tEa tPr tEx tSt t (tHa t).toInt) (cT tKi tEa tPr tEx tSt t (tEa t).toInt)) n → Q v) : ∀ (j k : Nat) (x : Int64), k + j = n → x.toInt = sT (fun t => min (cT tKi tEa tPr tEx tSt t (tHa t).toInt) (cT tKi tEa tPr tEx tSt t (tEa t).toInt)) k → wp_X5_leastCost_L4 (nI n) tEa tEx tHa tKi tPr tSt Q (j + 1) x (nI k) := by
  have hn := hT.2.1
  have hbd : ∀ t, t < n → 0 ≤ min (cT tKi tEa tPr tEx tSt t (tHa t).toInt) (cT tKi tEa tPr tEx tSt t (tEa t).toInt) ∧ min (cT tKi tEa tPr tEx tSt t (tHa t).toInt) (cT tKi tEa tPr tEx tSt t (tEa t).toInt) ≤ 12000000 := fun t ht => by
    have he : (tHa t).toInt ≤ (tEa t).toInt := (hT.he t ht).1
    have a := cT_bd (hT.2.2.1 t ht) (Int.le_refl _) he
    have b := cT_bd (hT.2.2.1 t ht) he (Int.le_refl _)
    omega
  intro j
  induction j with
  | zero =>
    intro k x hk h
    rw [wp_X5_leastCost_L4]
    rw [show k = n by omega] at h ⊢
    exact pk_le n n (fun _ => hQ x h) (fun q => absurd q (by omega))
  | succ j ih =>
    intro k x hk h
    rw [wp_X5_leastCost_L4]
    refine pk_le n k (fun q => absurd q (by omega)) (fun q => ⟨pk_in k 12 (by omega), ?_⟩)
    rw [cl_nI (by omega)]
    have he : (tHa k).toInt ≤ (tEa k).toInt := (hT.he k (by omega)).1
    refine wp_cost (tHa := tHa) (by omega) (hT.2.2.1 k (by omega)) he (Int.le_refl _) (fun v ev => ⟨pk_in k 12 (by omega), wp_cost (tHa := tHa) (by omega) (hT.2.2.1 k (by omega)) (Int.le_refl _) he (fun w ew y ey z ez => ?_)⟩)
    have sb := sT_bound (g := fun t => min (cT tKi tEa tPr tEx tSt t (tHa t).toInt) (cT tKi tEa tPr tEx tSt t (tEa t).toInt)) (B := 12000000) (n := k) (fun t ht => hbd t (by omega))
    have cb := hbd k (by omega)
    have em : (if w < v then w else v).toInt = min (cT tKi tEa tPr tEx tSt k (tHa k).toInt) (cT tKi tEa tPr tEx tSt k (tEa k).toInt) := by rw [ifl_min, ev, ew]
    rw [ez, nI_1]
    refine ih (k + 1) y (by omega) ?_
    rw [ey, l_add (by omega) (by omega), sT, h, em]
theorem wp_lc (hT : TB n (nI n) tKi tEa tHa tPr tEx tSt tBe) {Q : Int64 → Prop} (hQ : ∀ v : Int64, v.toInt = sT (mnT (cT tKi tEa tPr tEx tSt) (iT tEa) (mdT tKi tEa tHa tEx) (iT tHa) (erT tKi tEa tHa tPr tEx) (s2T tKi tEa tHa tEx tSt) (fun _ => 0)) n → Q v) : wp_X5_leastCost (nI n) tKi tEa tHa tPr tEx tSt Q :=
  ⟨n + 1, lc_in hT (fun v hv => hQ v (by rw [hv]; exact sT_congr (fun t ht => (mn0_eq hT ht).symm))) n 0 0 (by omega) rfl⟩
end CLAY
