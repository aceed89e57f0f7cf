/-! the reference's cut, whole -/
theorem cz_room {Q : (Nat → Int64) → Prop} (hQ : ∀ m, (∀ i, i < 676 → m i = 0) → Q m) : ∀ (j k : Nat) (m : Nat → Int64), k + j = 676 → (∀ i, i < k → m i = 0) → wp_X9_cut_L2 Q (j + 1) (nI k) m := by
  intro j
  induction j with
  | zero =>
    intro k m hk h
    rw [wp_X9_cut_L2]
    exact pk_le 676 k (fun _ => hQ m (fun i hi => h i (by omega))) (fun q => absurd q (by omega))
  | succ j ih =>
    intro k m hk h
    rw [wp_X9_cut_L2]
    refine pk_le 676 k (fun q => absurd q (by omega)) (fun q => ⟨pk_in k 676 (by omega), fun m' em y ey => ?_⟩)
    rw [cl_nI (by omega)] at em
    rw [ey, nI_1]
    refine ih (k + 1) m' (by omega) (fun i hi => ?_)
    rw [em]
    by_cases hik : i = k
    · rw [hik, updL_at]
    · rw [updL_ne hik]; exact h i (by omega)
theorem cz_own {Q : (Nat → Int64) → Prop} (hQ : ∀ m, (∀ i, i < 24 → m i = 0) → Q m) : ∀ (j k : Nat) (m : Nat → Int64), k + j = 24 → (∀ i, i < k → m i = 0) → wp_X9_cut_L24 Q (j + 1) (nI k) m := by
  intro j
  induction j with
  | zero =>
    intro k m hk h
    rw [wp_X9_cut_L24]
    exact pk_le 24 k (fun _ => hQ m (fun i hi => h i (by omega))) (fun q => absurd q (by omega))
  | succ j ih =>
    intro k m hk h
    rw [wp_X9_cut_L24]
    refine pk_le 24 k (fun q => absurd q (by omega)) (fun q => ⟨pk_in k 24 (by omega), fun m' em y ey => ?_⟩)
    rw [cl_nI (by omega)] at em
    rw [ey, nI_1]
    refine ih (k + 1) m' (by omega) (fun i hi => ?_)
    rw [em]
    by_cases hik : i = k
    · rw [hik, updL_at]
    · rw [updL_ne hik]; exact h i (by omega)
def kap (k : Nat) (ow : Nat → Int64) : Int := sT (fun t => max 0 (-(ow t).toInt) + max 0 (-(ow (12 + t)).toInt)) k
theorem wp_own1 {ow m : Nat → Int64} {k : Nat} (hk : k < 24) {K : Int} (hB : RmB m K) (hK : K ≤ 2300000000000000000) (ho : -12000000 ≤ (ow k).toInt ∧ (ow k).toInt ≤ 12000000) {Q : (Nat → Int64) → Prop}
    (hQ : ∀ m', RmB m' (K + 1125899911036928) → (∀ Y, SrcY Y → cutv (rm m') 26 Y = cutv (rm m) 26 Y + (if Y k then (ow k).toInt else 0) + max 0 (-(ow k).toInt)) → Q m') :
    (0 ≤ lg_cmp (ow k) 0 → wp_X9_edge m (nI k) 25 (ow k) Q) ∧ (¬ 0 ≤ lg_cmp (ow k) 0 → wp_X9_edge m 24 (nI k) (-(ow k)) Q) := by
  have e25 : (25 : Int32) = nI 25 := rfl
  have e24 : (24 : Int32) = nI 24 := rfl
  rw [cmp_ge0, L0i]
  refine ⟨fun h => ?_, fun h => ?_⟩
  · rw [e25]
    refine wp_edge (by omega) (by omega) hB (by omega) h (by omega) (fun m' g1 g2 => hQ m' g1 (fun Y hY => ?_))
    rw [cutv_at (by omega) (by omega) g2, hY.2]
    cases hy : Y k <;> simp <;> omega
  · have en := l_neg (a := ow k) (by omega) (by omega)
    rw [e24]
    refine wp_edge (by omega) (by omega) hB (by omega) (by omega) (by omega) (fun m' g1 g2 => hQ m' g1 (fun Y hY => ?_))
    rw [cutv_at (by omega) (by omega) g2, hY.1, en]
    cases hy : Y k <;> simp <;> omega
theorem cut_own {n : Nat} (hn : n ≤ 12) {ow m0 : Nat → Int64} {K : Int} (hK : K ≤ 1000000000000000000) (ho : ∀ k, k < 24 → -12000000 ≤ (ow k).toInt ∧ (ow k).toInt ≤ 12000000) {Q : (Nat → Int64) → Prop}
    (hQ : ∀ m, RmB m (K + n * 2251799822073856) → (∀ Y, SrcY Y → cutv (rm m) 26 Y = cutv (rm m0) 26 Y + osum n ow Y + kap n ow) → Q m) :
    ∀ (j k : Nat) (m : Nat → Int64), k + j = n → RmB m (K + k * 2251799822073856) → (∀ Y, SrcY Y → cutv (rm m) 26 Y = cutv (rm m0) 26 Y + osum k ow Y + kap k ow) → wp_X9_cut_L273 (nI n) ow Q (j + 1) (nI k) m := by
  intro j
  induction j with
  | zero =>
    intro k m hk h1 h2
    rw [wp_X9_cut_L273]
    rw [show k = n by omega] at h1 h2 ⊢
    exact pk_le n n (fun _ => hQ m h1 h2) (fun q => absurd q (by omega))
  | succ j ih =>
    intro k m hk h1 h2
    rw [wp_X9_cut_L273]
    refine pk_le n k (fun q => absurd q (by omega)) (fun q => ?_)
    have e12 : (12 : Int32) + nI k = nI (12 + k) := nI_add 12 k
    rw [cl_nI (by omega)]
    have hi : vp_in (nI k) 24 := pk_in k 24 (by omega)
    have hi2 : vp_in (nI (12 + k)) 24 := pk_in (12 + k) 24 (by omega)
    have nxt : ∀ m1, RmB m1 (K + k * 2251799822073856 + 1125899911036928) → (∀ Y, SrcY Y → cutv (rm m1) 26 Y = cutv (rm m) 26 Y + (if Y k then (ow k).toInt else 0) + max 0 (-(ow k).toInt)) → wp_X9_cut_b325 ow (wp_X9_cut_L273 (nI n) ow Q (j + 1)) (nI k) m1 := by
      intro m1 g1 g2 y ey
      rw [e12] at ey
      rw [ey, cl_nI (by omega)]
      have key := wp_own1 (ow := ow) (k := 12 + k) (by omega) g1 (by omega) (ho (12 + k) (by omega)) (Q := fun m2 => wp_X9_cut_b377 (wp_X9_cut_L273 (nI n) ow Q (j + 1)) (nI k) m2) (fun m2 k1 k2 z ez => ?_)
      · exact ⟨hi2, fun h => ⟨hi2, key.1 h⟩, fun h => ⟨hi2, key.2 h⟩⟩
      · rw [ez, nI_1]
        refine ih (k + 1) m2 (by omega) (fun u v hu hv => ⟨(k1 u v hu hv).1, by have := (k1 u v hu hv).2; omega⟩) (fun Y hY => ?_)
        rw [k2 Y hY, g2 Y hY, h2 Y hY]
        unfold osum kap
        rw [sT, sT]
        omega
    have key := wp_own1 (ow := ow) (k := k) (by omega) h1 (by omega) (ho k (by omega)) (Q := fun m1 => wp_X9_cut_b325 ow (wp_X9_cut_L273 (nI n) ow Q (j + 1)) (nI k) m1) nxt
    exact ⟨hi, fun h => ⟨hi, key.1 h⟩, fun h => ⟨hi, key.2 h⟩⟩
theorem cut_move {go mMo : Nat → Int32} {s : Int32} {Q : Int32 → (Nat → Int32) → Prop}
    (hQ : ∀ (r : Int32) (mo : Nat → Int32), (r = 0 ∨ r = 1) → (r = 0 ↔ ∀ k, k < 24 → go k = 0) → (∀ k, k < 24 → mo k = mMo k + (if goB go k then s else 0)) → Q r mo) :
    ∀ (j k : Nat) (x : Int32) (mo : Nat → Int32), k + j = 24 → (x = 0 ∨ x = 1) → (x = 0 ↔ ∀ i, i < k → go i = 0) → (∀ i, i < k → mo i = mMo i + (if goB go i then s else 0)) → (∀ i, k ≤ i → mo i = mMo i) → wp_X9_cut_L402 s go Q (j + 1) x (nI k) mo := by
  intro j
  induction j with
  | zero =>
    intro k x mo hk h0 h1 h2 h3
    rw [wp_X9_cut_L402]
    rw [show k = 24 by omega] at h1 h2 ⊢
    exact pk_le 24 24 (fun _ => hQ x mo h0 h1 h2) (fun q => absurd q (by omega))
  | succ j ih =>
    intro k x mo hk h0 h1 h2 h3
    rw [wp_X9_cut_L402]
    refine pk_le 24 k (fun q => absurd q (by omega)) (fun q => ⟨pk_in k 24 (by omega), pk_in k 26 (by omega), ?_⟩)
    rw [cl_nI (by omega)]
    have fin : ∀ d : Int32, d = (if goB go k then s else 0) → wp_X9_cut_b432 go (wp_X9_cut_L402 s go Q (j + 1)) (nI k) (mo k) d x (nI k) mo := by
      intro d hd
      refine ⟨pk_in k 24 (by omega), fun mo' em => ?_⟩
      rw [cl_nI (by omega)] at em ⊢
      have n1 : ∀ i, i < k + 1 → mo' i = mMo i + (if goB go i then s else 0) := fun i hi => by
        rw [em]
        by_cases hik : i = k
        · rw [hik, upd_at, h3 k (Nat.le_refl _), hd]
        · rw [upd_ne hik]; exact h2 i (by omega)
      have n2 : ∀ i, k + 1 ≤ i → mo' i = mMo i := fun i hi => by rw [em, upd_ne (by omega)]; exact h3 i (by omega)
      have one : ¬ (x = 0 ∧ go k = 0) → wp_X9_cut_b448 (wp_X9_cut_L402 s go Q (j + 1)) (nI k) mo' := by
        intro hno y ey
        rw [ey, nI_1]
        refine ih (k + 1) 1 mo' (by omega) (Or.inr rfl) ⟨fun z => absurd z (by decide), fun z => ?_⟩ n1 n2
        exact absurd ⟨h1.mpr (fun i hi => z i (by omega)), z k (by omega)⟩ hno
      refine ⟨fun hx => one (fun z => hx z.1), fun hx => ⟨pk_in k 26 (by omega), fun hg y ey => ?_, fun hg => one (fun z => hg z.2)⟩⟩
      rw [ey, nI_1]
      refine ih (k + 1) 0 mo' (by omega) (Or.inl rfl) ⟨fun _ i hi => ?_, fun _ => rfl⟩ n1 n2
      rcases Nat.lt_or_ge i k with z | z
      · exact h1.mp hx i z
      · rw [show i = k by omega]; exact hg
    exact ⟨fun h => fin 0 (by rw [goB_f.mpr h]; rfl), fun h => fin s (by rw [goB_t.mpr h]; rfl)⟩
theorem ex_room {Q : (Nat → Int64) → Prop} {m : Nat → Int64} (hQ : ∀ m, (∀ i, i < 676 → m i = 0) → Q m) : ∃ k, wp_X9_cut_L2 Q k 0 m := by
  have h := cz_room hQ 676 0 m (by omega) (fun i h => absurd h (by omega))
  rw [nI_0] at h
  exact ⟨_, h⟩
theorem ex_own {Q : (Nat → Int64) → Prop} {m : Nat → Int64} (hQ : ∀ m, (∀ i, i < 24 → m i = 0) → Q m) : ∃ k, wp_X9_cut_L24 Q k 0 m := by
  have h := cz_own hQ 24 0 m (by omega) (fun i h => absurd h (by omega))
  rw [nI_0] at h
  exact ⟨_, h⟩
theorem ex_move {go mMo : Nat → Int32} {s : Int32} {Q : Int32 → (Nat → Int32) → Prop}
    (hQ : ∀ (r : Int32) (mo : Nat → Int32), (r = 0 ∨ r = 1) → (r = 0 ↔ ∀ k, k < 24 → go k = 0) → (∀ k, k < 24 → mo k = mMo k + (if goB go k then s else 0)) → Q r mo) : ∃ k, wp_X9_cut_L402 s go Q k 0 0 mMo := by
  have h := cut_move hQ 24 0 0 mMo (by omega) (Or.inl rfl) ⟨fun _ i h => absurd h (by omega), fun _ => rfl⟩ (fun i h => absurd h (by omega)) (fun _ _ => rfl)
  rw [nI_0] at h
  exact ⟨_, h⟩
theorem ex_flow {m0 : Nat → Int64} {K : Int} (hK : K ≤ 576460752303423488) {Y0 : Nat → Bool} (hY : SrcY Y0) (hB : RmB m0 K) {go fr qu : Nat → Int32} {Q : (Nat → Int64) → (Nat → Int32) → (Nat → Int32) → (Nat → Int32) → Prop} (hQ : ∀ m go fr qu, MinCut (rm m0) go → Q m go fr qu) : ∃ k, wp_X9_cut_L383 Q k m0 go fr qu := by
  have n0 := cutv_nonneg (r := rm m0) (N := 26) (Y := Y0) (fun u v hu hv => (hB u v hu hv).1)
  exact ⟨_, fl_loop (r0 := rm m0) hK hY.1 hY.2 hQ (cutv (rm m0) 26 Y0).toNat m0 go fr qu (by omega) (fun u v hu hv => (hB u v hu hv).1) (fun u v hu hv => by have a := (hB u v hu hv).2; have b := (hB v u hv hu).2; omega) ⟨0, fun Y _ _ => by omega⟩⟩
theorem ex_edges {n : Nat} (hn : n ≤ 12) {ow m0 : Nat → Int64} {K : Int} (hK : K ≤ 500000000000000000) (hB : RmB m0 K) (ho : ∀ k, k < 24 → -12000000 ≤ (ow k).toInt ∧ (ow k).toInt ≤ 12000000) {Q : (Nat → Int64) → Prop}
    (hQ : ∀ m, RmB m (K + n * 2251799822073856) → (∀ Y, SrcY Y → cutv (rm m) 26 Y = cutv (rm m0) 26 Y + osum n ow Y + kap n ow) → Q m) : ∃ k, wp_X9_cut_L273 (nI n) ow Q k 0 m0 := by
  have h := cut_own hn (m0 := m0) (K := K) (by omega) ho hQ n 0 m0 (by omega) (fun u v hu hv => ⟨(hB u v hu hv).1, by have := (hB u v hu hv).2; omega⟩) (fun Y _ => by unfold osum kap; rw [sT, sT]; omega)
  rw [nI_0] at h
  exact ⟨_, h⟩
section CUTALL
variable {n : Nat} {tKi tEa tHa tPr tEx tSt tBe : Nat → Int32} {pT : Int32} {pK pN pF mMo : Nat → Int32} {s T : Int32}
theorem Cost.diff {n : Nat} {c : Nat → Int → Int} {b f b' f' : Nat → Int} : sT (fun t => c t (f' t - b' t) - c t (f t - b t)) n = Cost n c b' f' - Cost n c b f := sT_sub _ _ n
theorem cut_core (hT : TB n (nI n) tKi tEa tHa tPr tEx tSt tBe) (hP : Pl n (iT tEa) (iT tHa) (foC n tBe) (bM mMo) (fM mMo))
    (hs : s.toInt = 1 ∧ Len n T.toInt (fM mMo) ∨ s.toInt = -1 ∧ Len n (T.toInt + 1) (fM mMo)) (hT0 : 0 ≤ T.toInt ∧ T.toInt ≤ 2000) {Y0 : Nat → Bool} (hY0 : SrcY Y0) (hF0 : Pl n (iT tEa) (iT tHa) (foC n tBe) (mvb s.toInt (bM mMo) Y0) (mvf s.toInt (fM mMo) Y0) ∧ Len n T.toInt (mvf s.toInt (fM mMo) Y0))
    {mGo mFr mQu : Nat → Int32} {Q : Int32 → (Nat → Int32) → (Nat → Int64) → (Nat → Int64) → (Nat → Int32) → (Nat → Int32) → (Nat → Int32) → Prop}
    {m1 ow r0 : Nat → Int64} (h1 : RmB m1 (n * 22517998220738560)) (h2 : ∀ k, k < 24 → -12000000 ≤ (ow k).toInt ∧ (ow k).toInt ≤ 12000000) (h3 : Acc n (iT tEa) (iT tHa) (cT tKi tEa tPr tEx tSt) (foC n tBe) s.toInt T.toInt (bM mMo) (fM mMo) n m1 ow) (k1 : RmB r0 (n * 22517998220738560 + n * 2251799822073856)) (k2 : ∀ Y, SrcY Y → cutv (rm r0) 26 Y = cutv (rm m1) 26 Y + osum n ow Y + kap n ow)
    (hQ : ∀ (r : Int32) (mo : Nat → Int32) (m2 o2 : Nat → Int64) (g2 f2 q2 : Nat → Int32) (R : Nat → Bool), SrcY R → (∀ k, k < 24 → R k = true → k % 12 < n) → (r = 0 ↔ ∀ k, k < 24 → R k = false) → (∀ t, t < n → bM mo t = mvb s.toInt (bM mMo) R t ∧ fM mo t = mvf s.toInt (fM mMo) R t) →
      Pl n (iT tEa) (iT tHa) (foC n tBe) (mvb s.toInt (bM mMo) R) (mvf s.toInt (fM mMo) R) → Len n T.toInt (mvf s.toInt (fM mMo) R) →
      (∀ Y, SrcY Y → Pl n (iT tEa) (iT tHa) (foC n tBe) (mvb s.toInt (bM mMo) Y) (mvf s.toInt (fM mMo) Y) → Len n T.toInt (mvf s.toInt (fM mMo) Y) → Cost n (cT tKi tEa tPr tEx tSt) (mvb s.toInt (bM mMo) R) (mvf s.toInt (fM mMo) R) ≤ Cost n (cT tKi tEa tPr tEx tSt) (mvb s.toInt (bM mMo) Y) (mvf s.toInt (fM mMo) Y)) →
      (∀ Y, SrcY Y → Pl n (iT tEa) (iT tHa) (foC n tBe) (mvb s.toInt (bM mMo) Y) (mvf s.toInt (fM mMo) Y) → Len n T.toInt (mvf s.toInt (fM mMo) Y) → Cost n (cT tKi tEa tPr tEx tSt) (mvb s.toInt (bM mMo) Y) (mvf s.toInt (fM mMo) Y) ≤ Cost n (cT tKi tEa tPr tEx tSt) (mvb s.toInt (bM mMo) R) (mvf s.toInt (fM mMo) R) → ∀ k, k < 24 → R k = true → Y k = true) → Q r mo m2 o2 g2 f2 q2) :
    ∃ n383 : Nat, wp_X9_cut_L383 (fun (mRm_90 : Nat → Int64) (mGo_91 : Nat → Int32) (mFr_92 : Nat → Int32) (mQu_93 : Nat → Int32) => (∃ n402 : Nat, wp_X9_cut_L402 s mGo_91 (fun (x3_103 : Int32) (mMo_104 : Nat → Int32) => (x3_103 = 0 ∨ x3_103 = 1) ∧ Q x3_103 mMo_104 mRm_90 ow mGo_91 mFr_92 mQu_93) n402 0 0 mMo)) n383 r0 mGo mFr mQu := by
  have hn : n ≤ 12 := hT.2.1
  have hN := hT.2.2.1
  have hh : ∀ t, t < n → 0 ≤ iT tHa t := fun t ht => (hN t ht).2.2.1
  have fp := fun b f => fea_pl (n := n) (e := iT tEa) (h := iT tHa) (fo := foC n tBe) (T := T.toInt) (b := b) (f := f) foC_lt hh
  have hbd : ∀ t, t < n → ∀ y, iT tHa t ≤ y → y ≤ iT tEa t → 0 ≤ cT tKi tEa tPr tEx tSt t y ∧ cT tKi tEa tPr tEx tSt t y ≤ 12000000 := fun t ht y h1 h2 => cT_bd (hN t ht) h1 h2
  have hpn : ∀ t, t < n → iT tHa t ≤ fM mMo t - bM mMo t ∧ fM mMo t - bM mMo t ≤ iT tEa t := fun t ht => ⟨(hP t ht).2.1, (hP t ht).2.2.1⟩
  have hkap : 0 ≤ kap n ow ∧ kap n ow ≤ n * 24000000 := by
    have : ∀ k, k ≤ 12 → 0 ≤ kap k ow ∧ kap k ow ≤ k * 24000000 := by
      intro k
      induction k with
      | zero => intro _; simp [kap, sT]
      | succ k ih =>
        intro hk
        have i := ih (by omega)
        unfold kap at i ⊢
        rw [sT]
        have a := h2 k (by omega)
        have b := h2 (12 + k) (by omega)
        omega
    exact this n hn
  have char : ∀ Y, SrcY Y → ((Pl n (iT tEa) (iT tHa) (foC n tBe) (mvb s.toInt (bM mMo) Y) (mvf s.toInt (fM mMo) Y) ∧ Len n T.toInt (mvf s.toInt (fM mMo) Y)) → cutv (rm r0) 26 Y = Cost n (cT tKi tEa tPr tEx tSt) (mvb s.toInt (bM mMo) Y) (mvf s.toInt (fM mMo) Y) - Cost n (cT tKi tEa tPr tEx tSt) (bM mMo) (fM mMo) + kap n ow ∧ cutv (rm r0) 26 Y < 562949953421312) ∧ (¬ (Pl n (iT tEa) (iT tHa) (foC n tBe) (mvb s.toInt (bM mMo) Y) (mvf s.toInt (fM mMo) Y) ∧ Len n T.toInt (mvf s.toInt (fM mMo) Y)) → 562949953421312 ≤ cutv (rm r0) 26 Y) := by
    intro Y hY
    obtain ⟨a1, a2⟩ := h3 Y hY
    have a3 := k2 Y hY
    rw [← fp]
    refine ⟨fun hF => ?_, fun hF => ?_⟩
    · have b1 := a1 hF
      have b2 := acc_low (n := n) (e := iT tEa) (h := iT tHa) (c := cT tKi tEa tPr tEx tSt) (fo := foC n tBe) hbd hpn hF
      rw [← Cost.diff]
      constructor <;> omega
    · have := a2 hF
      omega
  have c0 := (char Y0 hY0).1 hF0
  refine ex_flow (K := n * 22517998220738560 + n * 2251799822073856) (by omega) hY0 k1 (fun m2 go fr qu hC => ex_move (fun r mo g0 g1 g2 => ⟨g0, ?_⟩))
  obtain ⟨d1, d2, d3, d4, d5⟩ := hC
  have hR : SrcY (goB go) := ⟨d1, d2⟩
  have hRF : Pl n (iT tEa) (iT tHa) (foC n tBe) (mvb s.toInt (bM mMo) (goB go)) (mvf s.toInt (fM mMo) (goB go)) ∧ Len n T.toInt (mvf s.toInt (fM mMo) (goB go)) := by
    apply Classical.byContradiction
    intro hno
    have e1 := (char _ hR).2 hno
    have e2 := d4 Y0 hY0.1 hY0.2
    omega
  have cR := (char _ hR).1 hRF
  -- nothing but tasks' moments goes
  have hin : ∀ k, k < 24 → goB go k = true → k % 12 < n := by
    let Y : Nat → Bool := fun k => if k < 24 then goB go k && decide (k % 12 < n) else goB go k
    have hYs : SrcY Y := ⟨by show (if 24 < 24 then _ else goB go 24) = true; rw [if_neg (by omega)]; exact d1, by show (if 25 < 24 then _ else goB go 25) = false; rw [if_neg (by omega)]; exact d2⟩
    have eb : ∀ t, t < n → mvb s.toInt (bM mMo) (goB go) t = mvb s.toInt (bM mMo) Y t := fun t ht => by
      show _ + (if goB go t then _ else 0) = _ + (if (if t < 24 then goB go t && decide (t % 12 < n) else goB go t) then _ else 0)
      rw [if_pos (show t < 24 by omega), Nat.mod_eq_of_lt (by omega), decide_eq_true ht, Bool.and_true]
    have ef : ∀ t, t < n → mvf s.toInt (fM mMo) (goB go) t = mvf s.toInt (fM mMo) Y t := fun t ht => by
      show _ + (if goB go (12 + t) then _ else 0) = _ + (if (if 12 + t < 24 then goB go (12 + t) && decide ((12 + t) % 12 < n) else goB go (12 + t)) then _ else 0)
      rw [if_pos (show 12 + t < 24 by omega), show (12 + t) % 12 = t by omega, decide_eq_true ht, Bool.and_true]
    have cY := (char Y hYs).1 ⟨hRF.1.congr eb ef, hRF.2.congr ef⟩
    have ec := Cost.congr (c := cT tKi tEa tPr tEx tSt) eb ef
    intro k hk hg
    have := d5 Y hYs.1 hYs.2 (by omega) k (by omega) hg
    have h9 : (if k < 24 then goB go k && decide (k % 12 < n) else goB go k) = true := this
    rw [if_pos hk, hg, Bool.true_and] at h9
    exact of_decide_eq_true h9
  have hmo : ∀ t, t < n → bM mo t = mvb s.toInt (bM mMo) (goB go) t ∧ fM mo t = mvf s.toInt (fM mMo) (goB go) t := by
    intro t ht
    have p := hP t ht
    have pe := (hN t ht)
    obtain ⟨_, _, u3, u4, u5, _⟩ := id pe
    have p1 : 0 ≤ (mMo t).toInt := p.1
    have p2 : (tHa t).toInt ≤ (mMo (12 + t)).toInt - (mMo t).toInt := p.2.1
    have hl : (mMo (12 + t)).toInt ≤ T.toInt + 1 := by
      rcases hs with z | z
      · have w : (mMo (12 + t)).toInt ≤ T.toInt := z.2 t ht; omega
      · exact z.2 t ht
    have hs' : s.toInt = 1 ∨ s.toInt = -1 := by rcases hs with z | z; exact Or.inl z.1; exact Or.inr z.1
    have one : ∀ k, k < 24 → 0 ≤ (mMo k).toInt → (mMo k).toInt ≤ 2001 → (mo k).toInt = (mMo k).toInt + (if goB go k then s.toInt else 0) := by
      intro k hk q1 q2
      rw [g2 k hk]
      cases goB go k
      · simp
      · simp only [if_true]
        rw [i_add (by omega) (by omega)]
    exact ⟨one t (by omega) p1 (by omega), one (12 + t) (by omega) (by omega) (by omega)⟩
  refine hQ r mo m2 ow go fr qu (goB go) hR hin ?_ hmo hRF.1 hRF.2 (fun Y hY y1 y2 => ?_) (fun Y hY y1 y2 y3 k hk hg => ?_)
  · rw [g1]
    exact ⟨fun z k hk => goB_f.mpr (z k hk), fun z k hk => goB_f.mp (z k hk)⟩
  · have e1 := (char Y hY).1 ⟨y1, y2⟩
    have e2 := d4 Y hY.1 hY.2
    omega
  · have e1 := (char Y hY).1 ⟨y1, y2⟩
    exact d5 Y hY.1 hY.2 (by omega) k (by omega) hg
theorem wp_cut (hT : TB n (nI n) tKi tEa tHa tPr tEx tSt tBe) (hM : MB n tKi tEa tHa tPr tEx tSt tBe pT pK pN pF) (hP : Pl n (iT tEa) (iT tHa) (foC n tBe) (bM mMo) (fM mMo))
    (hs : s.toInt = 1 ∧ Len n T.toInt (fM mMo) ∨ s.toInt = -1 ∧ Len n (T.toInt + 1) (fM mMo)) (hT0 : 0 ≤ T.toInt ∧ T.toInt ≤ 2000) {Y0 : Nat → Bool} (hY0 : SrcY Y0) (hF0 : Pl n (iT tEa) (iT tHa) (foC n tBe) (mvb s.toInt (bM mMo) Y0) (mvf s.toInt (fM mMo) Y0) ∧ Len n T.toInt (mvf s.toInt (fM mMo) Y0))
    {mRm mOw : Nat → Int64} {mGo mFr mQu : Nat → Int32} {Q : Int32 → (Nat → Int32) → (Nat → Int64) → (Nat → Int64) → (Nat → Int32) → (Nat → Int32) → (Nat → Int32) → Prop}
    (hQ : ∀ (r : Int32) (mo : Nat → Int32) (m2 o2 : Nat → Int64) (g2 f2 q2 : Nat → Int32) (R : Nat → Bool), SrcY R → (∀ k, k < 24 → R k = true → k % 12 < n) → (r = 0 ↔ ∀ k, k < 24 → R k = false) → (∀ t, t < n → bM mo t = mvb s.toInt (bM mMo) R t ∧ fM mo t = mvf s.toInt (fM mMo) R t) →
      Pl n (iT tEa) (iT tHa) (foC n tBe) (mvb s.toInt (bM mMo) R) (mvf s.toInt (fM mMo) R) → Len n T.toInt (mvf s.toInt (fM mMo) R) →
      (∀ Y, SrcY Y → Pl n (iT tEa) (iT tHa) (foC n tBe) (mvb s.toInt (bM mMo) Y) (mvf s.toInt (fM mMo) Y) → Len n T.toInt (mvf s.toInt (fM mMo) Y) → Cost n (cT tKi tEa tPr tEx tSt) (mvb s.toInt (bM mMo) R) (mvf s.toInt (fM mMo) R) ≤ Cost n (cT tKi tEa tPr tEx tSt) (mvb s.toInt (bM mMo) Y) (mvf s.toInt (fM mMo) Y)) →
      (∀ Y, SrcY Y → Pl n (iT tEa) (iT tHa) (foC n tBe) (mvb s.toInt (bM mMo) Y) (mvf s.toInt (fM mMo) Y) → Len n T.toInt (mvf s.toInt (fM mMo) Y) → Cost n (cT tKi tEa tPr tEx tSt) (mvb s.toInt (bM mMo) Y) (mvf s.toInt (fM mMo) Y) ≤ Cost n (cT tKi tEa tPr tEx tSt) (mvb s.toInt (bM mMo) R) (mvf s.toInt (fM mMo) R) → ∀ k, k < 24 → R k = true → Y k = true) → Q r mo m2 o2 g2 f2 q2) :
    wp_X9_cut (nI n) pK pN pF mMo mRm mOw mGo mFr mQu s T Q := by
  have hn : n ≤ 12 := hT.2.1
  have hN := hT.2.2.1
  have hh : ∀ t, t < n → 0 ≤ iT tHa t := fun t ht => (hN t ht).2.2.1
  have fp := fun b f => fea_pl (n := n) (e := iT tEa) (h := iT tHa) (fo := foC n tBe) (T := T.toInt) (b := b) (f := f) foC_lt hh
  have hbd : ∀ t, t < n → ∀ y, iT tHa t ≤ y → y ≤ iT tEa t → 0 ≤ cT tKi tEa tPr tEx tSt t y ∧ cT tKi tEa tPr tEx tSt t y ≤ 12000000 := fun t ht y h1 h2 => cT_bd (hN t ht) h1 h2
  have hpn : ∀ t, t < n → iT tHa t ≤ fM mMo t - bM mMo t ∧ fM mMo t - bM mMo t ≤ iT tEa t := fun t ht => ⟨(hP t ht).2.1, (hP t ht).2.2.1⟩
  refine ex_room (fun m0 hz => ex_own (fun o0 ho0 => ?_))
  have tz : wp_X9_cut_L45 s T mMo pF pK pN (nI n) (fun (mRm_20 : Nat → Int64) (mOw_21 : Nat → Int64) => (∃ n273 : Nat, wp_X9_cut_L273 (nI n) mOw_21 (fun (mRm_70 : Nat → Int64) => (∃ n383 : Nat, wp_X9_cut_L383 (fun (mRm_90 : Nat → Int64) (mGo_91 : Nat → Int32) (mFr_92 : Nat → Int32) (mQu_93 : Nat → Int32) => (∃ n402 : Nat, wp_X9_cut_L402 s mGo_91 (fun (x3_103 : Int32) (mMo_104 : Nat → Int32) => (x3_103 = 0 ∨ x3_103 = 1) ∧ Q x3_103 mMo_104 mRm_90 mOw_21 mGo_91 mFr_92 mQu_93) n402 0 0 mMo)) n383 mRm_70 mGo mFr mQu)) n273 0 mRm_20)) (n + 1) (nI 0) m0 o0 := by
    refine cut_tasks hT hM hP hs hT0 (fun m1 ow h1 h2 h3 => ex_edges hn (K := n * 22517998220738560) (by omega) h1 h2 (fun r0 k1 k2 => ?_)) n 0 m0 o0 (by omega) ?_ ?_ ?_ ?_
    · exact cut_core hT hP hs hT0 hY0 hF0 h1 h2 h3 k1 k2 hQ
    · intro u v hu hv
      have : rm m0 u v = 0 := by unfold rm; rw [hz (26 * u + v) (by omega)]; rfl
      omega
    · intro i hi
      rw [ho0 i hi, L0i]; omega
    · intro t _ ht
      rw [ho0 t (by omega), ho0 (12 + t) (by omega)]; exact ⟨rfl, rfl⟩
    · intro Y hY
      have : cutv (rm m0) 26 Y = 0 := cutv_zero (fun a c ha hc _ _ => by unfold rm; rw [hz (26 * a + c) (by omega)]; rfl)
      refine ⟨fun _ => by rw [this]; unfold osum; rw [sT, sT]; rfl, fun q => absurd (fun t ht => absurd ht (by omega)) q⟩
  rw [nI_0] at tz
  exact ⟨_, tz⟩
end CUTALL
