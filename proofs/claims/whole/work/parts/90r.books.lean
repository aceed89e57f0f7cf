/-! books copied, acts remembered -/
section BOOKS
theorem be_k {X : (Nat → Int32) → (Nat → Int32) → Prop} {sK sS : Nat → Int32} (hX : ∀ K S : Nat → Int32, (∀ k, k < 12 → K k = sK k ∧ S k = sS k) → X K S) : ∀ (m i : Nat) (K S : Nat → Int32), i + m = 12 → (∀ k, k < i → K k = sK k ∧ S k = sS k) → wp_X8_be_L10 sK sS X (m + 1) (nI i) K S := by
  intro m
  induction m with
  | zero =>
    intro i K S hi h
    rw [wp_X8_be_L10]
    rw [show i = 12 by omega] at h ⊢
    exact pk_le 12 12 (fun _ => hX K S h) (fun q => absurd q (by omega))
  | succ m ih =>
    intro i K S hi h
    rw [wp_X8_be_L10]
    refine pk_le 12 i (fun q => absurd q (by omega)) (fun q => ?_)
    rw [cl_nI (by omega)]
    refine ⟨pk_in i 12 (by omega), pk_in i 12 (by omega), fun K' eK => ⟨pk_in i 12 (by omega), pk_in i 12 (by omega), fun S' eS y ey => ?_⟩⟩
    rw [ey, nI_1]
    refine ih (i + 1) K' S' (by omega) (fun k hk => ?_)
    rw [eK, eS]
    by_cases z : k = i
    · rw [z, upd_at, upd_at]; exact ⟨rfl, rfl⟩
    · rw [upd_ne z, upd_ne z]; exact h k (by omega)
theorem be_n {X : (Nat → Int32) → Prop} {sN : Nat → Int32} (hX : ∀ N : Nat → Int32, (∀ k, k < 60 → N k = sN k) → X N) : ∀ (m i : Nat) (N : Nat → Int32), i + m = 60 → (∀ k, k < i → N k = sN k) → wp_X8_be_L48 sN X (m + 1) (nI i) N := by
  intro m
  induction m with
  | zero =>
    intro i N hi h
    rw [wp_X8_be_L48]
    rw [show i = 60 by omega] at h ⊢
    exact pk_le 60 60 (fun _ => hX N h) (fun q => absurd q (by omega))
  | succ m ih =>
    intro i N hi h
    rw [wp_X8_be_L48]
    refine pk_le 60 i (fun q => absurd q (by omega)) (fun q => ?_)
    rw [cl_nI (by omega)]
    refine ⟨pk_in i 60 (by omega), pk_in i 60 (by omega), fun N' eN y ey => ?_⟩
    rw [ey, nI_1]
    refine ih (i + 1) N' (by omega) (fun k hk => ?_)
    rw [eN]
    by_cases z : k = i
    · rw [z, upd_at]
    · rw [upd_ne z]; exact h k (by omega)
theorem be_f {X : (Nat → Int32) → Prop} {sF : Nat → Int32} (hs : ∀ k, k < 144 → sF k = 0 ∨ sF k = 1) (hX : ∀ F : Nat → Int32, (∀ k, k < 144 → F k = sF k) → X F) : ∀ (m i : Nat) (F : Nat → Int32), i + m = 144 → (∀ k, k < i → F k = sF k) → wp_X8_be_L74 sF X (m + 1) (nI i) F := by
  intro m
  induction m with
  | zero =>
    intro i F hi h
    rw [wp_X8_be_L74]
    rw [show i = 144 by omega] at h ⊢
    exact pk_le 144 144 (fun _ => hX F h) (fun q => absurd q (by omega))
  | succ m ih =>
    intro i F hi h
    rw [wp_X8_be_L74]
    refine pk_le 144 i (fun q => absurd q (by omega)) (fun q => ?_)
    rw [cl_nI (by omega), nar_b (hs i (by omega))]
    refine ⟨pk_in i 144 (by omega), pk_in i 144 (by omega), fun F' eF y ey => ?_⟩
    rw [ey, nI_1]
    refine ih (i + 1) F' (by omega) (fun k hk => ?_)
    rw [eF]
    by_cases z : k = i
    · rw [z, upd_at]
    · rw [upd_ne z]; exact h k (by omega)
theorem wp_be {pT qT : Int32} {pK pN pF pS qK qN qF qS : Nat → Int32} {Q : Int32 → (Nat → Int32) → (Nat → Int32) → (Nat → Int32) → (Nat → Int32) → Prop} (hs : ∀ k, k < 144 → pF k = 0 ∨ pF k = 1) (hQ : ∀ (T : Int32) (K N F S : Nat → Int32), pT = T → (∀ k, k < 12 → pK k = K k) → (∀ k, k < 60 → pN k = N k) → (∀ k, k < 144 → pF k = F k) → (∀ k, k < 12 → pS k = S k) → Q T K N F S) : wp_X8_be pT pK pN pF pS qT qK qN qF qS Q := fun t et => ⟨13, be_k (fun K S hKS => ⟨61, be_n (fun N hN => ⟨145, be_f hs (fun F hF => hQ t K N F S et.symm (fun k hk => (hKS k hk).1.symm) (fun k hk => (hN k hk).symm) (fun k hk => (hF k hk).symm) (fun k hk => (hKS k hk).2.symm)) 144 0 _ (by omega) (fun k hk => absurd hk (by omega))⟩) 60 0 _ (by omega) (fun k hk => absurd hk (by omega))⟩) 12 0 _ _ (by omega) (fun k hk => absurd hk (by omega))⟩
theorem be_2_k {X : (Nat → Int32) → (Nat → Int32) → Prop} {sK sS : Nat → Int32} (hX : ∀ K S : Nat → Int32, (∀ k, k < 12 → K k = sK k ∧ S k = sS k) → X K S) : ∀ (m i : Nat) (K S : Nat → Int32), i + m = 12 → (∀ k, k < i → K k = sK k ∧ S k = sS k) → wp_X8_be_2_L10 sK sS X (m + 1) (nI i) K S := by
  intro m
  induction m with
  | zero =>
    intro i K S hi h
    rw [wp_X8_be_2_L10]
    rw [show i = 12 by omega] at h ⊢
    exact pk_le 12 12 (fun _ => hX K S h) (fun q => absurd q (by omega))
  | succ m ih =>
    intro i K S hi h
    rw [wp_X8_be_2_L10]
    refine pk_le 12 i (fun q => absurd q (by omega)) (fun q => ?_)
    rw [cl_nI (by omega)]
    refine ⟨pk_in i 12 (by omega), pk_in i 12 (by omega), fun K' eK => ⟨pk_in i 12 (by omega), pk_in i 12 (by omega), fun S' eS y ey => ?_⟩⟩
    rw [ey, nI_1]
    refine ih (i + 1) K' S' (by omega) (fun k hk => ?_)
    rw [eK, eS]
    by_cases z : k = i
    · rw [z, upd_at, upd_at]; exact ⟨rfl, rfl⟩
    · rw [upd_ne z, upd_ne z]; exact h k (by omega)
theorem be_2_n {X : (Nat → Int32) → Prop} {sN : Nat → Int32} (hX : ∀ N : Nat → Int32, (∀ k, k < 60 → N k = sN k) → X N) : ∀ (m i : Nat) (N : Nat → Int32), i + m = 60 → (∀ k, k < i → N k = sN k) → wp_X8_be_2_L48 sN X (m + 1) (nI i) N := by
  intro m
  induction m with
  | zero =>
    intro i N hi h
    rw [wp_X8_be_2_L48]
    rw [show i = 60 by omega] at h ⊢
    exact pk_le 60 60 (fun _ => hX N h) (fun q => absurd q (by omega))
  | succ m ih =>
    intro i N hi h
    rw [wp_X8_be_2_L48]
    refine pk_le 60 i (fun q => absurd q (by omega)) (fun q => ?_)
    rw [cl_nI (by omega)]
    refine ⟨pk_in i 60 (by omega), pk_in i 60 (by omega), fun N' eN y ey => ?_⟩
    rw [ey, nI_1]
    refine ih (i + 1) N' (by omega) (fun k hk => ?_)
    rw [eN]
    by_cases z : k = i
    · rw [z, upd_at]
    · rw [upd_ne z]; exact h k (by omega)
theorem be_2_f {X : (Nat → Int32) → Prop} {sF : Nat → Int32} (hs : ∀ k, k < 144 → sF k = 0 ∨ sF k = 1) (hX : ∀ F : Nat → Int32, (∀ k, k < 144 → F k = sF k) → X F) : ∀ (m i : Nat) (F : Nat → Int32), i + m = 144 → (∀ k, k < i → F k = sF k) → wp_X8_be_2_L74 sF X (m + 1) (nI i) F := by
  intro m
  induction m with
  | zero =>
    intro i F hi h
    rw [wp_X8_be_2_L74]
    rw [show i = 144 by omega] at h ⊢
    exact pk_le 144 144 (fun _ => hX F h) (fun q => absurd q (by omega))
  | succ m ih =>
    intro i F hi h
    rw [wp_X8_be_2_L74]
    refine pk_le 144 i (fun q => absurd q (by omega)) (fun q => ?_)
    rw [cl_nI (by omega), nar_b (hs i (by omega))]
    refine ⟨pk_in i 144 (by omega), pk_in i 144 (by omega), fun F' eF y ey => ?_⟩
    rw [ey, nI_1]
    refine ih (i + 1) F' (by omega) (fun k hk => ?_)
    rw [eF]
    by_cases z : k = i
    · rw [z, upd_at]
    · rw [upd_ne z]; exact h k (by omega)
theorem wp_be_2 {pT qT : Int32} {pK pN pF pS qK qN qF qS : Nat → Int32} {Q : Int32 → (Nat → Int32) → (Nat → Int32) → (Nat → Int32) → (Nat → Int32) → Prop} (hs : ∀ k, k < 144 → qF k = 0 ∨ qF k = 1) (hQ : ∀ (T : Int32) (K N F S : Nat → Int32), qT = T → (∀ k, k < 12 → qK k = K k) → (∀ k, k < 60 → qN k = N k) → (∀ k, k < 144 → qF k = F k) → (∀ k, k < 12 → qS k = S k) → Q T K N F S) : wp_X8_be_2 pT pK pN pF pS qT qK qN qF qS Q := fun t et => ⟨13, be_2_k (fun K S hKS => ⟨61, be_2_n (fun N hN => ⟨145, be_2_f hs (fun F hF => hQ t K N F S et.symm (fun k hk => (hKS k hk).1.symm) (fun k hk => (hN k hk).symm) (fun k hk => (hF k hk).symm) (fun k hk => (hKS k hk).2.symm)) 144 0 _ (by omega) (fun k hk => absurd hk (by omega))⟩) 60 0 _ (by omega) (fun k hk => absurd hk (by omega))⟩) 12 0 _ _ (by omega) (fun k hk => absurd hk (by omega))⟩
theorem be_3_k {X : (Nat → Int32) → (Nat → Int32) → Prop} {sK sS : Nat → Int32} (hX : ∀ K S : Nat → Int32, (∀ k, k < 12 → K k = sK k ∧ S k = sS k) → X K S) : ∀ (m i : Nat) (K S : Nat → Int32), i + m = 12 → (∀ k, k < i → K k = sK k ∧ S k = sS k) → wp_X8_be_3_L10 sK sS X (m + 1) (nI i) K S := by
  intro m
  induction m with
  | zero =>
    intro i K S hi h
    rw [wp_X8_be_3_L10]
    rw [show i = 12 by omega] at h ⊢
    exact pk_le 12 12 (fun _ => hX K S h) (fun q => absurd q (by omega))
  | succ m ih =>
    intro i K S hi h
    rw [wp_X8_be_3_L10]
    refine pk_le 12 i (fun q => absurd q (by omega)) (fun q => ?_)
    rw [cl_nI (by omega)]
    refine ⟨pk_in i 12 (by omega), pk_in i 12 (by omega), fun K' eK => ⟨pk_in i 12 (by omega), pk_in i 12 (by omega), fun S' eS y ey => ?_⟩⟩
    rw [ey, nI_1]
    refine ih (i + 1) K' S' (by omega) (fun k hk => ?_)
    rw [eK, eS]
    by_cases z : k = i
    · rw [z, upd_at, upd_at]; exact ⟨rfl, rfl⟩
    · rw [upd_ne z, upd_ne z]; exact h k (by omega)
theorem be_3_n {X : (Nat → Int32) → Prop} {sN : Nat → Int32} (hX : ∀ N : Nat → Int32, (∀ k, k < 60 → N k = sN k) → X N) : ∀ (m i : Nat) (N : Nat → Int32), i + m = 60 → (∀ k, k < i → N k = sN k) → wp_X8_be_3_L48 sN X (m + 1) (nI i) N := by
  intro m
  induction m with
  | zero =>
    intro i N hi h
    rw [wp_X8_be_3_L48]
    rw [show i = 60 by omega] at h ⊢
    exact pk_le 60 60 (fun _ => hX N h) (fun q => absurd q (by omega))
  | succ m ih =>
    intro i N hi h
    rw [wp_X8_be_3_L48]
    refine pk_le 60 i (fun q => absurd q (by omega)) (fun q => ?_)
    rw [cl_nI (by omega)]
    refine ⟨pk_in i 60 (by omega), pk_in i 60 (by omega), fun N' eN y ey => ?_⟩
    rw [ey, nI_1]
    refine ih (i + 1) N' (by omega) (fun k hk => ?_)
    rw [eN]
    by_cases z : k = i
    · rw [z, upd_at]
    · rw [upd_ne z]; exact h k (by omega)
theorem be_3_f {X : (Nat → Int32) → Prop} {sF : Nat → Int32} (hs : ∀ k, k < 144 → sF k = 0 ∨ sF k = 1) (hX : ∀ F : Nat → Int32, (∀ k, k < 144 → F k = sF k) → X F) : ∀ (m i : Nat) (F : Nat → Int32), i + m = 144 → (∀ k, k < i → F k = sF k) → wp_X8_be_3_L74 sF X (m + 1) (nI i) F := by
  intro m
  induction m with
  | zero =>
    intro i F hi h
    rw [wp_X8_be_3_L74]
    rw [show i = 144 by omega] at h ⊢
    exact pk_le 144 144 (fun _ => hX F h) (fun q => absurd q (by omega))
  | succ m ih =>
    intro i F hi h
    rw [wp_X8_be_3_L74]
    refine pk_le 144 i (fun q => absurd q (by omega)) (fun q => ?_)
    rw [cl_nI (by omega), nar_b (hs i (by omega))]
    refine ⟨pk_in i 144 (by omega), pk_in i 144 (by omega), fun F' eF y ey => ?_⟩
    rw [ey, nI_1]
    refine ih (i + 1) F' (by omega) (fun k hk => ?_)
    rw [eF]
    by_cases z : k = i
    · rw [z, upd_at]
    · rw [upd_ne z]; exact h k (by omega)
theorem wp_be_3 {pT qT : Int32} {pK pN pF pS qK qN qF qS : Nat → Int32} {Q : (Nat → Int32) → (Nat → Int32) → (Nat → Int32) → (Nat → Int32) → Int32 → Prop} (hs : ∀ k, k < 144 → pF k = 0 ∨ pF k = 1) (hQ : ∀ (T : Int32) (K N F S : Nat → Int32), pT = T → (∀ k, k < 12 → pK k = K k) → (∀ k, k < 60 → pN k = N k) → (∀ k, k < 144 → pF k = F k) → (∀ k, k < 12 → pS k = S k) → Q F K N S T) : wp_X8_be_3 qF qK qN qS qT pT pK pN pF pS Q := fun t et => ⟨13, be_3_k (fun K S hKS => ⟨61, be_3_n (fun N hN => ⟨145, be_3_f hs (fun F hF => hQ t K N F S et.symm (fun k hk => (hKS k hk).1.symm) (fun k hk => (hN k hk).symm) (fun k hk => (hF k hk).symm) (fun k hk => (hKS k hk).2.symm)) 144 0 _ (by omega) (fun k hk => absurd hk (by omega))⟩) 60 0 _ (by omega) (fun k hk => absurd hk (by omega))⟩) 12 0 _ _ (by omega) (fun k hk => absurd hk (by omega))⟩
theorem be_4_k {X : (Nat → Int32) → (Nat → Int32) → Prop} {sK sS : Nat → Int32} (hX : ∀ K S : Nat → Int32, (∀ k, k < 12 → K k = sK k ∧ S k = sS k) → X K S) : ∀ (m i : Nat) (K S : Nat → Int32), i + m = 12 → (∀ k, k < i → K k = sK k ∧ S k = sS k) → wp_X8_be_4_L10 sK sS X (m + 1) (nI i) K S := by
  intro m
  induction m with
  | zero =>
    intro i K S hi h
    rw [wp_X8_be_4_L10]
    rw [show i = 12 by omega] at h ⊢
    exact pk_le 12 12 (fun _ => hX K S h) (fun q => absurd q (by omega))
  | succ m ih =>
    intro i K S hi h
    rw [wp_X8_be_4_L10]
    refine pk_le 12 i (fun q => absurd q (by omega)) (fun q => ?_)
    rw [cl_nI (by omega)]
    refine ⟨pk_in i 12 (by omega), pk_in i 12 (by omega), fun K' eK => ⟨pk_in i 12 (by omega), pk_in i 12 (by omega), fun S' eS y ey => ?_⟩⟩
    rw [ey, nI_1]
    refine ih (i + 1) K' S' (by omega) (fun k hk => ?_)
    rw [eK, eS]
    by_cases z : k = i
    · rw [z, upd_at, upd_at]; exact ⟨rfl, rfl⟩
    · rw [upd_ne z, upd_ne z]; exact h k (by omega)
theorem be_4_n {X : (Nat → Int32) → Prop} {sN : Nat → Int32} (hX : ∀ N : Nat → Int32, (∀ k, k < 60 → N k = sN k) → X N) : ∀ (m i : Nat) (N : Nat → Int32), i + m = 60 → (∀ k, k < i → N k = sN k) → wp_X8_be_4_L48 sN X (m + 1) (nI i) N := by
  intro m
  induction m with
  | zero =>
    intro i N hi h
    rw [wp_X8_be_4_L48]
    rw [show i = 60 by omega] at h ⊢
    exact pk_le 60 60 (fun _ => hX N h) (fun q => absurd q (by omega))
  | succ m ih =>
    intro i N hi h
    rw [wp_X8_be_4_L48]
    refine pk_le 60 i (fun q => absurd q (by omega)) (fun q => ?_)
    rw [cl_nI (by omega)]
    refine ⟨pk_in i 60 (by omega), pk_in i 60 (by omega), fun N' eN y ey => ?_⟩
    rw [ey, nI_1]
    refine ih (i + 1) N' (by omega) (fun k hk => ?_)
    rw [eN]
    by_cases z : k = i
    · rw [z, upd_at]
    · rw [upd_ne z]; exact h k (by omega)
theorem be_4_f {X : (Nat → Int32) → Prop} {sF : Nat → Int32} (hs : ∀ k, k < 144 → sF k = 0 ∨ sF k = 1) (hX : ∀ F : Nat → Int32, (∀ k, k < 144 → F k = sF k) → X F) : ∀ (m i : Nat) (F : Nat → Int32), i + m = 144 → (∀ k, k < i → F k = sF k) → wp_X8_be_4_L74 sF X (m + 1) (nI i) F := by
  intro m
  induction m with
  | zero =>
    intro i F hi h
    rw [wp_X8_be_4_L74]
    rw [show i = 144 by omega] at h ⊢
    exact pk_le 144 144 (fun _ => hX F h) (fun q => absurd q (by omega))
  | succ m ih =>
    intro i F hi h
    rw [wp_X8_be_4_L74]
    refine pk_le 144 i (fun q => absurd q (by omega)) (fun q => ?_)
    rw [cl_nI (by omega), nar_b (hs i (by omega))]
    refine ⟨pk_in i 144 (by omega), pk_in i 144 (by omega), fun F' eF y ey => ?_⟩
    rw [ey, nI_1]
    refine ih (i + 1) F' (by omega) (fun k hk => ?_)
    rw [eF]
    by_cases z : k = i
    · rw [z, upd_at]
    · rw [upd_ne z]; exact h k (by omega)
theorem wp_be_4 {pT qT : Int32} {pK pN pF pS qK qN qF qS : Nat → Int32} {Q : Int32 → (Nat → Int32) → (Nat → Int32) → (Nat → Int32) → (Nat → Int32) → Prop} (hs : ∀ k, k < 144 → qF k = 0 ∨ qF k = 1) (hQ : ∀ (T : Int32) (K N F S : Nat → Int32), qT = T → (∀ k, k < 12 → qK k = K k) → (∀ k, k < 60 → qN k = N k) → (∀ k, k < 144 → qF k = F k) → (∀ k, k < 12 → qS k = S k) → Q T K N F S) : wp_X8_be_4 qF qK qN qS qT pT pK pN pF pS Q := fun t et => ⟨13, be_4_k (fun K S hKS => ⟨61, be_4_n (fun N hN => ⟨145, be_4_f hs (fun F hF => hQ t K N F S et.symm (fun k hk => (hKS k hk).1.symm) (fun k hk => (hN k hk).symm) (fun k hk => (hF k hk).symm) (fun k hk => (hKS k hk).2.symm)) 144 0 _ (by omega) (fun k hk => absurd hk (by omega))⟩) 60 0 _ (by omega) (fun k hk => absurd hk (by omega))⟩) 12 0 _ _ (by omega) (fun k hk => absurd hk (by omega))⟩
theorem cpy12 (f g : Nat → Int32) {t : Nat} (ht : t < 12) : va_cpy f g (Int32.toNatClampNeg 0) (Int32.toNatClampNeg 0) (Int32.toNatClampNeg 12) t = f t := by
  have e0 : Int32.toNatClampNeg 0 = 0 := rfl
  have e12 : Int32.toNatClampNeg 12 = 12 := rfl
  rw [e0, e12]
  unfold va_cpy
  rw [if_pos (by omega), show 0 + (t - 0) = t by omega]
/-- one more act of the class -/
theorem wp_add {a j d : Nat} (hj : j + d = a) (hj2 : j ≤ 29) (hd : d = 0 ∨ (d = 1 ∧ j = 29)) {aWh aTa aWa : Nat → Int32} {w t v : Int32} {Q : Int32 → (Nat → Int32) → (Nat → Int32) → (Nat → Int32) → Prop} (hQ : ∀ W T A : Nat → Int32, (∀ i, i < j → W i = aWh (i + d) ∧ T i = aTa (i + d) ∧ A i = aWa (i + d)) → W j = w → T j = t → A j = v → Q (nI (j + 1)) W T A) : wp_X0_add (nI a) aWh aTa aWa w t v Q := by
  have b66 : ∀ W0 T0 A0 : Nat → Int32, (∀ i, i < j → W0 i = aWh (i + d) ∧ T0 i = aTa (i + d) ∧ A0 i = aWa (i + d)) → wp_X0_add_b66 Q w t v (nI j) W0 T0 A0 := fun W0 T0 A0 h => by
    unfold wp_X0_add_b66
    rw [cl_nI (by omega)]
    refine ⟨pk_in j 30 (by omega), fun W eW => ⟨pk_in j 30 (by omega), fun T eT => ⟨pk_in j 30 (by omega), fun A eA c ec => ?_⟩⟩⟩
    rw [ec, nI_1]
    refine hQ W T A (fun i hi => ?_) (by rw [eW, upd_at]) (by rw [eT, upd_at]) (by rw [eA, upd_at])
    rw [eW, eT, eA, upd_ne (by omega), upd_ne (by omega), upd_ne (by omega)]
    exact h i hi
  have e30 : (30 : Int32).toInt = 30 := rfl
  unfold wp_X0_add
  rw [i_lt, e30, nI_toInt (show a < 2 ^ 31 by omega)]
  rcases hd with z | ⟨z1, z2⟩
  · subst z
    rw [show a = j by omega]
    exact ⟨fun _ => b66 aWh aTa aWa (fun i _ => ⟨rfl, rfl, rfl⟩), fun q => absurd (by omega) q⟩
  · subst z1
    subst z2
    refine ⟨fun q => absurd q (by omega), fun _ c ec => ?_⟩
    have ec' : c = nI 29 := ec
    have e1 : Int32.toNatClampNeg 1 = 1 := rfl
    have e0 : Int32.toNatClampNeg 0 = 0 := rfl
    have cp : ∀ (f : Nat → Int32) (i : Nat), i < 29 → va_cpy f f 1 0 29 i = f (i + 1) := fun f i hi => by
      unfold va_cpy
      rw [if_pos (by omega), show 1 + (i - 0) = i + 1 by omega]
    rw [ec', e1, e0, cl_nI (k := 29) (by omega)]
    refine ⟨by decide, by decide, by decide, by decide, by decide, fun W0 eW => ⟨by decide, by decide, by decide, by decide, by decide, fun T0 eT => ⟨by decide, by decide, by decide, by decide, by decide, fun A0 eA => b66 W0 T0 A0 (fun i hi => ?_)⟩⟩⟩
    rw [eW, eT, eA, cp _ i hi, cp _ i hi, cp _ i hi]
    exact ⟨rfl, rfl, rfl⟩
theorem rem_loop {mUS : Nat → Int32} {ub : Nat → Nat} (hu : ∀ i, i < 30 → ub i < 30) (hs : ∀ i, i < 30 → mUS i = 0 ∨ mUS i = 1) {X : (Nat → Int32) → (Nat → Nat) → Prop} (hX : ∀ (U : Nat → Int32) (b : Nat → Nat), (∀ i, i < 29 → U i = mUS (i + 1) ∧ b i = ub (i + 1)) → X U b) :
    ∀ (m i : Nat) (U : Nat → Int32) (b : Nat → Nat), i + m = 29 → (∀ u, u < i → U u = mUS (u + 1) ∧ b u = ub (u + 1)) → (∀ u, i ≤ u → U u = mUS u ∧ b u = ub u) → wp_X9_remember_L18 X (m + 1) (nI (i + 1)) U b := by
  intro m
  induction m with
  | zero =>
    intro i U b hi h1 h2
    rw [wp_X9_remember_L18]
    rw [show i = 29 by omega] at h1 ⊢
    exact pk_le 30 30 (fun _ => hX U b h1) (fun q => absurd q (by omega))
  | succ m ih =>
    intro i U b hi h1 h2
    rw [wp_X9_remember_L18]
    refine pk_le 30 (i + 1) (fun q => absurd q (by omega)) (fun q => ?_)
    rw [nI_pred, cl_nI (by omega), cl_nI (by omega)]
    have k := h2 (i + 1) (by omega)
    rw [k.1, k.2, nar_b (hs (i + 1) (by omega))]
    refine ⟨pk_in (i + 1) 30 (by omega), hu (i + 1) (by omega), pk_in i 30 (by omega), fun b' eb => ⟨pk_in (i + 1) 30 (by omega), pk_in i 30 (by omega), fun U' eU y ey => ?_⟩⟩
    rw [ey, nI_1]
    refine ih (i + 1) U' b' (by omega) (fun u hu => ?_) (fun u hu => ?_)
    · rw [eU, eb]
      by_cases z : u = i
      · rw [z, upd_at, va_up_at]; exact ⟨rfl, rfl⟩
      · rw [upd_ne z, va_up_of _ _ _ z]; exact h1 u (by omega)
    · rw [eU, eb, upd_ne (by omega), va_up_of _ _ _ (by omega)]; exact h2 u (by omega)
/-- one more book remembered -/
theorem wp_rem {a j d : Nat} (hj : j + d = a) (hj2 : j ≤ 29) (hd : d = 0 ∨ (d = 1 ∧ j = 29)) {pT mAK mIP s : Int32} {pK pN pF pS mUS : Nat → Int32} {ub : Nat → Nat} {uT : Nat → Int32} {uK uN uF uS : Nat → Nat → Int32} (hs : s = 0 ∨ s = 1) (hpF : ∀ k, k < 144 → pF k = 0 ∨ pF k = 1) (hui : (∀ i, i < 30 → ub i < 30) ∧ ∀ i j, i < 30 → j < 30 → ub i = ub j → i = j) (hus : ∀ i, i < a → mUS i = 0 ∨ mUS i = 1) {Q : Int32 → Int32 → Int32 → (Nat → Int32) → (Nat → Nat) → (Nat → Int32) → (Nat → Nat → Int32) → (Nat → Nat → Int32) → (Nat → Nat → Int32) → (Nat → Nat → Int32) → Prop}
    (hQ : ∀ (ak ip : Int32) (U : Nat → Int32) (b : Nat → Nat) (T : Nat → Int32) (K N F S : Nat → Nat → Int32), (s = 0 → ak = 0 ∧ ip = 0) → (s = 1 → ak = mAK ∧ ip = mIP) → (∀ i, i < j → U i = mUS (i + d) ∧ T (b i) = uT (ub (i + d)) ∧ K (b i) = uK (ub (i + d)) ∧ N (b i) = uN (ub (i + d)) ∧ F (b i) = uF (ub (i + d)) ∧ S (b i) = uS (ub (i + d))) → U j = s → pT = T (b j) → (∀ k, k < 12 → pK k = K (b j) k) → (∀ k, k < 60 → pN k = N (b j) k) → (∀ k, k < 144 → pF k = F (b j) k) → (∀ k, k < 12 → pS k = S (b j) k) → ((∀ i, i < 30 → b i < 30) ∧ ∀ i j, i < 30 → j < 30 → b i = b j → i = j) → Q (nI (j + 1)) ak ip U b T K N F S) : wp_X9_remember pT pK pN pF pS (nI a) mAK mIP mUS ub uT uK uN uF uS s Q := by
  have b76 : ∀ (U0 : Nat → Int32) (b : Nat → Nat), (∀ i, i < j → U0 i = mUS (i + d) ∧ b i = ub (i + d)) → ((∀ i, i < 30 → b i < 30) ∧ ∀ i j, i < 30 → j < 30 → b i = b j → i = j) → wp_X9_remember_b76 Q s pF pK pN pS pT (nI j) mAK mIP U0 b uT uK uN uF uS := fun U0 b h hb => by
    unfold wp_X9_remember_b76
    rw [cl_nI (by omega), nar_b hs]
    refine ⟨pk_in j 30 (by omega), hb.1 j (by omega), wp_be_3 hpF (fun T K N F S h0 h1 h2 h3 h4 => ⟨pk_in j 30 (by omega), fun U eU c ec => ?_⟩)⟩
    have nj : ∀ i, i < j → b i ≠ b j := fun i hi e => by
      have := hb.2 i j (by omega) (by omega) e; omega
    have fin : ∀ ak ip : Int32, (s = 0 → ak = 0 ∧ ip = 0) → (s = 1 → ak = mAK ∧ ip = mIP) → Q c ak ip U b (va_up uT (b j) T) (va_up uK (b j) K) (va_up uN (b j) N) (va_up uF (b j) F) (va_up uS (b j) S) := fun ak ip g1 g2 => by
      rw [ec, nI_1]
      refine hQ ak ip U b _ _ _ _ _ g1 g2 (fun i hi => ?_) (by rw [eU, upd_at]) (by rw [va_up_at]; exact h0) (by rw [va_up_at]; exact h1) (by rw [va_up_at]; exact h2) (by rw [va_up_at]; exact h3) (by rw [va_up_at]; exact h4) hb
      rw [eU, upd_ne (by omega), va_up_of _ _ _ (nj i hi), va_up_of _ _ _ (nj i hi), va_up_of _ _ _ (nj i hi), va_up_of _ _ _ (nj i hi), va_up_of _ _ _ (nj i hi), (h i hi).1, (h i hi).2]
      exact ⟨rfl, rfl, rfl, rfl, rfl, rfl⟩
    refine ⟨fun z => fin mAK mIP (fun e => absurd e z) (fun _ => ⟨rfl, rfl⟩), fun z ip eip ak eak => fin ak ip (fun _ => ⟨eak, eip⟩) (fun e => absurd (by rw [← z, e]) (show ¬ (1 : Int32) = 0 by decide))⟩
  rcases hd with z | ⟨z1, z2⟩
  · subst z
    rw [show a = j by omega]
    exact ⟨fun _ => b76 mUS ub (fun i _ => ⟨rfl, rfl⟩) hui, fun e => absurd ((nI_eq (a := j) (b := 30) (by omega) (by omega)).mp e) (by omega)⟩
  · subst z1
    subst z2
    rw [show a = 30 by omega]
    have c29 : Int32.toNatClampNeg 29 = 29 := rfl
    refine ⟨fun e => absurd rfl e, fun _ => ⟨pk_in 0 30 (by omega), hui.1 0 (by omega), ?_⟩⟩
    have key := rem_loop hui.1 (fun i hi => hus i (by omega)) (X := fun mUS_29 ub_30 => vp_in 29 30 ∧ ∀ ub_39 : Nat → Nat, ub_39 = va_up ub_30 (Int32.toNatClampNeg 29) (ub (Int32.toNatClampNeg 0)) → ∀ mUn_41 : Int32, mUn_41 = (nI 30 - 1) → wp_X9_remember_b76 Q s pF pK pN pS pT mUn_41 mAK mIP mUS_29 ub_39 uT uK uN uF uS) (fun U b h => ⟨pk_in 29 30 (by omega), fun b' eb u eu => ?_⟩) 29 0 mUS ub (by omega) (fun u hu => absurd hu (by omega)) (fun u _ => ⟨rfl, rfl⟩)
    · exact ⟨_, key⟩
    · rw [eu, show nI 30 - 1 = nI 29 from nI_pred 29]
      have e0 : Int32.toNatClampNeg 0 = 0 := rfl
      rw [c29, e0] at eb
      have bl : ∀ i, i < 29 → b' i = ub (i + 1) := fun i hi => by rw [eb, va_up_of _ _ _ (by omega)]; exact (h i hi).2
      have b29 : b' 29 = ub 0 := by rw [eb, va_up_at]
      refine b76 U b' (fun i hi => ⟨(h i hi).1, bl i hi⟩) ⟨fun i hi => ?_, fun i k hi hk e => ?_⟩
      · rcases Nat.lt_or_ge i 29 with z | z
        · rw [bl i z]; exact hui.1 _ (by omega)
        · rw [show i = 29 by omega, b29]; exact hui.1 _ (by omega)
      · rcases Nat.lt_or_ge i 29 with z | z
        · rcases Nat.lt_or_ge k 29 with y | y
          · rw [bl i z, bl k y] at e
            have := hui.2 _ _ (by omega) (by omega) e; omega
          · rw [bl i z, show k = 29 by omega, b29] at e
            have := hui.2 _ _ (by omega) (by omega) e; omega
        · rcases Nat.lt_or_ge k 29 with y | y
          · rw [bl k y, show i = 29 by omega, b29] at e
            have := hui.2 _ _ (by omega) (by omega) e; omega
          · omega
theorem UL.us {tKi tEa tHa tPr tEx tSt aWh aTa aWa mUS : Nat → Int32} {ub : Nat → Nat} {uT : Nat → Int32} {uK uN uF uS : Nat → Nat → Int32} : ∀ (j n : Nat) (tTo tBe : Nat → Int32), UL tKi tEa tHa tPr tEx tSt aWh aTa aWa mUS ub uT uK uN uF uS j n tTo tBe → ∀ i, i < j → mUS i = 0 ∨ mUS i = 1 := by
  intro j
  induction j with
  | zero => intro n tTo tBe _ i hi; omega
  | succ j ih =>
    intro n tTo tBe H i hi
    obtain ⟨n', to', be', hc, _, hu⟩ := H
    rcases Nat.lt_or_ge i j with z | z
    · exact ih n' to' be' hu i z
    · rw [show i = j by omega]
      rcases hc with ⟨_, c, _⟩ | ⟨_, c, _⟩ | ⟨_, c, _⟩
      · exact Or.inl c
      · exact Or.inl c
      · exact Or.inr c
theorem jd_ex {a : Nat} (ha : a ≤ 30) : ∃ j d, j + d = a ∧ j ≤ 29 ∧ (d = 0 ∨ (d = 1 ∧ j = 29)) := by
  rcases Nat.lt_or_ge a 30 with z | z
  · exact ⟨a, 0, by omega, by omega, Or.inl rfl⟩
  · exact ⟨29, 1, by omega, by omega, Or.inr ⟨rfl, rfl⟩⟩
end BOOKS
