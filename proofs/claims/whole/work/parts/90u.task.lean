/-! steps: task -/
def nd : Nat → Nat := fun k => match k with | 0 => 3 | 1 => 1 | 2 => 5 | 3 => 1 | _ => 4
theorem nd_bd (k : Nat) : 1 ≤ nd k ∧ nd k ≤ 5 := by unfold nd; split <;> omega
theorem nd_am {k : Nat} (hk : k < 5) : am_taken k = nI (nd k) := by
  match k, hk with
  | 0, _ => rfl
  | 1, _ => rfl
  | 2, _ => rfl
  | 3, _ => rfl
  | 4, _ => rfl
/-- the numbers of a board hold a task of a kind -/
def GoodR (kd : Nat) (R : Nat → Int64) : Prop := (0 ≤ (R 0).toInt ∧ (R 0).toInt ≤ 60) ∧ (1 < nd kd → (0 ≤ (R 1).toInt ∧ (R 1).toInt ≤ (R 0).toInt) ∧ 0 ≤ (R 2).toInt ∧ (R 2).toInt ≤ 100000) ∧ (kd = 2 → (0 ≤ (R 3).toInt ∧ (R 3).toInt ≤ 60) ∧ 0 ≤ (R 4).toInt ∧ (R 4).toInt ≤ 100000) ∧ (kd = 4 → 0 ≤ (R 3).toInt ∧ (R 3).toInt ≤ 100000)
section STEPU
variable {n a : Nat} {tKi tEa tHa tPr tEx tSt tTo tBe : Nat → Int32} {pK pN pF pS mUS : Nat → Int32} {mFi mAK mIP : Int32} {sp mRo : Nat → Int64} {ub : Nat → Nat} {uT : Nat → Int32} {uK uN uF uS : Nat → Nat → Int32}
theorem wp_kd7 {v : Int32} {Q : Int32 → Prop} (h1 : ∀ k, k < 5 → v = nI k → Q 1) (h0 : ¬ (0 ≤ v.toInt ∧ v.toInt < 5) → Q 0) : wp_X7_isKind v Q := by
  have e0 : (0 : Int32).toInt = 0 := rfl
  have e5 : (5 : Int32).toInt = 5 := rfl
  unfold wp_X7_isKind
  rw [i_lt, i_le, e0, e5]
  exact ⟨fun q => h0 (by omega), fun q => ⟨fun q2 => h0 (by omega), fun q2 => h1 v.toInt.toNat (by omega) (of_toInt (by omega))⟩⟩
theorem wp_kd9 {v : Int32} {Q : Int32 → Prop} (h1 : ∀ k, k < 5 → v = nI k → Q 1) (h0 : ¬ (0 ≤ v.toInt ∧ v.toInt < 5) → Q 0) : wp_X9_in (Int32.toInt64 v) 0 4 Q := by
  have e0 : (0 : Int64).toInt = 0 := rfl
  have e4 : (4 : Int64).toInt = 4 := rfl
  refine wp_in (fun q => ?_) (fun q => h0 ?_)
  · rw [l_of, e0, e4] at q
    exact h1 v.toInt.toNat (by omega) (of_toInt (by omega))
  · rw [l_of, e0, e4] at q
    omega
theorem nI_k {k : Nat} {v : Int32} (hk : k < 5) (e : v = nI k) : 0 ≤ v.toInt ∧ v.toInt < 5 := by
  rw [e, nI_toInt (by omega)]; omega
theorem wp_nd {k : Nat} (hk : k < 5) {Q : Int32 → Prop} (h : Q (nI (nd k))) : wp_X9_needs (nI k) Q := by
  match k, hk, h with
  | 0, _, h => exact ⟨fun z => absurd rfl z, fun _ => h⟩
  | 1, _, h => exact ⟨fun _ => ⟨fun _ => ⟨fun _ => h, fun z => absurd z (by decide)⟩, fun z => absurd z (by decide)⟩, fun z => absurd z (by decide)⟩
  | 2, _, h => exact ⟨fun _ => ⟨fun z => absurd rfl z, fun _ => h⟩, fun z => absurd z (by decide)⟩
  | 3, _, h => exact ⟨fun _ => ⟨fun _ => ⟨fun _ => h, fun z => absurd z (by decide)⟩, fun z => absurd z (by decide)⟩, fun z => absurd z (by decide)⟩
  | 4, _, h => exact ⟨fun _ => ⟨fun _ => ⟨fun z => absurd rfl z, fun _ => h⟩, fun z => absurd z (by decide)⟩, fun z => absurd z (by decide)⟩
theorem wp_win {f : Nat → Int64} {i : Nat} (hi : i < 24) {b : Int64} {Q : Int32 → Prop} (h1 : 0 ≤ (f i).toInt ∧ (f i).toInt ≤ b.toInt → Q 1) (h0 : ¬ (0 ≤ (f i).toInt ∧ (f i).toInt ≤ b.toInt) → Q 0) : wp_X2_isWithin f (nI i) b Q := by
  have e0 : (0 : Int64).toInt = 0 := rfl
  unfold wp_X2_isWithin
  rw [cl_nI (by omega), cmp_lt0, cmp_gt0, e0]
  exact ⟨pk_in i 24 hi, fun q => h0 (by omega), fun q => ⟨pk_in i 24 hi, fun q2 => h0 (by omega), fun q2 => h1 (by omega)⟩⟩
theorem wp_hold {f : Nat → Int64} {kd p : Nat} (hk : kd < 5) (hp : p + nd kd ≤ 24) {Q : Int32 → Prop} (h1 : GoodR kd (fun i => f (p + i)) → Q 1) (h0 : ¬ GoodR kd (fun i => f (p + i)) → Q 0) : wp_X2_holdsTask f (nI kd) (nI p) Q := by
  have c60 : (60 : Int64).toInt = 60 := rfl
  have cm : (100000 : Int64).toInt = 100000 := rfl
  have p1 : nI p + 1 = nI (p + 1) := by rw [nI_1]
  have p2 : nI p + 2 = nI (p + 2) := nI_add p 2
  have p3 : nI p + 3 = nI (p + 3) := nI_add p 3
  have p4 : nI p + 4 = nI (p + 4) := nI_add p 4
  have b := nd_bd kd
  unfold wp_X2_holdsTask
  rw [p1, p2, p3, p4, cl_nI (k := kd) (by omega), cl_nI (k := p) (by omega), nd_am hk]
  refine wp_win (by omega) (fun g0 => ⟨fun _ => ⟨pk_in kd 5 hk, fun nz => ⟨pk_in p 24 (by omega), ?_⟩, fun z => ?_⟩, fun z => absurd z (by decide)⟩) (fun g0 => ⟨fun z => absurd rfl z, fun _ => h0 (fun g => g0 ⟨g.1.1, by rw [c60]; exact g.1.2⟩)⟩)
  · have m3 : 3 ≤ nd kd := by
      match kd, hk, nz with
      | 0, _, _ => decide
      | 1, _, nz => exact absurd rfl nz
      | 2, _, _ => decide
      | 3, _, nz => exact absurd rfl nz
      | 4, _, _ => decide
    rw [c60] at g0
    refine wp_win (by omega) (fun g1 => ⟨fun z => absurd z (by decide), fun _ => wp_win (by omega) (fun g2 => ⟨fun _ => ?_, fun z => absurd z (by decide)⟩) (fun g2 => ⟨fun z => absurd rfl z, fun _ => h0 (fun g => g2 (by rw [cm]; exact (g.2.1 (by omega)).2))⟩)⟩) (fun g1 => ⟨fun _ => h0 (fun g => g1 (g.2.1 (by omega)).1), fun z => absurd rfl z⟩)
    rw [cm] at g2
    refine ⟨fun n2 => ⟨fun n4 => h1 ⟨g0, fun _ => ⟨g1, g2⟩, fun e => absurd (by rw [e]; rfl) n2, fun e => absurd (by rw [e]; rfl) n4⟩, fun e4 => ?_⟩, fun e2 => ?_⟩
    · have k4 : kd = 4 := (nI_eq (a := kd) (b := 4) (by omega) (by omega)).mp e4
      have : nd kd = 4 := by rw [k4]; rfl
      exact wp_win (by omega) (fun g3 => ⟨fun z => absurd z (by decide), fun _ => h1 ⟨g0, fun _ => ⟨g1, g2⟩, fun e => by omega, fun _ => by rw [cm] at g3; exact g3⟩⟩) (fun g3 => ⟨fun _ => h0 (fun g => g3 (by rw [cm]; exact g.2.2.2 k4)), fun z => absurd rfl z⟩)
    · have k2 : kd = 2 := (nI_eq (a := kd) (b := 2) (by omega) (by omega)).mp e2
      have : nd kd = 5 := by rw [k2]; rfl
      exact wp_win (by omega) (fun g3 => ⟨fun z => absurd z (by decide), fun _ => wp_win (by omega) (fun g4 => ⟨fun z => absurd z (by decide), fun _ => h1 ⟨g0, fun _ => ⟨g1, g2⟩, fun _ => ⟨by rw [c60] at g3; exact g3, by rw [cm] at g4; exact g4⟩, fun e => by omega⟩⟩) (fun g4 => ⟨fun _ => h0 (fun g => g4 (by rw [cm]; exact (g.2.2.1 k2).2)), fun z => absurd rfl z⟩)⟩) (fun g3 => ⟨fun _ => h0 (fun g => g3 (by rw [c60]; exact (g.2.2.1 k2).1)), fun z => absurd rfl z⟩)
  · rw [c60] at g0
    have m1 : nd kd = 1 := (nI_eq (a := nd kd) (b := 1) (by omega) (by omega)).mp z
    refine h1 ⟨g0, fun e => by omega, fun e => ?_, fun e => ?_⟩
    · rw [e] at m1; exact absurd m1 (by decide)
    · rw [e] at m1; exact absurd m1 (by decide)
theorem wp_tadd {f : Nat → Int64} {kd p m : Nat} (hn : n < 12) (hk : kd < 5) (hm : nd kd = m) (hp : p + m ≤ 24) {Q : Int32 → Int32 → (Nat → Int32) → (Nat → Int32) → (Nat → Int32) → (Nat → Int32) → (Nat → Int32) → (Nat → Int32) → (Nat → Int32) → (Nat → Int32) → Prop} (hQ : ∀ Ki Ea Ha Pr Ex St To Be : Nat → Int32, Ki = upd tKi n (nI kd) → Ea = upd tEa n (Int64.toInt32 (f p)) → Ha = upd tHa n (if 1 < m then Int64.toInt32 (f (p + 1)) else Int64.toInt32 (f p)) → Pr = upd tPr n (if 2 < m then Int64.toInt32 (f (p + 2)) else 0) → Ex = upd tEx n (if 3 < m then Int64.toInt32 (f (p + 3)) else 0) → St = upd tSt n (if 4 < m then Int64.toInt32 (f (p + 4)) else 0) → To = upd tTo n (Int64.toInt32 (f p)) → Be = upd tBe n 0 → Q (nI n) (nI (n + 1)) Ki Ea Ha Pr Ex St To Be) : wp_X5_add f (nI n) tKi tEa tHa tPr tEx tSt tTo tBe (nI kd) (nI p) Q := by
  have b := nd_bd kd
  have p1 : nI p + 1 = nI (p + 1) := by rw [nI_1]
  have p2 : nI p + 2 = nI (p + 2) := nI_add p 2
  have p3 : nI p + 3 = nI (p + 3) := nI_add p 3
  have p4 : nI p + 4 = nI (p + 4) := nI_add p 4
  have i12 : vp_in (nI n) 12 := pk_in n 12 hn
  have s144 : ∀ (st : Int32) (Ki Ea Ha Pr Ex : Nat → Int32), Ki = upd tKi n (nI kd) → Ea = upd tEa n (Int64.toInt32 (f p)) → Ha = upd tHa n (if 1 < m then Int64.toInt32 (f (p + 1)) else Int64.toInt32 (f p)) → Pr = upd tPr n (if 2 < m then Int64.toInt32 (f (p + 2)) else 0) → Ex = upd tEx n (if 3 < m then Int64.toInt32 (f (p + 3)) else 0) → st = (if 4 < m then Int64.toInt32 (f (p + 4)) else 0) → wp_X5_add_b144 Q (nI n) st (nI n) (nI n) Ki Ea Ha Pr Ex tSt tTo tBe := fun st Ki Ea Ha Pr Ex h1 h2 h3 h4 h5 h6 => by
    unfold wp_X5_add_b144
    rw [cl_nI (by omega)]
    refine ⟨i12, fun St eSt => ⟨i12, i12, fun To eTo => ⟨i12, fun Be eBe c ec => ?_⟩⟩⟩
    rw [ec, nI_1]
    exact hQ Ki Ea Ha Pr Ex St To Be h1 h2 h3 h4 h5 (by rw [eSt, h6]) (by rw [eTo, h2, upd_at]) eBe
  have s118 : ∀ (ex : Int32) (Ki Ea Ha Pr : Nat → Int32), Ki = upd tKi n (nI kd) → Ea = upd tEa n (Int64.toInt32 (f p)) → Ha = upd tHa n (if 1 < m then Int64.toInt32 (f (p + 1)) else Int64.toInt32 (f p)) → Pr = upd tPr n (if 2 < m then Int64.toInt32 (f (p + 2)) else 0) → ex = (if 3 < m then Int64.toInt32 (f (p + 3)) else 0) → wp_X5_add_b118 Q (nI p) f (nI n) ex (nI n) (nI m) (nI n) Ki Ea Ha Pr tEx tSt tTo tBe := fun ex Ki Ea Ha Pr h1 h2 h3 h4 h5 => by
    unfold wp_X5_add_b118
    rw [p4, cl_nI (k := n) (by omega)]
    refine ⟨i12, fun Ex eEx => pk_le m 4 (fun q => s144 0 Ki Ea Ha Pr Ex h1 h2 h3 h4 (by rw [eEx, h5]) (by rw [if_neg (by omega)])) (fun q => ⟨pk_in (p + 4) 24 (by omega), ?_⟩)⟩
    rw [cl_nI (by omega)]
    exact s144 _ Ki Ea Ha Pr Ex h1 h2 h3 h4 (by rw [eEx, h5]) (by rw [if_pos (by omega)])
  have s92 : ∀ (pr : Int32) (Ki Ea Ha : Nat → Int32), Ki = upd tKi n (nI kd) → Ea = upd tEa n (Int64.toInt32 (f p)) → Ha = upd tHa n (if 1 < m then Int64.toInt32 (f (p + 1)) else Int64.toInt32 (f p)) → pr = (if 2 < m then Int64.toInt32 (f (p + 2)) else 0) → wp_X5_add_b92 Q (nI p) f (nI n) pr (nI n) (nI m) (nI n) Ki Ea Ha tPr tEx tSt tTo tBe := fun pr Ki Ea Ha h1 h2 h3 h4 => by
    unfold wp_X5_add_b92
    rw [p3, cl_nI (k := n) (by omega)]
    refine ⟨i12, fun Pr ePr => pk_le m 3 (fun q => s118 0 Ki Ea Ha Pr h1 h2 h3 (by rw [ePr, h4]) (by rw [if_neg (by omega)])) (fun q => ⟨pk_in (p + 3) 24 (by omega), ?_⟩)⟩
    rw [cl_nI (by omega)]
    exact s118 _ Ki Ea Ha Pr h1 h2 h3 (by rw [ePr, h4]) (by rw [if_pos (by omega)])
  have s66 : ∀ (ha : Int32) (Ki Ea : Nat → Int32), Ki = upd tKi n (nI kd) → Ea = upd tEa n (Int64.toInt32 (f p)) → ha = (if 1 < m then Int64.toInt32 (f (p + 1)) else Int64.toInt32 (f p)) → wp_X5_add_b66 Q (nI p) f (nI n) ha (nI n) (nI m) (nI n) Ki Ea tHa tPr tEx tSt tTo tBe := fun ha Ki Ea h1 h2 h3 => by
    unfold wp_X5_add_b66
    rw [p2, cl_nI (k := n) (by omega)]
    refine ⟨i12, fun Ha eHa => pk_le m 2 (fun q => s92 0 Ki Ea Ha h1 h2 (by rw [eHa, h3]) (by rw [if_neg (by omega)])) (fun q => ⟨pk_in (p + 2) 24 (by omega), ?_⟩)⟩
    rw [cl_nI (by omega)]
    exact s92 _ Ki Ea Ha h1 h2 (by rw [eHa, h3]) (by rw [if_pos (by omega)])
  unfold wp_X5_add
  rw [p1, cl_nI (k := kd) (by omega), cl_nI (k := n) (by omega), cl_nI (k := p) (by omega), nd_am hk, hm]
  refine ⟨pk_in kd 5 hk, fun x5 e5 => ⟨i12, fun Ki eKi => ⟨pk_in p 24 (by omega), i12, fun Ea eEa => ?_⟩⟩⟩
  rw [e5]
  refine pk_le m 1 (fun q => ⟨i12, s66 _ Ki Ea eKi eEa (by rw [if_neg (by omega), eEa, upd_at])⟩) (fun q => ⟨pk_in (p + 1) 24 (by omega), ?_⟩)
  rw [cl_nI (by omega)]
  exact s66 _ Ki Ea eKi eEa (by rw [if_pos (by omega)])
theorem tcp {k p m : Nat} (hk : k < 4) (hp : p + m ≤ 24) {X : (Nat → Int64) → Prop} (hX : ∀ sp : Nat → Int64, (∀ i, i < m → sp i = mRo (24 * k + p + i)) → X sp) : ∀ (j i : Nat) (sp : Nat → Int64), i + j = m → (∀ u, u < i → sp u = mRo (24 * k + p + u)) → wp_X9_task_L83 (nI k) (nI p) mRo (nI m) X (j + 1) (nI i) sp := by
  intro j
  induction j with
  | zero =>
    intro i sp hi h
    rw [wp_X9_task_L83]
    rw [show i = m by omega] at h ⊢
    exact pk_le m m (fun _ => hX sp h) (fun q => absurd q (by omega))
  | succ j ih =>
    intro i sp hi h
    rw [wp_X9_task_L83]
    refine pk_le m i (fun q => absurd q (by omega)) (fun q => ?_)
    rw [ix24, nI_add, cl_nI (by omega), cl_nI (by omega)]
    refine ⟨pk_in (24 * k + p + i) 96 (by omega), pk_in i 24 (by omega), fun g eg y ey => ?_⟩
    rw [ey, nI_1]
    refine ih (i + 1) g (by omega) (fun u hu => ?_)
    rw [eg]
    by_cases z : u = i
    · rw [z, updL_at]
    · rw [updL_ne z]; exact h u (by omega)
theorem tnum {m : Nat} (hn : n < 12) (hm5 : m ≤ 5) {X : (Nat → Int32) → Prop} (hX : ∀ N : Nat → Int32, (∀ i, i < 5 → N (5 * n + i) = if i < m then Int64.toInt32 (sp i) else 0) → (∀ x, (x < 5 * n ∨ 5 * n + 5 ≤ x) → N x = pN x) → X N) : ∀ (j i : Nat) (N : Nat → Int32), i + j = 5 → (∀ u, u < i → N (5 * n + u) = if u < m then Int64.toInt32 (sp u) else 0) → (∀ x, (x < 5 * n ∨ 5 * n + 5 ≤ x) → N x = pN x) → wp_X9_task_L310 (nI m) (nI n) sp X (j + 1) (nI i) N := by
  intro j
  induction j with
  | zero =>
    intro i N hi h h2
    rw [wp_X9_task_L310]
    rw [show i = 5 by omega] at h ⊢
    exact pk_le 5 5 (fun _ => hX N h h2) (fun q => absurd q (by omega))
  | succ j ih =>
    intro i N hi h h2
    rw [wp_X9_task_L310]
    have go : ∀ v : Int32, v = (if i < m then Int64.toInt32 (sp i) else 0) → wp_X9_task_b347 (wp_X9_task_L310 (nI m) (nI n) sp X (j + 1)) ((5 * nI n) + nI i) v (nI i) N := fun v ev => by
      unfold wp_X9_task_b347
      rw [ix5, cl_nI (by omega)]
      refine ⟨pk_in (5 * n + i) 60 (by omega), fun N' eN y ey => ?_⟩
      rw [ey, nI_1]
      refine ih (i + 1) N' (by omega) (fun u hu => ?_) (fun x hx => ?_)
      · rw [eN]
        by_cases z : u = i
        · rw [z, upd_at]; exact ev
        · rw [upd_ne (by omega)]; exact h u (by omega)
      · rw [eN, upd_ne (by omega)]; exact h2 x hx
    refine pk_le 5 i (fun q => absurd q (by omega)) (fun q => pk_le m i (fun q2 => go 0 (by rw [if_neg (by omega)])) (fun q2 => ⟨pk_in i 24 (by omega), ?_⟩))
    rw [cl_nI (by omega)]
    exact go _ (by rw [if_pos (by omega)])
theorem tfol (hn : n < 12) {X : (Nat → Int32) → Prop} (hX : ∀ F : Nat → Int32, (∀ o, o < 12 → F (12 * n + o) = 0 ∧ F (12 * o + n) = 0) → (∀ u v, v < 12 → u ≠ n → v ≠ n → F (12 * u + v) = pF (12 * u + v)) → (∀ k, F k = 0 ∨ F k = pF k) → X F) : ∀ (j i : Nat) (F : Nat → Int32), i + j = 12 → (∀ o, o < i → F (12 * n + o) = 0 ∧ F (12 * o + n) = 0) → (∀ u v, v < 12 → u ≠ n → v ≠ n → F (12 * u + v) = pF (12 * u + v)) → (∀ k, F k = 0 ∨ F k = pF k) → wp_X9_task_L382 (nI n) X (j + 1) (nI i) F := by
  intro j
  induction j with
  | zero =>
    intro i F hi h h2 h3
    rw [wp_X9_task_L382]
    rw [show i = 12 by omega] at h ⊢
    exact pk_le 12 12 (fun _ => hX F h h2 h3) (fun q => absurd q (by omega))
  | succ j ih =>
    intro i F hi h h2 h3
    rw [wp_X9_task_L382]
    refine pk_le 12 i (fun q => absurd q (by omega)) (fun q => ?_)
    rw [ix12, ix12, cl_nI (by omega), cl_nI (by omega), nar_b0]
    refine ⟨pk_in (12 * n + i) 144 (by omega), fun F1 e1 => ⟨pk_in (12 * i + n) 144 (by omega), fun F2 e2 y ey => ?_⟩⟩
    rw [ey, nI_1]
    have val : ∀ k, F2 k = if k = 12 * i + n then 0 else if k = 12 * n + i then 0 else F k := fun k => by
      rw [e2, e1]
      by_cases z : k = 12 * i + n
      · rw [z, upd_at, if_pos rfl]
      · rw [upd_ne z, if_neg z]
        by_cases w : k = 12 * n + i
        · rw [w, upd_at, if_pos rfl]
        · rw [upd_ne w, if_neg w]
    refine ih (i + 1) F2 (by omega) (fun o ho => ?_) (fun u v hv hu hvn => ?_) (fun k => ?_)
    · rw [val, val]
      rcases Nat.lt_or_ge o i with z | z
      · obtain ⟨a1, a2⟩ := h o z
        constructor
        · split
          · rfl
          · split
            · rfl
            · exact a1
        · split
          · rfl
          · split
            · rfl
            · exact a2
      · rw [show o = i by omega]
        constructor
        · split
          · rfl
          · rw [if_pos rfl]
        · rw [if_pos rfl]
    · rw [val, if_neg (by omega), if_neg (by omega)]
      exact h2 u v hv hu hvn
    · rw [val]
      split
      · exact Or.inl rfl
      · split
        · exact Or.inl rfl
        · exact h3 k
theorem ttail {kd m : Nat} (hk : kd < 5) (hm : nd kd = m) {R : Nat → Int64} (hR : ∀ i, i < m → sp i = R i) {Q : Int32 → Int32 → (Nat → Int32) → (Nat → Int32) → (Nat → Int32) → (Nat → Int32) → Int32 → Int32 → Int32 → Int32 → (Nat → Int32) → (Nat → Int64) → (Nat → Nat) → (Nat → Int32) → (Nat → Nat → Int32) → (Nat → Nat → Int32) → (Nat → Nat → Int32) → (Nat → Nat → Int32) → Prop} (h1 : GoodR kd R → wp_X9_task_b251 Q (nI kd) (nI m) 1 (nI n) pK pN pF pS (nI a) mFi mAK mIP mUS sp ub uT uK uN uF uS) (h0 : ¬ GoodR kd R → wp_X9_task_b251 Q (nI kd) (nI m) 0 (nI n) pK pN pF pS (nI a) mFi mAK mIP mUS sp ub uT uK uN uF uS) : vp_in 0 24 ∧ wp_X9_in (sp (Int32.toNatClampNeg 0)) 0 60 (fun r_299 => ((nI m ≤ 1 → wp_X9_task_b175 Q (nI kd) (nI m) r_299 (nI n) pK pN pF pS (nI a) mFi mAK mIP mUS sp ub uT uK uN uF uS) ∧
   (¬ nI m ≤ 1 → ((r_299 = 0 → wp_X9_task_b172 Q (nI kd) (nI m) (nI n) pK pN pF pS (nI a) mFi mAK mIP mUS sp ub uT uK uN uF uS) ∧
   (¬ r_299 = 0 → vp_in 1 24 ∧ vp_in 0 24 ∧ wp_X9_in (sp (Int32.toNatClampNeg 1)) 0 (sp (Int32.toNatClampNeg 0)) (fun r_302 => ((r_302 = 0 → wp_X9_task_b172 Q (nI kd) (nI m) (nI n) pK pN pF pS (nI a) mFi mAK mIP mUS sp ub uT uK uN uF uS) ∧
   (¬ r_302 = 0 → vp_in 2 24 ∧ wp_X9_in (sp (Int32.toNatClampNeg 2)) 0 100000 (fun r_304 => ((r_304 = 0 → wp_X9_task_b172 Q (nI kd) (nI m) (nI n) pK pN pF pS (nI a) mFi mAK mIP mUS sp ub uT uK uN uF uS) ∧
   (¬ r_304 = 0 → wp_X9_task_b173 Q (nI kd) 1 (nI m) (nI n) pK pN pF pS (nI a) mFi mAK mIP mUS sp ub uT uK uN uF uS))))))))))) := by
  have z0 : (0 : Int64).toInt = 0 := rfl
  have c60 : (60 : Int64).toInt = 60 := rfl
  have cm : (100000 : Int64).toInt = 100000 := rfl
  have t0 : Int32.toNatClampNeg 0 = 0 := rfl
  have t1 : Int32.toNatClampNeg 1 = 1 := rfl
  have t2 : Int32.toNatClampNeg 2 = 2 := rfl
  have t3 : Int32.toNatClampNeg 3 = 3 := rfl
  have t4 : Int32.toNatClampNeg 4 = 4 := rfl
  have one0 : ¬ (1 : Int32) = 0 := by decide
  have b := nd_bd kd
  rw [t0, t1, t2]
  refine ⟨pk_in 0 24 (by omega), ?_⟩
  have s0 := hR 0 (by omega)
  match kd, hk, hm, h1, h0 with
  | 1, _, hm, h1, h0 =>
    have m1 : m = 1 := hm.symm
    subst m1
    exact wp_in (fun g0 => ⟨fun _ => ⟨fun _ => ⟨fun _ => h1 ⟨by rw [s0, z0, c60] at g0; exact g0, fun e => absurd e (by decide), fun e => absurd e (by decide), fun e => absurd e (by decide)⟩, fun e => absurd e (by decide)⟩, fun e => absurd e (by decide)⟩, fun e => absurd (by decide) e⟩) (fun g0 => ⟨fun _ => ⟨fun _ => ⟨fun _ => h0 (fun g => g0 (by rw [s0, z0, c60]; exact g.1)), fun e => absurd e (by decide)⟩, fun e => absurd e (by decide)⟩, fun e => absurd (by decide) e⟩)
  | 3, _, hm, h1, h0 =>
    have m1 : m = 1 := hm.symm
    subst m1
    exact wp_in (fun g0 => ⟨fun _ => ⟨fun _ => ⟨fun _ => h1 ⟨by rw [s0, z0, c60] at g0; exact g0, fun e => absurd e (by decide), fun e => absurd e (by decide), fun e => absurd e (by decide)⟩, fun e => absurd e (by decide)⟩, fun e => absurd e (by decide)⟩, fun e => absurd (by decide) e⟩) (fun g0 => ⟨fun _ => ⟨fun _ => ⟨fun _ => h0 (fun g => g0 (by rw [s0, z0, c60]; exact g.1)), fun e => absurd e (by decide)⟩, fun e => absurd e (by decide)⟩, fun e => absurd (by decide) e⟩)
  | 0, _, hm, h1, h0 =>
    have m1 : m = 3 := hm.symm
    subst m1
    have s1 := hR 1 (by omega)
    have s2 := hR 2 (by omega)
    have bad : ¬ GoodR 0 R → wp_X9_task_b172 Q (nI 0) (nI 3) (nI n) pK pN pF pS (nI a) mFi mAK mIP mUS sp ub uT uK uN uF uS := fun g => ⟨fun _ => ⟨fun _ => h0 g, fun e => absurd e (by decide)⟩, fun e => absurd e (by decide)⟩
    exact wp_in (fun g0 => ⟨fun e => absurd e (by decide), fun _ => ⟨fun e => absurd e one0, fun _ => ⟨pk_in 1 24 (by omega), pk_in 0 24 (by omega), wp_in (fun g1 => ⟨fun e => absurd e one0, fun _ => ⟨pk_in 2 24 (by omega), wp_in (fun g2 => ⟨fun e => absurd e one0, fun _ => ⟨fun _ => ⟨fun _ => h1 ⟨by rw [s0, z0, c60] at g0; exact g0, fun _ => ⟨by rw [s1, s0, z0] at g1; exact g1, by rw [s2, z0, cm] at g2; exact g2⟩, fun e => absurd e (by decide), fun e => absurd e (by decide)⟩, fun e => absurd e (by decide)⟩, fun e => absurd e (by decide)⟩⟩) (fun g2 => ⟨fun _ => bad (fun g => g2 (by rw [s2, z0, cm]; exact (g.2.1 (by decide)).2)), fun e => absurd rfl e⟩)⟩⟩) (fun g1 => ⟨fun _ => bad (fun g => g1 (by rw [s1, s0, z0]; exact (g.2.1 (by decide)).1)), fun e => absurd rfl e⟩)⟩⟩⟩) (fun g0 => ⟨fun e => absurd e (by decide), fun _ => ⟨fun _ => bad (fun g => g0 (by rw [s0, z0, c60]; exact g.1)), fun e => absurd rfl e⟩⟩)
  | 4, _, hm, h1, h0 =>
    have m1 : m = 4 := hm.symm
    subst m1
    have s1 := hR 1 (by omega)
    have s2 := hR 2 (by omega)
    have s3 := hR 3 (by omega)
    have bad : ¬ GoodR 4 R → wp_X9_task_b172 Q (nI 4) (nI 4) (nI n) pK pN pF pS (nI a) mFi mAK mIP mUS sp ub uT uK uN uF uS := fun g => ⟨fun _ => ⟨fun e => absurd rfl e, fun _ => ⟨fun _ => h0 g, fun e => absurd rfl e⟩⟩, fun e => absurd e (by decide)⟩
    have last : (wp_X9_in (sp 3) 0 100000 (fun r_144 => ((r_144 = 0 → wp_X9_task_b248 Q (nI 4) (nI 4) (nI n) pK pN pF pS (nI a) mFi mAK mIP mUS sp ub uT uK uN uF uS) ∧ (¬ r_144 = 0 → wp_X9_task_b249 Q (nI 4) 1 (nI 4) (nI n) pK pN pF pS (nI a) mFi mAK mIP mUS sp ub uT uK uN uF uS)))) → wp_X9_task_b173 Q (nI 4) 1 (nI 4) (nI n) pK pN pF pS (nI a) mFi mAK mIP mUS sp ub uT uK uN uF uS := fun h => ⟨fun _ => ⟨fun e => absurd rfl e, fun _ => ⟨fun e => absurd e one0, fun _ => ⟨pk_in 3 24 (by omega), h⟩⟩⟩, fun e => absurd e (by decide)⟩
    exact wp_in (fun g0 => ⟨fun e => absurd e (by decide), fun _ => ⟨fun e => absurd e one0, fun _ => ⟨pk_in 1 24 (by omega), pk_in 0 24 (by omega), wp_in (fun g1 => ⟨fun e => absurd e one0, fun _ => ⟨pk_in 2 24 (by omega), wp_in (fun g2 => ⟨fun e => absurd e one0, fun _ => last (wp_in (fun g3 => ⟨fun e => absurd e one0, fun _ => h1 ⟨by rw [s0, z0, c60] at g0; exact g0, fun _ => ⟨by rw [s1, s0, z0] at g1; exact g1, by rw [s2, z0, cm] at g2; exact g2⟩, fun e => absurd e (by decide), fun _ => by rw [s3, z0, cm] at g3; exact g3⟩⟩) (fun g3 => ⟨fun _ => h0 (fun g => g3 (by rw [s3, z0, cm]; exact g.2.2.2 rfl)), fun e => absurd rfl e⟩))⟩) (fun g2 => ⟨fun _ => bad (fun g => g2 (by rw [s2, z0, cm]; exact (g.2.1 (by decide)).2)), fun e => absurd rfl e⟩)⟩⟩) (fun g1 => ⟨fun _ => bad (fun g => g1 (by rw [s1, s0, z0]; exact (g.2.1 (by decide)).1)), fun e => absurd rfl e⟩)⟩⟩⟩) (fun g0 => ⟨fun e => absurd e (by decide), fun _ => ⟨fun _ => bad (fun g => g0 (by rw [s0, z0, c60]; exact g.1)), fun e => absurd rfl e⟩⟩)
  | 2, _, hm, h1, h0 =>
    have m1 : m = 5 := hm.symm
    subst m1
    have s1 := hR 1 (by omega)
    have s2 := hR 2 (by omega)
    have s3 := hR 3 (by omega)
    have s4 := hR 4 (by omega)
    have bad7 : ¬ GoodR 2 R → wp_X9_task_b217 Q (nI 2) (nI 5) (nI n) pK pN pF pS (nI a) mFi mAK mIP mUS sp ub uT uK uN uF uS := fun g => ⟨fun _ => h0 g, fun e => absurd e (by decide)⟩
    have bad : ¬ GoodR 2 R → wp_X9_task_b172 Q (nI 2) (nI 5) (nI n) pK pN pF pS (nI a) mFi mAK mIP mUS sp ub uT uK uN uF uS := fun g => ⟨fun e => absurd rfl e, fun _ => ⟨fun _ => bad7 g, fun e => absurd rfl e⟩⟩
    have last : (wp_X9_in (sp 3) 0 60 (fun r_204 => ((r_204 = 0 → wp_X9_task_b217 Q (nI 2) (nI 5) (nI n) pK pN pF pS (nI a) mFi mAK mIP mUS sp ub uT uK uN uF uS) ∧ (¬ r_204 = 0 → vp_in 4 24 ∧ wp_X9_in (sp 4) 0 100000 (fun r_206 => ((r_206 = 0 → wp_X9_task_b217 Q (nI 2) (nI 5) (nI n) pK pN pF pS (nI a) mFi mAK mIP mUS sp ub uT uK uN uF uS) ∧ (¬ r_206 = 0 → wp_X9_task_b218 Q (nI 2) 1 (nI 5) (nI n) pK pN pF pS (nI a) mFi mAK mIP mUS sp ub uT uK uN uF uS))))))) → wp_X9_task_b173 Q (nI 2) 1 (nI 5) (nI n) pK pN pF pS (nI a) mFi mAK mIP mUS sp ub uT uK uN uF uS := fun h => ⟨fun e => absurd rfl e, fun _ => ⟨fun e => absurd e one0, fun _ => ⟨pk_in 3 24 (by omega), h⟩⟩⟩
    exact wp_in (fun g0 => ⟨fun e => absurd e (by decide), fun _ => ⟨fun e => absurd e one0, fun _ => ⟨pk_in 1 24 (by omega), pk_in 0 24 (by omega), wp_in (fun g1 => ⟨fun e => absurd e one0, fun _ => ⟨pk_in 2 24 (by omega), wp_in (fun g2 => ⟨fun e => absurd e one0, fun _ => last (wp_in (fun g3 => ⟨fun e => absurd e one0, fun _ => ⟨pk_in 4 24 (by omega), wp_in (fun g4 => ⟨fun e => absurd e one0, fun _ => ⟨fun _ => h1 ⟨by rw [s0, z0, c60] at g0; exact g0, fun _ => ⟨by rw [s1, s0, z0] at g1; exact g1, by rw [s2, z0, cm] at g2; exact g2⟩, fun _ => ⟨by rw [s3, z0, c60] at g3; exact g3, by rw [s4, z0, cm] at g4; exact g4⟩, fun e => absurd e (by decide)⟩, fun e => absurd e (by decide)⟩⟩) (fun g4 => ⟨fun _ => bad7 (fun g => g4 (by rw [s4, z0, cm]; exact (g.2.2.1 rfl).2)), fun e => absurd rfl e⟩)⟩⟩) (fun g3 => ⟨fun _ => bad7 (fun g => g3 (by rw [s3, z0, c60]; exact (g.2.2.1 rfl).1)), fun e => absurd rfl e⟩))⟩) (fun g2 => ⟨fun _ => bad (fun g => g2 (by rw [s2, z0, cm]; exact (g.2.1 (by decide)).2)), fun e => absurd rfl e⟩)⟩⟩) (fun g1 => ⟨fun _ => bad (fun g => g1 (by rw [s1, s0, z0]; exact (g.2.1 (by decide)).1)), fun e => absurd rfl e⟩)⟩⟩⟩) (fun g0 => ⟨fun e => absurd e (by decide), fun _ => ⟨fun _ => bad (fun g => g0 (by rw [s0, z0, c60]; exact g.1)), fun e => absurd rfl e⟩⟩)
end STEPU
