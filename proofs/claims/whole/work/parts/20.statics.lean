def wp_X7_hasBit  (a0 : Int32) (a1 : Int32) (Qp : Int32 → Prop) : Prop :=
  ((((a0 >>> (a1 &&& 31)) &&& 1) = 0 → Qp 0) ∧
   (¬ ((a0 >>> (a1 &&& 31)) &&& 1) = 0 → Qp 1))
def rm_X7_hasBit : Room := { frames := 0, cells := 0, slots := 0, locals := 0 }
set_option maxHeartbeats 4000000 in
set_option maxRecDepth 100000 in
theorem ct_X7_hasBit {l : Launch} {D : va_G} {cI cJ cZ cE cD cK : ClassId} {wd : va_W}   {a0 : Int32} {a1 : Int32} {Qp : Int32 → Prop}   (h : wp_X7_hasBit  a0 a1 Qp) : CTi l yX7_hasBit wsX7_hasBit rm_X7_hasBit D (tyL cI cJ cZ cE cD cK) [.int a0, .int a1] wd (fun (r : Int32) (u : Unit) => Qp r ) (fun u : Unit => wd) 0 0 := by
  refine ent_i (cc := cX7_hasBit) (maxL := 2) (ret := (some .boolean)) (by decide) rfl (Nat.le_of_ble_eq_true rfl) ?_
  intro p e s m args below meth c A Q hQ hx hb hr hml hown hts hlk hA hAB hP hD hS ls hl
  have hown : s.vm.findClass RX7 = some m.cls := hown
  have hl : lv_has ls 2 [(0, .int a0), (1, .int a1)] := hl
  generalize hH : s.heap = H at hP ⊢
  have hS : va_S A s.heap H [] := by rw [← hH]; exact hS
  clear hH
  generalize ([] : List Loc) = locs at hS ⊢
  refine lv_iload_n hx hb dX7_hasBit_0 rfl (lv_at hl 0 rfl) ?_
  refine lv_iload_n hx hb dX7_hasBit_1 rfl (lv_at hl 1 rfl) ?_
  refine lv_ishr hx hb dX7_hasBit_2 ?_
  refine lv_iconst (v := 1) hx hb dX7_hasBit_3 (by decide) ?_
  refine lv_iand hx hb dX7_hasBit_4 ?_
  refine lv_if_eq (tgt := 12) hx hb dX7_hasBit_5 (by decide) (fun c_1 => ?_) (fun c_1 => ?_)
  · have h := h.1 c_1
    refine lv_iconst (v := 0) hx hb dX7_hasBit_12 (by decide) ?_
    exact rt_z () hQ hx hb hr hlk hP hD hS ⟨Nat.zero_le _, Nat.zero_le _⟩ (by decide) dX7_hasBit_13 h
  · have h := h.2 c_1
    refine lv_iconst (v := 1) hx hb dX7_hasBit_8 (by decide) ?_
    refine lv_goto (tgt := 13) hx hb dX7_hasBit_9 (by decide) ?_
    exact rt_z () hQ hx hb hr hlk hP hD hS ⟨Nat.zero_le _, Nat.zero_le _⟩ (by decide) dX7_hasBit_13 h
def wp_X7_isBoard  (a0 : Int32) (Qp : Int32 → Prop) : Prop :=
  ((a0 < 0 → Qp 0) ∧
   (¬ a0 < 0 → ((4 ≤ a0 → Qp 0) ∧
   (¬ 4 ≤ a0 → Qp 1))))
def rm_X7_isBoard : Room := { frames := 0, cells := 0, slots := 0, locals := 0 }
set_option maxHeartbeats 4000000 in
set_option maxRecDepth 100000 in
theorem ct_X7_isBoard {l : Launch} {D : va_G} {cI cJ cZ cE cD cK : ClassId} {wd : va_W}   {a0 : Int32} {Qp : Int32 → Prop}   (h : wp_X7_isBoard  a0 Qp) : CTi l yX7_isBoard wsX7_isBoard rm_X7_isBoard D (tyL cI cJ cZ cE cD cK) [.int a0] wd (fun (r : Int32) (u : Unit) => Qp r ) (fun u : Unit => wd) 0 0 := by
  refine ent_i (cc := cX7_isBoard) (maxL := 1) (ret := (some .boolean)) (by decide) rfl (Nat.le_of_ble_eq_true rfl) ?_
  intro p e s m args below meth c A Q hQ hx hb hr hml hown hts hlk hA hAB hP hD hS ls hl
  have hown : s.vm.findClass RX7 = some m.cls := hown
  have hl : lv_has ls 1 [(0, .int a0)] := hl
  generalize hH : s.heap = H at hP ⊢
  have hS : va_S A s.heap H [] := by rw [← hH]; exact hS
  clear hH
  generalize ([] : List Loc) = locs at hS ⊢
  refine lv_iload_n hx hb dX7_isBoard_0 rfl (lv_at hl 0 rfl) ?_
  refine lv_if_lt (tgt := 13) hx hb dX7_isBoard_1 (by decide) (fun c_1 => ?_) (fun c_1 => ?_)
  · have h := h.1 c_1
    refine lv_iconst (v := 0) hx hb dX7_isBoard_13 (by decide) ?_
    exact rt_z () hQ hx hb hr hlk hP hD hS ⟨Nat.zero_le _, Nat.zero_le _⟩ (by decide) dX7_isBoard_14 h
  · have h := h.2 c_1
    refine lv_iload_n hx hb dX7_isBoard_4 rfl (lv_at hl 0 rfl) ?_
    refine lv_iconst (v := 4) hx hb dX7_isBoard_5 (by decide) ?_
    refine lv_icmp_ge (tgt := 13) hx hb dX7_isBoard_6 (by decide) (fun c_2 => ?_) (fun c_2 => ?_)
    · have h := h.1 c_2
      refine lv_iconst (v := 0) hx hb dX7_isBoard_13 (by decide) ?_
      exact rt_z () hQ hx hb hr hlk hP hD hS ⟨Nat.zero_le _, Nat.zero_le _⟩ (by decide) dX7_isBoard_14 h
    · have h := h.2 c_2
      refine lv_iconst (v := 1) hx hb dX7_isBoard_9 (by decide) ?_
      refine lv_goto (tgt := 14) hx hb dX7_isBoard_10 (by decide) ?_
      exact rt_z () hQ hx hb hr hlk hP hD hS ⟨Nat.zero_le _, Nat.zero_le _⟩ (by decide) dX7_isBoard_14 h
def wp_X7_isKind  (a0 : Int32) (Qp : Int32 → Prop) : Prop :=
  ((a0 < 0 → Qp 0) ∧
   (¬ a0 < 0 → ((5 ≤ a0 → Qp 0) ∧
   (¬ 5 ≤ a0 → Qp 1))))
def rm_X7_isKind : Room := { frames := 0, cells := 0, slots := 0, locals := 0 }
set_option maxHeartbeats 4000000 in
set_option maxRecDepth 100000 in
theorem ct_X7_isKind {l : Launch} {D : va_G} {cI cJ cZ cE cD cK : ClassId} {wd : va_W}   {a0 : Int32} {Qp : Int32 → Prop}   (h : wp_X7_isKind  a0 Qp) : CTi l yX7_isKind wsX7_isKind rm_X7_isKind D (tyL cI cJ cZ cE cD cK) [.int a0] wd (fun (r : Int32) (u : Unit) => Qp r ) (fun u : Unit => wd) 0 0 := by
  refine ent_i (cc := cX7_isKind) (maxL := 1) (ret := (some .boolean)) (by decide) rfl (Nat.le_of_ble_eq_true rfl) ?_
  intro p e s m args below meth c A Q hQ hx hb hr hml hown hts hlk hA hAB hP hD hS ls hl
  have hown : s.vm.findClass RX7 = some m.cls := hown
  have hl : lv_has ls 1 [(0, .int a0)] := hl
  generalize hH : s.heap = H at hP ⊢
  have hS : va_S A s.heap H [] := by rw [← hH]; exact hS
  clear hH
  generalize ([] : List Loc) = locs at hS ⊢
  refine lv_iload_n hx hb dX7_isKind_0 rfl (lv_at hl 0 rfl) ?_
  refine lv_if_lt (tgt := 16) hx hb dX7_isKind_1 (by decide) (fun c_1 => ?_) (fun c_1 => ?_)
  · have h := h.1 c_1
    refine lv_iconst (v := 0) hx hb dX7_isKind_16 (by decide) ?_
    exact rt_z () hQ hx hb hr hlk hP hD hS ⟨Nat.zero_le _, Nat.zero_le _⟩ (by decide) dX7_isKind_17 h
  · have h := h.2 c_1
    refine lv_iload_n hx hb dX7_isKind_4 rfl (lv_at hl 0 rfl) ?_
    obtain ⟨t_2, z_3, y_4⟩ := hAB.2.2.1
    refine va_gets hx hb z_3 hS hown (hts (.fieldLink RX7 98 "BarnBench" "TAKEN" "[I") (by decide +kernel)) (fun _ h9 => h9) dX7_isKind_5 ?_
    refine va_tlen (v := 5) hx hb y_4 hS (by decide) dX7_isKind_8 ?_
    refine lv_icmp_ge (tgt := 16) hx hb dX7_isKind_9 (by decide) (fun c_5 => ?_) (fun c_5 => ?_)
    · have h := h.1 c_5
      refine lv_iconst (v := 0) hx hb dX7_isKind_16 (by decide) ?_
      exact rt_z () hQ hx hb hr hlk hP hD hS ⟨Nat.zero_le _, Nat.zero_le _⟩ (by decide) dX7_isKind_17 h
    · have h := h.2 c_5
      refine lv_iconst (v := 1) hx hb dX7_isKind_12 (by decide) ?_
      refine lv_goto (tgt := 17) hx hb dX7_isKind_13 (by decide) ?_
      exact rt_z () hQ hx hb hr hlk hP hD hS ⟨Nat.zero_le _, Nat.zero_le _⟩ (by decide) dX7_isKind_17 h
def wp_X7_isUnder_L4 (Qp : Int32 → Prop) (a1 : Int32) (x4 : Prop) : Nat → (Int32) → (Int32) → Prop
  | 0, _, _ => False
  | n4 + 1, x2_1, x3_2 =>
  ((5 ≤ x3_2 → x4) ∧
   (¬ 5 ≤ x3_2 → wp_X7_isKind x2_1 (fun (r_7 : Int32) => ((r_7 = 0 → x4) ∧
   (¬ r_7 = 0 → ((¬ x2_1 = a1 → vp_in x2_1 5 ∧ ∀ x2_13 : Int32, x2_13 = (am_under (Int32.toNatClampNeg x2_1)) → ∀ x3_15 : Int32, x3_15 = x3_2 + 1 → (wp_X7_isUnder_L4 Qp a1 x4 n4) x2_13 x3_15) ∧
   (x2_1 = a1 → Qp 1)))))))
def wp_X7_isUnder  (a0 : Int32) (a1 : Int32) (Qp : Int32 → Prop) : Prop :=
  (∃ n4 : Nat, wp_X7_isUnder_L4 Qp a1 (Qp 0) n4 a0 0)
def rm_X7_isUnder : Room := { frames := 1, cells := 0, slots := 0, locals := 20 }
set_option maxHeartbeats 4000000 in
set_option maxRecDepth 100000 in
theorem ct_X7_isUnder {l : Launch} {D : va_G} {cI cJ cZ cE cD cK : ClassId} {wd : va_W}   {a0 : Int32} {a1 : Int32} {Qp : Int32 → Prop}   (h : wp_X7_isUnder  a0 a1 Qp) : CTi l yX7_isUnder wsX7_isUnder rm_X7_isUnder D (tyL cI cJ cZ cE cD cK) [.int a0, .int a1] wd (fun (r : Int32) (u : Unit) => Qp r ) (fun u : Unit => wd) 0 0 := by
  refine ent_i (cc := cX7_isUnder) (maxL := 4) (ret := (some .boolean)) (by decide) rfl (Nat.le_of_ble_eq_true rfl) ?_
  intro p e s m args below meth c A Q hQ hx hb hr hml hown hts hlk hA hAB hP hD hS ls hl
  have hown : s.vm.findClass RX7 = some m.cls := hown
  have hl : lv_has ls 4 [(0, .int a0), (1, .int a1)] := hl
  generalize hH : s.heap = H at hP ⊢
  have hS : va_S A s.heap H [] := by rw [← hH]; exact hS
  clear hH
  generalize ([] : List Loc) = locs at hS ⊢
  refine lv_iload_n hx hb dX7_isUnder_0 rfl (lv_at hl 0 rfl) ?_
  refine lv_istore_n (lv' := [(2, .int a0), (0, .int a0), (1, .int a1)]) hx hb dX7_isUnder_1 rfl hl (by decide) rfl (fun ls hl => ?_)
  refine lv_iconst (v := 0) hx hb dX7_isUnder_2 (by decide) ?_
  refine lv_istore_n (lv' := [(3, .int 0), (2, .int a0), (0, .int a0), (1, .int a1)]) hx hb dX7_isUnder_3 rfl hl (by decide) rfl (fun ls hl => ?_)
  have L4 : ∀ (x4 : Prop) (hk4 : x4 → ∀ (H : Heap) (locs : List Loc) (ls : Array Slot), va_P D vwCl wd H → va_D A wd → va_S A s.heap H locs → lv_has ls 4 [] → W p l e (headSpec wsX7_isUnder rm_X7_isUnder).room s m args below meth c H locs 0 0 Q (F0 m 38 ls [])) (n4 : Nat) (x2_1 : Int32) (x3_2 : Int32), wp_X7_isUnder_L4 Qp a1 x4 n4 x2_1 x3_2 → ∀ (H : Heap) (locs : List Loc) (ls : Array Slot), va_P D vwCl wd H → va_D A wd → va_S A s.heap H locs → lv_has ls 4 [(1, .int a1), (2, .int x2_1), (3, .int x3_2)] → W p l e (headSpec wsX7_isUnder rm_X7_isUnder).room s m args below meth c H locs 0 0 Q (F0 m 4 ls []) := by
    intro x4 hk4 n4
    induction n4 with
    | zero => intro x2_1 x3_2 h; exact False.elim h
    | succ n4 ih4 =>
      intro x2_1 x3_2 h H locs ls hP hD hS hl
      refine lv_iload_n hx hb dX7_isUnder_4 rfl (lv_at hl 2 rfl) ?_
      obtain ⟨t_3, z_4, y_5⟩ := hAB.2.2.2.1
      refine va_gets hx hb z_4 hS hown (hts (.fieldLink RX7 283 "BarnBench" "UNDER" "[I") (by decide +kernel)) (fun _ h9 => h9) dX7_isUnder_5 ?_
      refine va_tlen (v := 5) hx hb y_5 hS (by decide) dX7_isUnder_8 ?_
      refine lv_icmp_ge (tgt := 38) hx hb dX7_isUnder_9 (by decide) (fun c_6 => ?_) (fun c_6 => ?_)
      · have h := h.1 c_6
        exact hk4  h H locs ls hP hD hS (lv_sub hl [] rfl)
      · have h := h.2 c_6
        refine lv_iload_n hx hb dX7_isUnder_12 rfl (lv_at hl 1 rfl) ?_
        refine cl_i hD hS hA (va_runS (As := [.int x2_1]) (rest := []) ⟨hx, hb, hml, hown, hts⟩ (ct_X7_isKind h H.size) (va_cwS 1 hts gX7_isUnder_X7_isKind rfl rfl rfl (by decide +kernel) ⟨Nat.le_of_ble_eq_true rfl, Nat.le_of_ble_eq_true rfl⟩) ⟨CPre.blind, wd_pre hAB hP hD hS hA⟩ rfl rfl hl.1 rfl (lv_room (Nat.le_of_ble_eq_true rfl)) dX7_isUnder_13 ⟨Nat.zero_le _, Nat.zero_le _⟩) (fun r_7 u H locs h hP hD hS => ?_)
        refine lv_if_eq (tgt := 38) hx hb dX7_isUnder_16 (by decide) (fun c_8 => ?_) (fun c_8 => ?_)
        · have h := h.1 c_8
          exact hk4  h H locs ls hP hD hS (lv_sub hl [] rfl)
        · have h := h.2 c_8
          refine lv_iload_n hx hb dX7_isUnder_19 rfl (lv_at hl 1 rfl) ?_
          refine lv_iload_n hx hb dX7_isUnder_20 rfl (lv_at hl 0 rfl) ?_
          refine lv_icmp_ne (tgt := 26) hx hb dX7_isUnder_21 (by decide) (fun c_9 => ?_) (fun c_9 => ?_)
          · have h := h.1 c_9
            obtain ⟨t_10, z_11, y_12⟩ := hAB.2.2.2.1
            refine va_gets hx hb z_11 hS hown (hts (.fieldLink RX7 283 "BarnBench" "UNDER" "[I") (by decide +kernel)) (fun _ h9 => h9) dX7_isUnder_26 ?_
            refine lv_iload_n hx hb dX7_isUnder_29 rfl (lv_at hl 1 rfl) ?_
            refine va_ti hx hb y_12 hS h.1 rfl dX7_isUnder_30 ?_
            have h := h.2
            refine lv_topi (fun x2_13 e_14 => ?_)
            have h := h x2_13 e_14
            refine lv_istore_n (lv' := [(2, .int x2_13), (1, .int a1), (3, .int x3_2)]) hx hb dX7_isUnder_31 rfl hl (by decide) rfl (fun ls hl => ?_)
            obtain ⟨x3_15, e_16⟩ : ∃ y : Int32, y = x3_2 + 1 := ⟨_, rfl⟩
            have h := h x3_15 e_16
            refine lv_iinc (v := x3_15) (lv' := [(3, .int x3_15), (2, .int x2_13), (1, .int a1)]) hx hb dX7_isUnder_32 hl (k := 2) rfl (by rw [e_16]; rfl) (by decide) rfl (fun ls hl => ?_)
            refine lv_goto (tgt := 4) hx hb dX7_isUnder_35 (by decide) ?_
            exact ih4 x2_13 x3_15 h H locs ls hP hD hS (lv_sub hl [2, 1, 0] rfl)
          · have h := h.2 c_9
            refine lv_iconst (v := 1) hx hb dX7_isUnder_24 (by decide) ?_
            exact rt_z () hQ hx hb hr hlk hP hD hS ⟨Nat.zero_le _, Nat.zero_le _⟩ (by decide) dX7_isUnder_25 h
  obtain ⟨n4, h⟩ := h
  refine L4 _ (fun  h H locs ls hP hD hS hl => ?_) n4 a0 0 h H locs ls hP hD hS (lv_sub hl [3, 1, 0] rfl)
  refine lv_iconst (v := 0) hx hb dX7_isUnder_38 (by decide) ?_
  exact rt_z () hQ hx hb hr hlk hP hD hS ⟨Nat.zero_le _, Nat.zero_le _⟩ (by decide) dX7_isUnder_39 h
def wp_X7_commonDivisor_L9  (x9 : (Int64) → Prop) : Nat → (Int64) → (Int64) → (Int32) → Prop
  | 0, _, _, _ => False
  | n9 + 1, x4_1, x6_2, x8_3 =>
  ((100 ≤ x8_3 → x9 x4_1) ∧
   (¬ 100 ≤ x8_3 → (((lg_cmp x6_2 0) = 0 → x9 x4_1) ∧
   (¬ (lg_cmp x6_2 0) = 0 → ¬ x6_2 = 0 ∧ ∀ x9_7 : Int64, x9_7 = (x4_1 - x4_1 / x6_2 * x6_2) → ∀ x8_9 : Int32, x8_9 = x8_3 + 1 → (wp_X7_commonDivisor_L9  x9 n9) x6_2 x9_7 x8_9))))
def wp_X7_commonDivisor  (a0 : Int64) (a2 : Int64) (Qp : Int64 → Prop) : Prop :=
  (∃ n9 : Nat, wp_X7_commonDivisor_L9 (fun (x4_4 : Int64) => ((¬ (lg_cmp x4_4 0) = 0 → Qp x4_4) ∧
   ((lg_cmp x4_4 0) = 0 → Qp 1))) n9 a0 a2 0)
def rm_X7_commonDivisor : Room := { frames := 0, cells := 0, slots := 0, locals := 0 }
set_option maxHeartbeats 4000000 in
set_option maxRecDepth 100000 in
theorem ct_X7_commonDivisor {l : Launch} {D : va_G} {cI cJ cZ cE cD cK : ClassId} {wd : va_W}   {a0 : Int64} {a2 : Int64} {Qp : Int64 → Prop}   (h : wp_X7_commonDivisor  a0 a2 Qp) : CTl l yX7_commonDivisor wsX7_commonDivisor rm_X7_commonDivisor D (tyL cI cJ cZ cE cD cK) [.long a0, .long a2] wd (fun (r : Int64) (u : Unit) => Qp r ) (fun u : Unit => wd) 0 0 := by
  refine ent_l (cc := cX7_commonDivisor) (maxL := 11) (ret := (some .long)) (by decide) rfl (Nat.le_of_ble_eq_true rfl) ?_
  intro p e s m args below meth c A Q hQ hx hb hr hml hown hts hlk hA hAB hP hD hS ls hl
  have hown : s.vm.findClass RX7 = some m.cls := hown
  have hl : lv_has ls 11 [(0, .long a0), (2, .long a2)] := hl
  generalize hH : s.heap = H at hP ⊢
  have hS : va_S A s.heap H [] := by rw [← hH]; exact hS
  clear hH
  generalize ([] : List Loc) = locs at hS ⊢
  refine lv_lload_n hx hb dX7_commonDivisor_0 rfl (lv_at hl 0 rfl) ?_
  refine lv_lstore (lv' := [(4, .long a0), (0, .long a0), (2, .long a2)]) hx hb dX7_commonDivisor_1 hl (by decide) rfl (fun ls hl => ?_)
  refine lv_lload_n hx hb dX7_commonDivisor_3 rfl (lv_at hl 2 rfl) ?_
  refine lv_lstore (lv' := [(6, .long a2), (4, .long a0), (0, .long a0), (2, .long a2)]) hx hb dX7_commonDivisor_4 hl (by decide) rfl (fun ls hl => ?_)
  refine lv_iconst (v := 0) hx hb dX7_commonDivisor_6 (by decide) ?_
  refine lv_istore (lv' := [(8, .int 0), (6, .long a2), (4, .long a0), (0, .long a0), (2, .long a2)]) hx hb dX7_commonDivisor_7 hl (by decide) rfl (fun ls hl => ?_)
  have L9 : ∀ (x9 : (Int64) → Prop) (hk9 : ∀ (x4_4 : Int64), x9 x4_4 → ∀ (H : Heap) (locs : List Loc) (ls : Array Slot), va_P D vwCl wd H → va_D A wd → va_S A s.heap H locs → lv_has ls 11 [(4, .long x4_4)] → W p l e (headSpec wsX7_commonDivisor rm_X7_commonDivisor).room s m args below meth c H locs 0 0 Q (F0 m 44 ls [])) (n9 : Nat) (x4_1 : Int64) (x6_2 : Int64) (x8_3 : Int32), wp_X7_commonDivisor_L9  x9 n9 x4_1 x6_2 x8_3 → ∀ (H : Heap) (locs : List Loc) (ls : Array Slot), va_P D vwCl wd H → va_D A wd → va_S A s.heap H locs → lv_has ls 11 [(4, .long x4_1), (6, .long x6_2), (8, .int x8_3)] → W p l e (headSpec wsX7_commonDivisor rm_X7_commonDivisor).room s m args below meth c H locs 0 0 Q (F0 m 9 ls []) := by
    intro x9 hk9 n9
    induction n9 with
    | zero => intro x4_1 x6_2 x8_3 h; exact False.elim h
    | succ n9 ih9 =>
      intro x4_1 x6_2 x8_3 h H locs ls hP hD hS hl
      refine lv_iload hx hb dX7_commonDivisor_9 (lv_at hl 2 rfl) ?_
      refine lv_bipush (v := 100) hx hb dX7_commonDivisor_11 (by decide) ?_
      refine lv_icmp_ge (tgt := 44) hx hb dX7_commonDivisor_13 (by decide) (fun c_5 => ?_) (fun c_5 => ?_)
      · have h := h.1 c_5
        exact hk9 x4_1 h H locs ls hP hD hS (lv_sub hl [0] rfl)
      · have h := h.2 c_5
        refine lv_lload hx hb dX7_commonDivisor_16 (lv_at hl 1 rfl) ?_
        refine lv_lconst (v := 0) hx hb dX7_commonDivisor_18 (by decide) ?_
        refine W.lcmp hx hb dX7_commonDivisor_19 ?_
        refine lv_if_eq (tgt := 44) hx hb dX7_commonDivisor_20 (by decide) (fun c_6 => ?_) (fun c_6 => ?_)
        · have h := h.1 c_6
          exact hk9 x4_1 h H locs ls hP hD hS (lv_sub hl [0] rfl)
        · have h := h.2 c_6
          refine lv_lload hx hb dX7_commonDivisor_23 (lv_at hl 0 rfl) ?_
          refine lv_lload hx hb dX7_commonDivisor_25 (lv_at hl 1 rfl) ?_
          refine lv_lrem hx hb dX7_commonDivisor_27 h.1 ?_
          have h := h.2
          refine lv_topl (fun x9_7 e_8 => ?_)
          have h := h x9_7 e_8
          refine lv_lstore (lv' := [(9, .long x9_7), (4, .long x4_1), (6, .long x6_2), (8, .int x8_3)]) hx hb dX7_commonDivisor_28 hl (by decide) rfl (fun ls hl => ?_)
          refine lv_lload hx hb dX7_commonDivisor_30 (lv_at hl 2 rfl) ?_
          refine lv_lstore (lv' := [(4, .long x6_2), (9, .long x9_7), (6, .long x6_2), (8, .int x8_3)]) hx hb dX7_commonDivisor_32 hl (by decide) rfl (fun ls hl => ?_)
          refine lv_lload hx hb dX7_commonDivisor_34 (lv_at hl 1 rfl) ?_
          refine lv_lstore (lv' := [(6, .long x9_7), (4, .long x6_2), (9, .long x9_7), (8, .int x8_3)]) hx hb dX7_commonDivisor_36 hl (by decide) rfl (fun ls hl => ?_)
          obtain ⟨x8_9, e_10⟩ : ∃ y : Int32, y = x8_3 + 1 := ⟨_, rfl⟩
          have h := h x8_9 e_10
          refine lv_iinc (v := x8_9) (lv' := [(8, .int x8_9), (6, .long x9_7), (4, .long x6_2), (9, .long x9_7)]) hx hb dX7_commonDivisor_38 hl (k := 3) rfl (by rw [e_10]; rfl) (by decide) rfl (fun ls hl => ?_)
          refine lv_goto (tgt := 9) hx hb dX7_commonDivisor_41 (by decide) ?_
          exact ih9 x6_2 x9_7 x8_9 h H locs ls hP hD hS (lv_sub hl [2, 1, 0] rfl)
  obtain ⟨n9, h⟩ := h
  refine L9 _ (fun x4_4 h H locs ls hP hD hS hl => ?_) n9 a0 a2 0 h H locs ls hP hD hS (lv_sub hl [2, 1, 0] rfl)
  refine lv_lload hx hb dX7_commonDivisor_44 (lv_at hl 0 rfl) ?_
  refine lv_lconst (v := 0) hx hb dX7_commonDivisor_46 (by decide) ?_
  refine W.lcmp hx hb dX7_commonDivisor_47 ?_
  refine lv_if_ne (tgt := 55) hx hb dX7_commonDivisor_48 (by decide) (fun c_11 => ?_) (fun c_11 => ?_)
  · have h := h.1 c_11
    refine lv_lload hx hb dX7_commonDivisor_55 (lv_at hl 0 rfl) ?_
    exact rt_l () hQ hx hb hr hlk hP hD hS ⟨Nat.zero_le _, Nat.zero_le _⟩ dX7_commonDivisor_57 h
  · have h := h.2 c_11
    refine lv_lconst (v := 1) hx hb dX7_commonDivisor_51 (by decide) ?_
    refine lv_goto (tgt := 57) hx hb dX7_commonDivisor_52 (by decide) ?_
    exact rt_l () hQ hx hb hr hlk hP hD hS ⟨Nat.zero_le _, Nat.zero_le _⟩ dX7_commonDivisor_57 h
