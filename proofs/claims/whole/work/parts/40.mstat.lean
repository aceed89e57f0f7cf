def wp_X9_in  (a0 : Int64) (a2 : Int64) (a4 : Int64) (Qp : Int32 → Prop) : Prop :=
  (((lg_cmp a0 a2) < 0 → Qp 0) ∧
   (¬ (lg_cmp a0 a2) < 0 → ((0 < (lg_cmp a0 a4) → Qp 0) ∧
   (¬ 0 < (lg_cmp a0 a4) → Qp 1))))
def rm_X9_in : Room := { frames := 0, cells := 0, slots := 0, locals := 0 }
set_option maxHeartbeats 4000000 in
set_option maxRecDepth 100000 in
theorem ct_X9_in {l : Launch} {D : va_G} {cI cJ cZ cE cD cK : ClassId} {wd : va_W}   {a0 : Int64} {a2 : Int64} {a4 : Int64} {Qp : Int32 → Prop}   (h : wp_X9_in  a0 a2 a4 Qp) : CTi l yX9_in wsX9_in rm_X9_in D (tyL cI cJ cZ cE cD cK) [.long a0, .long a2, .long a4] wd (fun (r : Int32) (u : Unit) => Qp r ) (fun u : Unit => wd) 0 0 := by
  refine ent_i (cc := cX9_in) (maxL := 6) (ret := (some .boolean)) (by decide) rfl (Nat.le_of_ble_eq_true rfl) ?_
  intro p e s m args below meth c A Q hQ hx hb hr hml hown hts hlk hA hAB hP hD hS ls hl
  have hown : s.vm.findClass RX9 = some m.cls := hown
  have hl : lv_has ls 6 [(0, .long a0), (2, .long a2), (4, .long a4)] := hl
  generalize hH : s.heap = H at hP ⊢
  have hS : va_S A s.heap H [] := by rw [← hH]; exact hS
  clear hH
  generalize ([] : List Loc) = locs at hS ⊢
  refine lv_lload_n hx hb dX9_in_0 rfl (lv_at hl 0 rfl) ?_
  refine lv_lload_n hx hb dX9_in_1 rfl (lv_at hl 1 rfl) ?_
  refine W.lcmp hx hb dX9_in_2 ?_
  refine lv_if_lt (tgt := 17) hx hb dX9_in_3 (by decide) (fun c_1 => ?_) (fun c_1 => ?_)
  · have h := h.1 c_1
    refine lv_iconst (v := 0) hx hb dX9_in_17 (by decide) ?_
    exact rt_z () hQ hx hb hr hlk hP hD hS ⟨Nat.zero_le _, Nat.zero_le _⟩ (by decide) dX9_in_18 h
  · have h := h.2 c_1
    refine lv_lload_n hx hb dX9_in_6 rfl (lv_at hl 0 rfl) ?_
    refine lv_lload hx hb dX9_in_7 (lv_at hl 2 rfl) ?_
    refine W.lcmp hx hb dX9_in_9 ?_
    refine lv_if_gt (tgt := 17) hx hb dX9_in_10 (by decide) (fun c_2 => ?_) (fun c_2 => ?_)
    · have h := h.1 c_2
      refine lv_iconst (v := 0) hx hb dX9_in_17 (by decide) ?_
      exact rt_z () hQ hx hb hr hlk hP hD hS ⟨Nat.zero_le _, Nat.zero_le _⟩ (by decide) dX9_in_18 h
    · have h := h.2 c_2
      refine lv_iconst (v := 1) hx hb dX9_in_13 (by decide) ?_
      refine lv_goto (tgt := 18) hx hb dX9_in_14 (by decide) ?_
      exact rt_z () hQ hx hb hr hlk hP hD hS ⟨Nat.zero_le _, Nat.zero_le _⟩ (by decide) dX9_in_18 h
def wp_X9_isBoard  (a0 : Int32) (Qp : Int32 → Prop) : Prop :=
  wp_X9_in (Int32.toInt64 a0) 0 3 (fun (r_1 : Int32) => (r_1 = 0 ∨ r_1 = 1) ∧ Qp r_1)
def rm_X9_isBoard : Room := { frames := 1, cells := 0, slots := 0, locals := 25 }
set_option maxHeartbeats 4000000 in
set_option maxRecDepth 100000 in
theorem ct_X9_isBoard {l : Launch} {D : va_G} {cI cJ cZ cE cD cK : ClassId} {wd : va_W}   {a0 : Int32} {Qp : Int32 → Prop}   (h : wp_X9_isBoard  a0 Qp) : CTi l yX9_isBoard wsX9_isBoard rm_X9_isBoard D (tyL cI cJ cZ cE cD cK) [.int a0] wd (fun (r : Int32) (u : Unit) => Qp r ) (fun u : Unit => wd) 0 0 := by
  refine ent_i (cc := cX9_isBoard) (maxL := 1) (ret := (some .boolean)) (by decide) rfl (Nat.le_of_ble_eq_true rfl) ?_
  intro p e s m args below meth c A Q hQ hx hb hr hml hown hts hlk hA hAB hP hD hS ls hl
  have hown : s.vm.findClass RX9 = some m.cls := hown
  have hl : lv_has ls 1 [(0, .int a0)] := hl
  generalize hH : s.heap = H at hP ⊢
  have hS : va_S A s.heap H [] := by rw [← hH]; exact hS
  clear hH
  generalize ([] : List Loc) = locs at hS ⊢
  refine lv_iload_n hx hb dX9_isBoard_0 rfl (lv_at hl 0 rfl) ?_
  refine lv_i2l hx hb dX9_isBoard_1 rfl ?_
  refine lv_lconst (v := 0) hx hb dX9_isBoard_2 (by decide) ?_
  refine lv_ldc2 (v := 3) hx hb hown (hts (.constantLong RX9 101 3) (by decide +kernel)) dX9_isBoard_3 ?_
  refine cl_i hD hS hA (va_runS (As := [.long (Int32.toInt64 a0), .long 0, .long 3]) (rest := []) ⟨hx, hb, hml, hown, hts⟩ (ct_X9_in h H.size) (va_cwS 3 hts gX9_isBoard_X9_in rfl rfl rfl (by decide +kernel) ⟨Nat.le_of_ble_eq_true rfl, Nat.le_of_ble_eq_true rfl⟩) ⟨CPre.blind, wd_pre hAB hP hD hS hA⟩ rfl rfl hl.1 rfl (lv_room (Nat.le_of_ble_eq_true rfl)) dX9_isBoard_6 ⟨Nat.zero_le _, Nat.zero_le _⟩) (fun r_1 u H locs h hP hD hS => ?_)
  exact rt_z () hQ hx hb hr hlk hP hD hS ⟨Nat.zero_le _, Nat.zero_le _⟩ h.1 dX9_isBoard_9 h.2
def wp_X9_needs  (a0 : Int32) (Qp : Int32 → Prop) : Prop :=
  ((¬ a0 = 0 → ((¬ a0 = 2 → ((¬ a0 = 4 → Qp 1) ∧
   (a0 = 4 → Qp 4))) ∧
   (a0 = 2 → Qp 5))) ∧
   (a0 = 0 → Qp 3))
def rm_X9_needs : Room := { frames := 0, cells := 0, slots := 0, locals := 0 }
set_option maxHeartbeats 4000000 in
set_option maxRecDepth 100000 in
theorem ct_X9_needs {l : Launch} {D : va_G} {cI cJ cZ cE cD cK : ClassId} {wd : va_W}   {a0 : Int32} {Qp : Int32 → Prop}   (h : wp_X9_needs  a0 Qp) : CTi l yX9_needs wsX9_needs rm_X9_needs D (tyL cI cJ cZ cE cD cK) [.int a0] wd (fun (r : Int32) (u : Unit) => Qp r ) (fun u : Unit => wd) 0 0 := by
  refine ent_i (cc := cX9_needs) (maxL := 1) (ret := (some .int)) (by decide) rfl (Nat.le_of_ble_eq_true rfl) ?_
  intro p e s m args below meth c A Q hQ hx hb hr hml hown hts hlk hA hAB hP hD hS ls hl
  have hown : s.vm.findClass RX9 = some m.cls := hown
  have hl : lv_has ls 1 [(0, .int a0)] := hl
  generalize hH : s.heap = H at hP ⊢
  have hS : va_S A s.heap H [] := by rw [← hH]; exact hS
  clear hH
  generalize ([] : List Loc) = locs at hS ⊢
  refine lv_iload_n hx hb dX9_needs_0 rfl (lv_at hl 0 rfl) ?_
  refine lv_if_ne (tgt := 8) hx hb dX9_needs_1 (by decide) (fun c_1 => ?_) (fun c_1 => ?_)
  · have h := h.1 c_1
    refine lv_iload_n hx hb dX9_needs_8 rfl (lv_at hl 0 rfl) ?_
    refine lv_iconst (v := 2) hx hb dX9_needs_9 (by decide) ?_
    refine lv_icmp_ne (tgt := 17) hx hb dX9_needs_10 (by decide) (fun c_2 => ?_) (fun c_2 => ?_)
    · have h := h.1 c_2
      refine lv_iload_n hx hb dX9_needs_17 rfl (lv_at hl 0 rfl) ?_
      refine lv_iconst (v := 4) hx hb dX9_needs_18 (by decide) ?_
      refine lv_icmp_ne (tgt := 26) hx hb dX9_needs_19 (by decide) (fun c_3 => ?_) (fun c_3 => ?_)
      · have h := h.1 c_3
        refine lv_iconst (v := 1) hx hb dX9_needs_26 (by decide) ?_
        exact rt_i () hQ hx hb hr hlk hP hD hS ⟨Nat.zero_le _, Nat.zero_le _⟩ dX9_needs_27 h
      · have h := h.2 c_3
        refine lv_iconst (v := 4) hx hb dX9_needs_22 (by decide) ?_
        refine lv_goto (tgt := 27) hx hb dX9_needs_23 (by decide) ?_
        exact rt_i () hQ hx hb hr hlk hP hD hS ⟨Nat.zero_le _, Nat.zero_le _⟩ dX9_needs_27 h
    · have h := h.2 c_2
      refine lv_iconst (v := 5) hx hb dX9_needs_13 (by decide) ?_
      refine lv_goto (tgt := 27) hx hb dX9_needs_14 (by decide) ?_
      exact rt_i () hQ hx hb hr hlk hP hD hS ⟨Nat.zero_le _, Nat.zero_le _⟩ dX9_needs_27 h
  · have h := h.2 c_1
    refine lv_iconst (v := 3) hx hb dX9_needs_4 (by decide) ?_
    refine lv_goto (tgt := 27) hx hb dX9_needs_5 (by decide) ?_
    exact rt_i () hQ hx hb hr hlk hP hD hS ⟨Nat.zero_le _, Nat.zero_le _⟩ dX9_needs_27 h
def wp_X9_common_L6  (x6 : (Int64) → Prop) : Nat → (Int64) → (Int64) → Prop
  | 0, _, _ => False
  | n6 + 1, x4_1, x6_2 =>
  (((lg_cmp x6_2 0) ≤ 0 → x6 x4_1) ∧
   (¬ (lg_cmp x6_2 0) ≤ 0 → ¬ x6_2 = 0 ∧ ∀ x8_5 : Int64, x8_5 = (x4_1 - x4_1 / x6_2 * x6_2) → (wp_X9_common_L6  x6 n6) x6_2 x8_5))
def wp_X9_common  (a0 : Int64) (a2 : Int64) (Qp : Int64 → Prop) : Prop :=
  (∃ n6 : Nat, wp_X9_common_L6 (fun (x4_3 : Int64) => Qp x4_3) n6 a0 a2)
def rm_X9_common : Room := { frames := 0, cells := 0, slots := 0, locals := 0 }
set_option maxHeartbeats 4000000 in
set_option maxRecDepth 100000 in
theorem ct_X9_common {l : Launch} {D : va_G} {cI cJ cZ cE cD cK : ClassId} {wd : va_W}   {a0 : Int64} {a2 : Int64} {Qp : Int64 → Prop}   (h : wp_X9_common  a0 a2 Qp) : CTl l yX9_common wsX9_common rm_X9_common D (tyL cI cJ cZ cE cD cK) [.long a0, .long a2] wd (fun (r : Int64) (u : Unit) => Qp r ) (fun u : Unit => wd) 0 0 := by
  refine ent_l (cc := cX9_common) (maxL := 10) (ret := (some .long)) (by decide) rfl (Nat.le_of_ble_eq_true rfl) ?_
  intro p e s m args below meth c A Q hQ hx hb hr hml hown hts hlk hA hAB hP hD hS ls hl
  have hown : s.vm.findClass RX9 = some m.cls := hown
  have hl : lv_has ls 10 [(0, .long a0), (2, .long a2)] := hl
  generalize hH : s.heap = H at hP ⊢
  have hS : va_S A s.heap H [] := by rw [← hH]; exact hS
  clear hH
  generalize ([] : List Loc) = locs at hS ⊢
  refine lv_lload_n hx hb dX9_common_0 rfl (lv_at hl 0 rfl) ?_
  refine lv_lstore (lv' := [(4, .long a0), (0, .long a0), (2, .long a2)]) hx hb dX9_common_1 hl (by decide) rfl (fun ls hl => ?_)
  refine lv_lload_n hx hb dX9_common_3 rfl (lv_at hl 2 rfl) ?_
  refine lv_lstore (lv' := [(6, .long a2), (4, .long a0), (0, .long a0), (2, .long a2)]) hx hb dX9_common_4 hl (by decide) rfl (fun ls hl => ?_)
  have L6 : ∀ (x6 : (Int64) → Prop) (hk6 : ∀ (x4_3 : Int64), x6 x4_3 → ∀ (H : Heap) (locs : List Loc) (ls : Array Slot), va_P D vwCl wd H → va_D A wd → va_S A s.heap H locs → lv_has ls 10 [(4, .long x4_3)] → W p l e (headSpec wsX9_common rm_X9_common).room s m args below meth c H locs 0 0 Q (F0 m 31 ls [])) (n6 : Nat) (x4_1 : Int64) (x6_2 : Int64), wp_X9_common_L6  x6 n6 x4_1 x6_2 → ∀ (H : Heap) (locs : List Loc) (ls : Array Slot), va_P D vwCl wd H → va_D A wd → va_S A s.heap H locs → lv_has ls 10 [(4, .long x4_1), (6, .long x6_2)] → W p l e (headSpec wsX9_common rm_X9_common).room s m args below meth c H locs 0 0 Q (F0 m 6 ls []) := by
    intro x6 hk6 n6
    induction n6 with
    | zero => intro x4_1 x6_2 h; exact False.elim h
    | succ n6 ih6 =>
      intro x4_1 x6_2 h H locs ls hP hD hS hl
      refine lv_lload hx hb dX9_common_6 (lv_at hl 1 rfl) ?_
      refine lv_lconst (v := 0) hx hb dX9_common_8 (by decide) ?_
      refine W.lcmp hx hb dX9_common_9 ?_
      refine lv_if_le (tgt := 31) hx hb dX9_common_10 (by decide) (fun c_4 => ?_) (fun c_4 => ?_)
      · have h := h.1 c_4
        exact hk6 x4_1 h H locs ls hP hD hS (lv_sub hl [0] rfl)
      · have h := h.2 c_4
        refine lv_lload hx hb dX9_common_13 (lv_at hl 0 rfl) ?_
        refine lv_lload hx hb dX9_common_15 (lv_at hl 1 rfl) ?_
        refine lv_lrem hx hb dX9_common_17 h.1 ?_
        have h := h.2
        refine lv_topl (fun x8_5 e_6 => ?_)
        have h := h x8_5 e_6
        refine lv_lstore (lv' := [(8, .long x8_5), (4, .long x4_1), (6, .long x6_2)]) hx hb dX9_common_18 hl (by decide) rfl (fun ls hl => ?_)
        refine lv_lload hx hb dX9_common_20 (lv_at hl 2 rfl) ?_
        refine lv_lstore (lv' := [(4, .long x6_2), (8, .long x8_5), (6, .long x6_2)]) hx hb dX9_common_22 hl (by decide) rfl (fun ls hl => ?_)
        refine lv_lload hx hb dX9_common_24 (lv_at hl 1 rfl) ?_
        refine lv_lstore (lv' := [(6, .long x8_5), (4, .long x6_2), (8, .long x8_5)]) hx hb dX9_common_26 hl (by decide) rfl (fun ls hl => ?_)
        refine lv_goto (tgt := 6) hx hb dX9_common_28 (by decide) ?_
        exact ih6 x6_2 x8_5 h H locs ls hP hD hS (lv_sub hl [1, 0] rfl)
  obtain ⟨n6, h⟩ := h
  refine L6 _ (fun x4_3 h H locs ls hP hD hS hl => ?_) n6 a0 a2 h H locs ls hP hD hS (lv_sub hl [1, 0] rfl)
  refine lv_lload hx hb dX9_common_31 (lv_at hl 0 rfl) ?_
  exact rt_l () hQ hx hb hr hlk hP hD hS ⟨Nat.zero_le _, Nat.zero_le _⟩ dX9_common_33 h
