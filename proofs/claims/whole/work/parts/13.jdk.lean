def jFill (f : Nat → Int32) (n : Nat) (v : Int32) : Nat → Int32 := fun j => if j < n then v else f j
def jFillL (f : Nat → Int64) (n : Nat) (v : Int64) : Nat → Int64 := fun j => if j < n then v else f j
theorem jFill_0 (f : Nat → Int32) (v : Int32) : jFill f 0 v = f := by funext j; simp [jFill]
theorem jFillL_0 (f : Nat → Int64) (v : Int64) : jFillL f 0 v = f := by funext j; simp [jFillL]
theorem jFill_s (f : Nat → Int32) (n : Nat) (v : Int32) : upd (jFill f n v) n v = jFill f (n + 1) v := by
  funext j
  by_cases h : j = n
  · subst h; simp [jFill, upd]
  · simp only [jFill, upd, h, if_false]
    by_cases h2 : j < n
    · rw [if_pos h2, if_pos (by omega)]
    · rw [if_neg h2, if_neg (by omega)]
theorem jFillL_s (f : Nat → Int64) (n : Nat) (v : Int64) : vp_updL (jFillL f n v) n v = jFillL f (n + 1) v := by
  funext j
  by_cases h : j = n
  · subst h; simp [jFillL, vp_updL]
  · simp only [jFillL, vp_updL, h, if_false]
    by_cases h2 : j < n
    · rw [if_pos h2, if_pos (by omega)]
    · rw [if_neg h2, if_neg (by omega)]
theorem set_self {α : Type} {l : List α} {q : Nat} {x : α} (h : l[q]? = some x) : l.set q x = l := by
  apply List.ext_getElem?
  intro j
  by_cases hj : j = q
  · subst hj
    rw [List.getElem?_set_self (List.getElem?_eq_some_iff.mp h).1, h]
  · rw [List.getElem?_set_ne (Ne.symm hj)]
def rm_J7_fill : Room := { frames := 0, cells := 0, slots := 0, locals := 0 }
set_option maxHeartbeats 4000000 in
set_option maxRecDepth 100000 in
theorem ct_J7_fill_53178 {l : Launch} {D : va_G} {cI cJ cZ cE cD cK : ClassId} {wd : va_W} {q a n : Nat} {f : Nat → Int32} {v : Int32} (hq : wd[q]? = some (a, .inl (cI, n, .inl f))) (hn : n < 2 ^ 31) : CTv l yJ7_fill_53178 wsJ7_fill_53178 rm_J7_fill D (tyL cI cJ cZ cE cD cK) [.ref a, .int v] wd (fun _ : Unit => True) (fun _ : Unit => wd.set q (a, .inl (cI, n, .inl (jFill f n v)))) 0 0 := by
  refine ent_v (cc := cJ7_fill_53178) (maxL := 4) (ret := none) (by decide) rfl (Nat.le_of_ble_eq_true rfl) ?_
  intro p e s m args below meth c A Q hQ hx hb hr hml hown hts hlk hA hAB hP hD hS ls hl
  have hl : lv_has ls 4 [(0, .ref a), (1, .int v)] := hl
  generalize hH : s.heap = H at hP ⊢
  have hS : va_S A s.heap H [] := by rw [← hH]; exact hS
  clear hH
  generalize ([] : List Loc) = locs at hS ⊢
  have hlen : q < wd.length := (List.getElem?_eq_some_iff.mp hq).1
  have key : ∀ (k i : Nat), i ≤ n → n ≤ i + k → ∀ (H : Heap) (locs : List Loc) (ls : Array Slot), va_P D vwCl (wd.set q (a, .inl (cI, n, .inl (jFill f i v)))) H → va_D A (wd.set q (a, .inl (cI, n, .inl (jFill f i v)))) → va_S A s.heap H locs → lv_has ls 4 [(2, .int (nI i)), (3, .int (nI n)), (0, .ref a), (1, .int v)] → W p l e (headSpec wsJ7_fill_53178 rm_J7_fill).room s m args below meth c H locs 0 0 Q (F0 m 5 ls []) := by
    intro k
    induction k with
    | zero =>
      intro i h1 h2 H locs ls hP hD hS hl
      have e : i = n := by omega
      subst e
      refine lv_iload_n hx hb dJ7_fill_53178_5 rfl (lv_at hl 0 rfl) ?_
      refine lv_iload_n hx hb dJ7_fill_53178_6 rfl (lv_at hl 1 rfl) ?_
      refine lv_icmp_ge (tgt := 20) hx hb dJ7_fill_53178_7 (by decide) (fun c => ?_) (fun c => ?_)
      · exact rt_v () hQ hx hb hr hlk hP hD hS ⟨Nat.zero_le _, Nat.zero_le _⟩ dJ7_fill_53178_20 trivial
      · exact absurd (nI_le (Nat.le_refl _) hn) c
    | succ k ih =>
      intro i h1 h2 H locs ls hP hD hS hl
      refine lv_iload_n hx hb dJ7_fill_53178_5 rfl (lv_at hl 0 rfl) ?_
      refine lv_iload_n hx hb dJ7_fill_53178_6 rfl (lv_at hl 1 rfl) ?_
      refine lv_icmp_ge (tgt := 20) hx hb dJ7_fill_53178_7 (by decide) (fun c => ?_) (fun c => ?_)
      · have e : i = n := by
          rcases Nat.lt_or_ge i n with z | z
          · exact absurd c (nI_ge z hn)
          · omega
        subst e
        exact rt_v () hQ hx hb hr hlk hP hD hS ⟨Nat.zero_le _, Nat.zero_le _⟩ dJ7_fill_53178_20 trivial
      · have hlt : i < n := by
          rcases Nat.lt_or_ge i n with z | z
          · exact z
          · exact absurd (nI_le z (by omega)) c
        refine lv_aload_n hx hb dJ7_fill_53178_10 rfl (lv_at hl 2 rfl) ?_
        refine lv_iload_n hx hb dJ7_fill_53178_11 rfl (lv_at hl 0 rfl) ?_
        refine lv_iload_n hx hb dJ7_fill_53178_12 rfl (lv_at hl 3 rfl) ?_
        refine va_iast hx hb hAB.1 hP hD hS q 0 (List.getElem?_set_self hlen) rfl (vp_in_nI hlt hn) dJ7_fill_53178_13 (fun H locs hP hD hS => ?_)
        rw [List.set_set, nI_clamp (by omega), jFill_s] at hP hD
        refine lv_iinc (v := nI (i + 1)) (lv' := [(2, .int (nI (i + 1))), (3, .int (nI n)), (0, .ref a), (1, .int v)]) hx hb dJ7_fill_53178_14 hl (k := 0) rfl (nI_1 i) (by decide) rfl (fun ls hl => ?_)
        refine lv_goto (tgt := 5) hx hb dJ7_fill_53178_17 (by decide) ?_
        exact ih (i + 1) (by omega) (by omega) H locs ls hP hD hS hl
  refine lv_iconst (v := 0) hx hb dJ7_fill_53178_0 (by decide) ?_
  refine lv_istore_n (lv' := [(2, .int 0), (0, .ref a), (1, .int v)]) hx hb dJ7_fill_53178_1 rfl hl (by decide) rfl (fun ls hl => ?_)
  refine lv_aload_n hx hb dJ7_fill_53178_2 rfl (lv_at hl 1 rfl) ?_
  refine va_alen hx hb hAB.1 hP q 0 hq rfl (v := nI n) rfl dJ7_fill_53178_3 ?_
  refine lv_istore_n (lv' := [(3, .int (nI n)), (2, .int 0), (0, .ref a), (1, .int v)]) hx hb dJ7_fill_53178_4 rfl hl (by decide) rfl (fun ls hl => ?_)
  exact key n 0 (Nat.zero_le _) (by omega) H locs ls (by rw [jFill_0, set_self hq]; exact hP) (by rw [jFill_0, set_self hq]; exact hD) hS (lv_sub hl [1, 0, 2, 3] rfl)
set_option maxHeartbeats 4000000 in
set_option maxRecDepth 100000 in
theorem ct_J7_fill_d0a16 {l : Launch} {D : va_G} {cI cJ cZ cE cD cK : ClassId} {wd : va_W} {q a n : Nat} {f : Nat → Int64} {v : Int64} (hq : wd[q]? = some (a, .inl (cJ, n, .inr (.inl f)))) (hn : n < 2 ^ 31) : CTv l yJ7_fill_d0a16 wsJ7_fill_d0a16 rm_J7_fill D (tyL cI cJ cZ cE cD cK) [.ref a, .long v] wd (fun _ : Unit => True) (fun _ : Unit => wd.set q (a, .inl (cJ, n, .inr (.inl (jFillL f n v))))) 0 0 := by
  refine ent_v (cc := cJ7_fill_d0a16) (maxL := 5) (ret := none) (by decide) rfl (Nat.le_of_ble_eq_true rfl) ?_
  intro p e s m args below meth c A Q hQ hx hb hr hml hown hts hlk hA hAB hP hD hS ls hl
  have hl : lv_has ls 5 [(0, .ref a), (1, .long v)] := hl
  generalize hH : s.heap = H at hP ⊢
  have hS : va_S A s.heap H [] := by rw [← hH]; exact hS
  clear hH
  generalize ([] : List Loc) = locs at hS ⊢
  have hlen : q < wd.length := (List.getElem?_eq_some_iff.mp hq).1
  have key : ∀ (k i : Nat), i ≤ n → n ≤ i + k → ∀ (H : Heap) (locs : List Loc) (ls : Array Slot), va_P D vwCl (wd.set q (a, .inl (cJ, n, .inr (.inl (jFillL f i v))))) H → va_D A (wd.set q (a, .inl (cJ, n, .inr (.inl (jFillL f i v))))) → va_S A s.heap H locs → lv_has ls 5 [(3, .int (nI i)), (4, .int (nI n)), (0, .ref a), (1, .long v)] → W p l e (headSpec wsJ7_fill_d0a16 rm_J7_fill).room s m args below meth c H locs 0 0 Q (F0 m 6 ls []) := by
    intro k
    induction k with
    | zero =>
      intro i h1 h2 H locs ls hP hD hS hl
      have e : i = n := by omega
      subst e
      refine lv_iload_n hx hb dJ7_fill_d0a16_6 rfl (lv_at hl 0 rfl) ?_
      refine lv_iload hx hb dJ7_fill_d0a16_7 (lv_at hl 1 rfl) ?_
      refine lv_icmp_ge (tgt := 22) hx hb dJ7_fill_d0a16_9 (by decide) (fun c => ?_) (fun c => ?_)
      · exact rt_v () hQ hx hb hr hlk hP hD hS ⟨Nat.zero_le _, Nat.zero_le _⟩ dJ7_fill_d0a16_22 trivial
      · exact absurd (nI_le (Nat.le_refl _) hn) c
    | succ k ih =>
      intro i h1 h2 H locs ls hP hD hS hl
      refine lv_iload_n hx hb dJ7_fill_d0a16_6 rfl (lv_at hl 0 rfl) ?_
      refine lv_iload hx hb dJ7_fill_d0a16_7 (lv_at hl 1 rfl) ?_
      refine lv_icmp_ge (tgt := 22) hx hb dJ7_fill_d0a16_9 (by decide) (fun c => ?_) (fun c => ?_)
      · have e : i = n := by
          rcases Nat.lt_or_ge i n with z | z
          · exact absurd c (nI_ge z hn)
          · omega
        subst e
        exact rt_v () hQ hx hb hr hlk hP hD hS ⟨Nat.zero_le _, Nat.zero_le _⟩ dJ7_fill_d0a16_22 trivial
      · have hlt : i < n := by
          rcases Nat.lt_or_ge i n with z | z
          · exact z
          · exact absurd (nI_le z (by omega)) c
        refine lv_aload_n hx hb dJ7_fill_d0a16_12 rfl (lv_at hl 2 rfl) ?_
        refine lv_iload_n hx hb dJ7_fill_d0a16_13 rfl (lv_at hl 0 rfl) ?_
        refine lv_lload_n hx hb dJ7_fill_d0a16_14 rfl (lv_at hl 3 rfl) ?_
        refine va_last hx hb hAB.1 hP hD hS q 1 (List.getElem?_set_self hlen) rfl (vp_in_nI hlt hn) dJ7_fill_d0a16_15 (fun H locs hP hD hS => ?_)
        rw [List.set_set, nI_clamp (by omega), jFillL_s] at hP hD
        refine lv_iinc (v := nI (i + 1)) (lv' := [(3, .int (nI (i + 1))), (4, .int (nI n)), (0, .ref a), (1, .long v)]) hx hb dJ7_fill_d0a16_16 hl (k := 0) rfl (nI_1 i) (by decide) rfl (fun ls hl => ?_)
        refine lv_goto (tgt := 6) hx hb dJ7_fill_d0a16_19 (by decide) ?_
        exact ih (i + 1) (by omega) (by omega) H locs ls hP hD hS hl
  refine lv_iconst (v := 0) hx hb dJ7_fill_d0a16_0 (by decide) ?_
  refine lv_istore_n (lv' := [(3, .int 0), (0, .ref a), (1, .long v)]) hx hb dJ7_fill_d0a16_1 rfl hl (by decide) rfl (fun ls hl => ?_)
  refine lv_aload_n hx hb dJ7_fill_d0a16_2 rfl (lv_at hl 1 rfl) ?_
  refine va_alen hx hb hAB.1 hP q 1 hq rfl (v := nI n) rfl dJ7_fill_d0a16_3 ?_
  refine lv_istore (lv' := [(4, .int (nI n)), (3, .int 0), (0, .ref a), (1, .long v)]) hx hb dJ7_fill_d0a16_4 hl (by decide) rfl (fun ls hl => ?_)
  exact key n 0 (Nat.zero_le _) (by omega) H locs ls (by rw [jFillL_0, set_self hq]; exact hP) (by rw [jFillL_0, set_self hq]; exact hD) hS (lv_sub hl [1, 0, 2, 3] rfl)
/-- Integer.bitCount, as its bytecode reckons it -/
def jBits (x : Int32) : Int32 := let x1 : Int32 := (x - ((Int32.toUInt32 x >>> (Int32.toUInt32 1 &&& Int32.toUInt32 31)).toInt32 &&& 1431655765)); let x2 : Int32 := ((x1 &&& 858993459) + ((Int32.toUInt32 x1 >>> (Int32.toUInt32 2 &&& Int32.toUInt32 31)).toInt32 &&& 858993459)); let x3 : Int32 := ((x2 + (Int32.toUInt32 x2 >>> (Int32.toUInt32 4 &&& Int32.toUInt32 31)).toInt32) &&& 252645135); let x4 : Int32 := (x3 + (Int32.toUInt32 x3 >>> (Int32.toUInt32 8 &&& Int32.toUInt32 31)).toInt32); let x5 : Int32 := (x4 + (Int32.toUInt32 x4 >>> (Int32.toUInt32 16 &&& Int32.toUInt32 31)).toInt32); (x5 &&& 63)
def rm_J6_bitCount : Room := { frames := 0, cells := 0, slots := 0, locals := 0 }
set_option maxHeartbeats 4000000 in
set_option maxRecDepth 100000 in
theorem ct_J6_bitCount {l : Launch} {D : va_G} {cI cJ cZ cE cD cK : ClassId} {wd : va_W} {x : Int32} : CTi l yJ6_bitCount_0f7a4 wsJ6_bitCount_0f7a4 rm_J6_bitCount D (tyL cI cJ cZ cE cD cK) [.int x] wd (fun (r : Int32) (_ : Unit) => r = jBits x) (fun _ : Unit => wd) 0 0 := by
  refine ent_i (cc := cJ6_bitCount_0f7a4) (maxL := 1) (ret := (some .int)) (by decide) rfl (Nat.le_of_ble_eq_true rfl) ?_
  intro p e s m args below meth c A Q hQ hx hb hr hml hown hts hlk hA hAB hP hD hS ls hl
  have hown : s.vm.findClass RJ6 = some m.cls := hown
  have hl : lv_has ls 1 [(0, .int x)] := hl
  refine lv_iload_n hx hb dJ6_bitCount_0f7a4_0 rfl (lv_at hl 0 rfl) ?_
  refine lv_iload_n hx hb dJ6_bitCount_0f7a4_1 rfl (lv_at hl 0 rfl) ?_
  refine lv_iconst (v := 1) hx hb dJ6_bitCount_0f7a4_2 (by decide) ?_
  refine lv_iushr hx hb dJ6_bitCount_0f7a4_3 rfl ?_
  refine lv_ldcw (v := 1431655765) hx hb hown (hts (.constant RJ6 265 1431655765) (by decide +kernel)) dJ6_bitCount_0f7a4_4 ?_
  refine lv_iand hx hb dJ6_bitCount_0f7a4_7 ?_
  refine lv_isub hx hb dJ6_bitCount_0f7a4_8 ?_
  refine lv_topi (fun x1 e1 => ?_)
  refine lv_istore_n (lv' := [(0, .int x1)]) hx hb dJ6_bitCount_0f7a4_9 rfl hl (by decide) rfl (fun ls hl => ?_)
  refine lv_iload_n hx hb dJ6_bitCount_0f7a4_10 rfl (lv_at hl 0 rfl) ?_
  refine lv_ldcw (v := 858993459) hx hb hown (hts (.constant RJ6 266 858993459) (by decide +kernel)) dJ6_bitCount_0f7a4_11 ?_
  refine lv_iand hx hb dJ6_bitCount_0f7a4_14 ?_
  refine lv_iload_n hx hb dJ6_bitCount_0f7a4_15 rfl (lv_at hl 0 rfl) ?_
  refine lv_iconst (v := 2) hx hb dJ6_bitCount_0f7a4_16 (by decide) ?_
  refine lv_iushr hx hb dJ6_bitCount_0f7a4_17 rfl ?_
  refine lv_ldcw (v := 858993459) hx hb hown (hts (.constant RJ6 266 858993459) (by decide +kernel)) dJ6_bitCount_0f7a4_18 ?_
  refine lv_iand hx hb dJ6_bitCount_0f7a4_21 ?_
  refine lv_iadd hx hb dJ6_bitCount_0f7a4_22 ?_
  refine lv_topi (fun x2 e2 => ?_)
  refine lv_istore_n (lv' := [(0, .int x2)]) hx hb dJ6_bitCount_0f7a4_23 rfl hl (by decide) rfl (fun ls hl => ?_)
  refine lv_iload_n hx hb dJ6_bitCount_0f7a4_24 rfl (lv_at hl 0 rfl) ?_
  refine lv_iload_n hx hb dJ6_bitCount_0f7a4_25 rfl (lv_at hl 0 rfl) ?_
  refine lv_iconst (v := 4) hx hb dJ6_bitCount_0f7a4_26 (by decide) ?_
  refine lv_iushr hx hb dJ6_bitCount_0f7a4_27 rfl ?_
  refine lv_iadd hx hb dJ6_bitCount_0f7a4_28 ?_
  refine lv_ldcw (v := 252645135) hx hb hown (hts (.constant RJ6 267 252645135) (by decide +kernel)) dJ6_bitCount_0f7a4_29 ?_
  refine lv_iand hx hb dJ6_bitCount_0f7a4_32 ?_
  refine lv_topi (fun x3 e3 => ?_)
  refine lv_istore_n (lv' := [(0, .int x3)]) hx hb dJ6_bitCount_0f7a4_33 rfl hl (by decide) rfl (fun ls hl => ?_)
  refine lv_iload_n hx hb dJ6_bitCount_0f7a4_34 rfl (lv_at hl 0 rfl) ?_
  refine lv_iload_n hx hb dJ6_bitCount_0f7a4_35 rfl (lv_at hl 0 rfl) ?_
  refine lv_bipush (v := 8) hx hb dJ6_bitCount_0f7a4_36 (by decide) ?_
  refine lv_iushr hx hb dJ6_bitCount_0f7a4_38 rfl ?_
  refine lv_iadd hx hb dJ6_bitCount_0f7a4_39 ?_
  refine lv_topi (fun x4 e4 => ?_)
  refine lv_istore_n (lv' := [(0, .int x4)]) hx hb dJ6_bitCount_0f7a4_40 rfl hl (by decide) rfl (fun ls hl => ?_)
  refine lv_iload_n hx hb dJ6_bitCount_0f7a4_41 rfl (lv_at hl 0 rfl) ?_
  refine lv_iload_n hx hb dJ6_bitCount_0f7a4_42 rfl (lv_at hl 0 rfl) ?_
  refine lv_bipush (v := 16) hx hb dJ6_bitCount_0f7a4_43 (by decide) ?_
  refine lv_iushr hx hb dJ6_bitCount_0f7a4_45 rfl ?_
  refine lv_iadd hx hb dJ6_bitCount_0f7a4_46 ?_
  refine lv_topi (fun x5 e5 => ?_)
  refine lv_istore_n (lv' := [(0, .int x5)]) hx hb dJ6_bitCount_0f7a4_47 rfl hl (by decide) rfl (fun ls hl => ?_)
  refine lv_iload_n hx hb dJ6_bitCount_0f7a4_48 rfl (lv_at hl 0 rfl) ?_
  refine lv_bipush (v := 63) hx hb dJ6_bitCount_0f7a4_49 (by decide) ?_
  refine lv_iand hx hb dJ6_bitCount_0f7a4_51 ?_
  exact rt_i () hQ hx hb hr hlk hP hD hS ⟨Nat.zero_le _, Nat.zero_le _⟩ dJ6_bitCount_0f7a4_52 (by subst e5 e4 e3 e2 e1; rfl)
