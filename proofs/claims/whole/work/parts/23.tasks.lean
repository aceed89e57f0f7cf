def wp_X2_isMissing (f0_bits : Int32)  (Qp : Int32 → Prop) : Prop :=
  ((¬ f0_bits = 0 → Qp 0) ∧
   (f0_bits = 0 → Qp 1))
theorem inn_X2_isMissing_2 : ∀ w ∈ u_ws RX2 TX2 3, w ∈ wsX2_isMissing := fun _ h => List.mem_cons_of_mem _ (List.mem_append_right _ h)
def rm_X2_isMissing : Room := { frames := 0, cells := 0, slots := 0, locals := 0 }
set_option maxHeartbeats 4000000 in
set_option maxRecDepth 100000 in
theorem ct_X2_isMissing {l : Launch} {D : va_G} {cI cJ cZ cE cD cK : ClassId} {ad : Nat → Nat} {bd dd : Nat → Nat → Nat} {bHK : Int32} {bHP : Int32} {bPF : Int32} {bWC : Int32} {bRi : Int32} {bBe : Int32} {bFi : Int32} {bWa : Nat → Int32} {dB : Nat → Int32} {dS : Nat → Int32} {dN : Nat → Nat → Int64} {tC : Int32} {tKi : Nat → Int32} {tEa : Nat → Int32} {tHa : Nat → Int32} {tPr : Nat → Int32} {tEx : Nat → Int32} {tSt : Nat → Int32} {tTo : Nat → Int32} {tBe : Nat → Int32} {kC : Int32} {kKi : Nat → Int32} {kEa : Nat → Int32} {kHa : Nat → Int32} {kPr : Nat → Int32} {kEx : Nat → Int32} {kSt : Nat → Int32} {kTo : Nat → Int32} {kBe : Nat → Int32} {aC : Int32} {aWh : Nat → Int32} {aTa : Nat → Int32} {aWa : Nat → Int32} {iRo : Nat → Int32} {iEa : Nat → Int32} {iLa : Nat → Int32} {cC : Int32} {nC : Int32} {nFo : Int32} {nQd : Int32} {nRo : Nat → Int32} {nBe : Nat → Int32} {nEa : Nat → Int32} {nMi : Nat → Int32} {nHa : Nat → Int32} {nER : Nat → Int32} {nMR : Nat → Int32} {nTh : Nat → Int32} {nPa : Nat → Int32} {nOu : Nat → Int32} {nFr : Nat → Int32} {nQu : Nat → Int32} {eM : Nat} {eL : Nat → Int32} {eC : Nat → Int64} {eS : Nat → Int64} {eB : Nat → Nat → Int32} {eE : Nat → Nat → Int32} {eF : Nat → Nat → Int32} {eG : Nat → Nat → Int32} {i : Nat} {f0_bits : Int32}  {Qp : Int32 → Prop} (hi0 : i < 4) (q_f0_bits : dB i = f0_bits) (h : wp_X2_isMissing f0_bits Qp) : CTi l yX2_isMissing wsX2_isMissing rm_X2_isMissing D (tyL cI cJ cZ cE cD cK) [.ref (dd i 0)] (WC cI cJ cE cD ad bd dd bHK bHP bPF bWC bRi bBe bFi bWa dB dS dN tC tKi tEa tHa tPr tEx tSt tTo tBe kC kKi kEa kHa kPr kEx kSt kTo kBe aC aWh aTa aWa iRo iEa iLa cC nC nFo nQd nRo nBe nEa nMi nHa nER nMR nTh nPa nOu nFr nQu eM eL eC eS eB eE eF eG) (fun (r : Int32) (u : Unit) => Qp r ) (fun u : Unit => (WC cI cJ cE cD ad bd dd bHK bHP bPF bWC bRi bBe bFi bWa dB dS dN tC tKi tEa tHa tPr tEx tSt tTo tBe kC kKi kEa kHa kPr kEx kSt kTo kBe aC aWh aTa aWa iRo iEa iLa cC nC nFo nQd nRo nBe nEa nMi nHa nER nMR nTh nPa nOu nFr nQu eM eL eC eS eB eE eF eG)) 0 0 := by
  subst q_f0_bits
  refine ent_i (cc := cX2_isMissing) (maxL := 1) (ret := (some .boolean)) (by decide) rfl (Nat.le_of_ble_eq_true rfl) ?_
  intro p e s m args below meth c A Q hQ hx hb hr hml hown hts hlk hA hAB hP hD hS ls hl
  have hown : s.vm.findClass RX2 = some m.cls := hown
  have hl : lv_has ls 1 [(0, .ref (dd i 0))] := hl
  generalize hH : s.heap = H at hP ⊢
  have hS : va_S A s.heap H [] := by rw [← hH]; exact hS
  clear hH
  generalize ([] : List Loc) = locs at hS ⊢
  refine lv_aload_n hx hb dX2_isMissing_0 rfl (lv_at hl 0 rfl) ?_
  refine va_get (D := D) (ci := 2) (C := RX2) (T := TX2) (N := 3) hx hb hts inn_X2_isMissing_2 hown hAB.1 hP (2 + (i * 2 + 0)) (gD_0 hi0) rfl 0 (by decide) (hts (.fieldLink RX2 15 "BarnBench$Board" "bits" "I") (by decide +kernel)) (fun _ h9 => h9) rfl dX2_isMissing_1 ?_
  refine lv_if_ne (tgt := 11) hx hb dX2_isMissing_4 (by decide) (fun c_1 => ?_) (fun c_1 => ?_)
  · have h := h.1 c_1
    refine lv_iconst (v := 0) hx hb dX2_isMissing_11 (by decide) ?_
    exact rt_z () hQ hx hb hr hlk hP hD hS ⟨Nat.zero_le _, Nat.zero_le _⟩ (by decide) dX2_isMissing_12 h
  · have h := h.2 c_1
    refine lv_iconst (v := 1) hx hb dX2_isMissing_7 (by decide) ?_
    refine lv_goto (tgt := 12) hx hb dX2_isMissing_8 (by decide) ?_
    exact rt_z () hQ hx hb hr hlk hP hD hS ⟨Nat.zero_le _, Nat.zero_le _⟩ (by decide) dX2_isMissing_12 h
def wp_X2_has (f0_size : Int32) (a1 : Int32) (a2 : Int32) (Qp : Int32 → Prop) : Prop :=
  ((a1 < 0 → Qp 0) ∧
   (¬ a1 < 0 → ((a2 < 0 → Qp 0) ∧
   (¬ a2 < 0 → (((f0_size - a2) < a1 → Qp 0) ∧
   (¬ (f0_size - a2) < a1 → Qp 1))))))
theorem inn_X2_has_2 : ∀ w ∈ u_ws RX2 TX2 3, w ∈ wsX2_has := fun _ h => List.mem_cons_of_mem _ (List.mem_append_right _ h)
def rm_X2_has : Room := { frames := 0, cells := 0, slots := 0, locals := 0 }
set_option maxHeartbeats 4000000 in
set_option maxRecDepth 100000 in
theorem ct_X2_has {l : Launch} {D : va_G} {cI cJ cZ cE cD cK : ClassId} {ad : Nat → Nat} {bd dd : Nat → Nat → Nat} {bHK : Int32} {bHP : Int32} {bPF : Int32} {bWC : Int32} {bRi : Int32} {bBe : Int32} {bFi : Int32} {bWa : Nat → Int32} {dB : Nat → Int32} {dS : Nat → Int32} {dN : Nat → Nat → Int64} {tC : Int32} {tKi : Nat → Int32} {tEa : Nat → Int32} {tHa : Nat → Int32} {tPr : Nat → Int32} {tEx : Nat → Int32} {tSt : Nat → Int32} {tTo : Nat → Int32} {tBe : Nat → Int32} {kC : Int32} {kKi : Nat → Int32} {kEa : Nat → Int32} {kHa : Nat → Int32} {kPr : Nat → Int32} {kEx : Nat → Int32} {kSt : Nat → Int32} {kTo : Nat → Int32} {kBe : Nat → Int32} {aC : Int32} {aWh : Nat → Int32} {aTa : Nat → Int32} {aWa : Nat → Int32} {iRo : Nat → Int32} {iEa : Nat → Int32} {iLa : Nat → Int32} {cC : Int32} {nC : Int32} {nFo : Int32} {nQd : Int32} {nRo : Nat → Int32} {nBe : Nat → Int32} {nEa : Nat → Int32} {nMi : Nat → Int32} {nHa : Nat → Int32} {nER : Nat → Int32} {nMR : Nat → Int32} {nTh : Nat → Int32} {nPa : Nat → Int32} {nOu : Nat → Int32} {nFr : Nat → Int32} {nQu : Nat → Int32} {eM : Nat} {eL : Nat → Int32} {eC : Nat → Int64} {eS : Nat → Int64} {eB : Nat → Nat → Int32} {eE : Nat → Nat → Int32} {eF : Nat → Nat → Int32} {eG : Nat → Nat → Int32} {i : Nat} {f0_size : Int32} {a1 : Int32} {a2 : Int32} {Qp : Int32 → Prop} (hi0 : i < 4) (q_f0_size : dS i = f0_size) (h : wp_X2_has f0_size a1 a2 Qp) : CTi l yX2_has wsX2_has rm_X2_has D (tyL cI cJ cZ cE cD cK) [.ref (dd i 0), .int a1, .int a2] (WC cI cJ cE cD ad bd dd bHK bHP bPF bWC bRi bBe bFi bWa dB dS dN tC tKi tEa tHa tPr tEx tSt tTo tBe kC kKi kEa kHa kPr kEx kSt kTo kBe aC aWh aTa aWa iRo iEa iLa cC nC nFo nQd nRo nBe nEa nMi nHa nER nMR nTh nPa nOu nFr nQu eM eL eC eS eB eE eF eG) (fun (r : Int32) (u : Unit) => Qp r ) (fun u : Unit => (WC cI cJ cE cD ad bd dd bHK bHP bPF bWC bRi bBe bFi bWa dB dS dN tC tKi tEa tHa tPr tEx tSt tTo tBe kC kKi kEa kHa kPr kEx kSt kTo kBe aC aWh aTa aWa iRo iEa iLa cC nC nFo nQd nRo nBe nEa nMi nHa nER nMR nTh nPa nOu nFr nQu eM eL eC eS eB eE eF eG)) 0 0 := by
  subst q_f0_size
  refine ent_i (cc := cX2_has) (maxL := 3) (ret := (some .boolean)) (by decide) rfl (Nat.le_of_ble_eq_true rfl) ?_
  intro p e s m args below meth c A Q hQ hx hb hr hml hown hts hlk hA hAB hP hD hS ls hl
  have hown : s.vm.findClass RX2 = some m.cls := hown
  have hl : lv_has ls 3 [(0, .ref (dd i 0)), (1, .int a1), (2, .int a2)] := hl
  generalize hH : s.heap = H at hP ⊢
  have hS : va_S A s.heap H [] := by rw [← hH]; exact hS
  clear hH
  generalize ([] : List Loc) = locs at hS ⊢
  refine lv_iload_n hx hb dX2_has_0 rfl (lv_at hl 1 rfl) ?_
  refine lv_if_lt (tgt := 22) hx hb dX2_has_1 (by decide) (fun c_1 => ?_) (fun c_1 => ?_)
  · have h := h.1 c_1
    refine lv_iconst (v := 0) hx hb dX2_has_22 (by decide) ?_
    exact rt_z () hQ hx hb hr hlk hP hD hS ⟨Nat.zero_le _, Nat.zero_le _⟩ (by decide) dX2_has_23 h
  · have h := h.2 c_1
    refine lv_iload_n hx hb dX2_has_4 rfl (lv_at hl 2 rfl) ?_
    refine lv_if_lt (tgt := 22) hx hb dX2_has_5 (by decide) (fun c_2 => ?_) (fun c_2 => ?_)
    · have h := h.1 c_2
      refine lv_iconst (v := 0) hx hb dX2_has_22 (by decide) ?_
      exact rt_z () hQ hx hb hr hlk hP hD hS ⟨Nat.zero_le _, Nat.zero_le _⟩ (by decide) dX2_has_23 h
    · have h := h.2 c_2
      refine lv_iload_n hx hb dX2_has_8 rfl (lv_at hl 1 rfl) ?_
      refine lv_aload_n hx hb dX2_has_9 rfl (lv_at hl 0 rfl) ?_
      refine va_get (D := D) (ci := 2) (C := RX2) (T := TX2) (N := 3) hx hb hts inn_X2_has_2 hown hAB.1 hP (2 + (i * 2 + 0)) (gD_0 hi0) rfl 1 (by decide) (hts (.fieldLink RX2 19 "BarnBench$Board" "size" "I") (by decide +kernel)) (fun _ h9 => h9) rfl dX2_has_10 ?_
      refine lv_iload_n hx hb dX2_has_13 rfl (lv_at hl 2 rfl) ?_
      refine lv_isub hx hb dX2_has_14 ?_
      refine lv_icmp_gt (tgt := 22) hx hb dX2_has_15 (by decide) (fun c_3 => ?_) (fun c_3 => ?_)
      · have h := h.1 c_3
        refine lv_iconst (v := 0) hx hb dX2_has_22 (by decide) ?_
        exact rt_z () hQ hx hb hr hlk hP hD hS ⟨Nat.zero_le _, Nat.zero_le _⟩ (by decide) dX2_has_23 h
      · have h := h.2 c_3
        refine lv_iconst (v := 1) hx hb dX2_has_18 (by decide) ?_
        refine lv_goto (tgt := 23) hx hb dX2_has_19 (by decide) ?_
        exact rt_z () hQ hx hb hr hlk hP hD hS ⟨Nat.zero_le _, Nat.zero_le _⟩ (by decide) dX2_has_23 h
def wp_X2_write_b21 (Qp : (Nat → Int64) → Prop) (y_1 : Int32) (y_2 : Int64) (f0_numbers_3 : Nat → Int64) : Prop :=
  vp_in y_1 24 ∧ ∀ f0_numbers_4 : Nat → Int64, f0_numbers_4 = vp_updL f0_numbers_3 (Int32.toNatClampNeg y_1) y_2 → Qp f0_numbers_4
def wp_X2_write (f0_bits : Int32) (f0_numbers : Nat → Int64) (a1 : Int32) (a2 : Int64) (Qp : (Nat → Int64) → Prop) : Prop :=
  ((¬ f0_bits = 32 → wp_X2_write_b21 Qp a1 a2 (f0_numbers)) ∧
   (f0_bits = 32 → wp_X2_write_b21 Qp a1 (Int32.toInt64 (Int64.toInt32 a2)) (f0_numbers)))
theorem inn_X2_write_2 : ∀ w ∈ u_ws RX2 TX2 3, w ∈ wsX2_write := fun _ h => List.mem_cons_of_mem _ (List.mem_append_right _ h)
def rm_X2_write : Room := { frames := 0, cells := 0, slots := 0, locals := 0 }
set_option maxHeartbeats 4000000 in
set_option maxRecDepth 100000 in
theorem ct_X2_write {l : Launch} {D : va_G} {cI cJ cZ cE cD cK : ClassId} {ad : Nat → Nat} {bd dd : Nat → Nat → Nat} {bHK : Int32} {bHP : Int32} {bPF : Int32} {bWC : Int32} {bRi : Int32} {bBe : Int32} {bFi : Int32} {bWa : Nat → Int32} {dB : Nat → Int32} {dS : Nat → Int32} {dN : Nat → Nat → Int64} {tC : Int32} {tKi : Nat → Int32} {tEa : Nat → Int32} {tHa : Nat → Int32} {tPr : Nat → Int32} {tEx : Nat → Int32} {tSt : Nat → Int32} {tTo : Nat → Int32} {tBe : Nat → Int32} {kC : Int32} {kKi : Nat → Int32} {kEa : Nat → Int32} {kHa : Nat → Int32} {kPr : Nat → Int32} {kEx : Nat → Int32} {kSt : Nat → Int32} {kTo : Nat → Int32} {kBe : Nat → Int32} {aC : Int32} {aWh : Nat → Int32} {aTa : Nat → Int32} {aWa : Nat → Int32} {iRo : Nat → Int32} {iEa : Nat → Int32} {iLa : Nat → Int32} {cC : Int32} {nC : Int32} {nFo : Int32} {nQd : Int32} {nRo : Nat → Int32} {nBe : Nat → Int32} {nEa : Nat → Int32} {nMi : Nat → Int32} {nHa : Nat → Int32} {nER : Nat → Int32} {nMR : Nat → Int32} {nTh : Nat → Int32} {nPa : Nat → Int32} {nOu : Nat → Int32} {nFr : Nat → Int32} {nQu : Nat → Int32} {eM : Nat} {eL : Nat → Int32} {eC : Nat → Int64} {eS : Nat → Int64} {eB : Nat → Nat → Int32} {eE : Nat → Nat → Int32} {eF : Nat → Nat → Int32} {eG : Nat → Nat → Int32} {i : Nat} {f0_bits : Int32} {f0_numbers : Nat → Int64} {a1 : Int32} {a2 : Int64} {Qp : (Nat → Int64) → Prop} (hi0 : i < 4) (q_f0_bits : dB i = f0_bits) (h : wp_X2_write f0_bits f0_numbers a1 a2 Qp) : CTv l yX2_write wsX2_write rm_X2_write D (tyL cI cJ cZ cE cD cK) [.ref (dd i 0), .int a1, .long a2] (WC cI cJ cE cD ad bd dd bHK bHP bPF bWC bRi bBe bFi bWa dB dS (va_up dN i f0_numbers) tC tKi tEa tHa tPr tEx tSt tTo tBe kC kKi kEa kHa kPr kEx kSt kTo kBe aC aWh aTa aWa iRo iEa iLa cC nC nFo nQd nRo nBe nEa nMi nHa nER nMR nTh nPa nOu nFr nQu eM eL eC eS eB eE eF eG) (fun u : (Nat → Int64) => Qp u) (fun u : (Nat → Int64) => (WC cI cJ cE cD ad bd dd bHK bHP bPF bWC bRi bBe bFi bWa dB dS (va_up dN i u) tC tKi tEa tHa tPr tEx tSt tTo tBe kC kKi kEa kHa kPr kEx kSt kTo kBe aC aWh aTa aWa iRo iEa iLa cC nC nFo nQd nRo nBe nEa nMi nHa nER nMR nTh nPa nOu nFr nQu eM eL eC eS eB eE eF eG)) 0 0 := by
  subst q_f0_bits
  refine ent_v (cc := cX2_write) (maxL := 4) (ret := none) (by decide) rfl (Nat.le_of_ble_eq_true rfl) ?_
  intro p e s m args below meth c A Q hQ hx hb hr hml hown hts hlk hA hAB hP hD hS ls hl
  have hown : s.vm.findClass RX2 = some m.cls := hown
  have hl : lv_has ls 4 [(0, .ref (dd i 0)), (1, .int a1), (2, .long a2)] := hl
  generalize hH : s.heap = H at hP ⊢
  have hS : va_S A s.heap H [] := by rw [← hH]; exact hS
  clear hH
  generalize ([] : List Loc) = locs at hS ⊢
  have B21 : ∀ (y_1 : Int32) (y_2 : Int64) (f0_numbers_3 : Nat → Int64), wp_X2_write_b21 Qp y_1 y_2 f0_numbers_3 → ∀ (H : Heap) (locs : List Loc) (ls : Array Slot), va_P D vwCl (WC cI cJ cE cD ad bd dd bHK bHP bPF bWC bRi bBe bFi bWa dB dS (va_up dN i f0_numbers_3) tC tKi tEa tHa tPr tEx tSt tTo tBe kC kKi kEa kHa kPr kEx kSt kTo kBe aC aWh aTa aWa iRo iEa iLa cC nC nFo nQd nRo nBe nEa nMi nHa nER nMR nTh nPa nOu nFr nQu eM eL eC eS eB eE eF eG) H → va_D A (WC cI cJ cE cD ad bd dd bHK bHP bPF bWC bRi bBe bFi bWa dB dS (va_up dN i f0_numbers_3) tC tKi tEa tHa tPr tEx tSt tTo tBe kC kKi kEa kHa kPr kEx kSt kTo kBe aC aWh aTa aWa iRo iEa iLa cC nC nFo nQd nRo nBe nEa nMi nHa nER nMR nTh nPa nOu nFr nQu eM eL eC eS eB eE eF eG) → va_S A s.heap H locs → lv_has ls 4 [] → W p l e (headSpec wsX2_write rm_X2_write).room s m args below meth c H locs 0 0 Q (F0 m 21 ls [.long y_2, .int y_1, .ref (dd i 1)]) := by
    intro y_1 y_2 f0_numbers_3 h H locs ls hP hD hS hl
    refine sD_1 hx hb hAB hP hD hS hi0 h.1 dX2_write_21 (fun f0_numbers_4 H locs e_5 hP hD hS => ?_)
    have h := h.2
    have h := h f0_numbers_4 e_5
    exact rt_v (f0_numbers_4) hQ hx hb hr hlk hP hD hS ⟨Nat.zero_le _, Nat.zero_le _⟩ dX2_write_22 h
  refine lv_aload_n hx hb dX2_write_0 rfl (lv_at hl 0 rfl) ?_
  refine va_get (D := D) (ci := 2) (C := RX2) (T := TX2) (N := 3) hx hb hts inn_X2_write_2 hown hAB.1 hP (2 + (i * 2 + 0)) (gD_0 hi0) rfl 2 (by decide) (hts (.fieldLink RX2 9 "BarnBench$Board" "numbers" "[J") (by decide +kernel)) (fun _ h9 => h9) rfl dX2_write_1 ?_
  refine lv_iload_n hx hb dX2_write_4 rfl (lv_at hl 1 rfl) ?_
  refine lv_aload_n hx hb dX2_write_5 rfl (lv_at hl 0 rfl) ?_
  refine va_get (D := D) (ci := 2) (C := RX2) (T := TX2) (N := 3) hx hb hts inn_X2_write_2 hown hAB.1 hP (2 + (i * 2 + 0)) (gD_0 hi0) rfl 0 (by decide) (hts (.fieldLink RX2 15 "BarnBench$Board" "bits" "I") (by decide +kernel)) (fun _ h9 => h9) rfl dX2_write_6 ?_
  refine lv_bipush (v := 32) hx hb dX2_write_9 (by decide) ?_
  refine lv_icmp_ne (tgt := 20) hx hb dX2_write_11 (by decide) (fun c_6 => ?_) (fun c_6 => ?_)
  · have h := h.1 c_6
    refine lv_lload_n hx hb dX2_write_20 rfl (lv_at hl 2 rfl) ?_
    exact B21 a1 a2 f0_numbers h H locs ls hP hD hS (lv_sub hl [] rfl)
  · have h := h.2 c_6
    refine lv_lload_n hx hb dX2_write_14 rfl (lv_at hl 2 rfl) ?_
    refine lv_l2i hx hb dX2_write_15 rfl ?_
    refine lv_i2l hx hb dX2_write_16 rfl ?_
    refine lv_goto (tgt := 21) hx hb dX2_write_17 (by decide) ?_
    exact B21 a1 (Int32.toInt64 (Int64.toInt32 a2)) f0_numbers h H locs ls hP hD hS (lv_sub hl [] rfl)
def wp_X2_lay (f0_bits : Int32) (f0_numbers : Nat → Int64) (f0_size : Int32) (a1 : Int32) (a2 : Int32) (Qp : (Int32) → (Nat → Int64) → (Int32) → Prop) : Prop :=
  ∀ f0_bits_1 : Int32, f0_bits_1 = a1 → ∀ f0_size_3 : Int32, f0_size_3 = a2 → ∀ f0_numbers_5 : Nat → Int64, f0_numbers_5 = jFillL (f0_numbers) 24 0 → Qp f0_bits_1 f0_numbers_5 f0_size_3
theorem inn_X2_lay_2 : ∀ w ∈ u_ws RX2 TX2 3, w ∈ wsX2_lay := fun _ h => List.mem_cons_of_mem _ (List.mem_append_right _ h)
def rm_X2_lay : Room := { frames := 1, cells := 0, slots := 0, locals := 24 }
set_option maxHeartbeats 4000000 in
set_option maxRecDepth 100000 in
theorem ct_X2_lay {l : Launch} {D : va_G} {cI cJ cZ cE cD cK : ClassId} {ad : Nat → Nat} {bd dd : Nat → Nat → Nat} {bHK : Int32} {bHP : Int32} {bPF : Int32} {bWC : Int32} {bRi : Int32} {bBe : Int32} {bFi : Int32} {bWa : Nat → Int32} {dB : Nat → Int32} {dS : Nat → Int32} {dN : Nat → Nat → Int64} {tC : Int32} {tKi : Nat → Int32} {tEa : Nat → Int32} {tHa : Nat → Int32} {tPr : Nat → Int32} {tEx : Nat → Int32} {tSt : Nat → Int32} {tTo : Nat → Int32} {tBe : Nat → Int32} {kC : Int32} {kKi : Nat → Int32} {kEa : Nat → Int32} {kHa : Nat → Int32} {kPr : Nat → Int32} {kEx : Nat → Int32} {kSt : Nat → Int32} {kTo : Nat → Int32} {kBe : Nat → Int32} {aC : Int32} {aWh : Nat → Int32} {aTa : Nat → Int32} {aWa : Nat → Int32} {iRo : Nat → Int32} {iEa : Nat → Int32} {iLa : Nat → Int32} {cC : Int32} {nC : Int32} {nFo : Int32} {nQd : Int32} {nRo : Nat → Int32} {nBe : Nat → Int32} {nEa : Nat → Int32} {nMi : Nat → Int32} {nHa : Nat → Int32} {nER : Nat → Int32} {nMR : Nat → Int32} {nTh : Nat → Int32} {nPa : Nat → Int32} {nOu : Nat → Int32} {nFr : Nat → Int32} {nQu : Nat → Int32} {eM : Nat} {eL : Nat → Int32} {eC : Nat → Int64} {eS : Nat → Int64} {eB : Nat → Nat → Int32} {eE : Nat → Nat → Int32} {eF : Nat → Nat → Int32} {eG : Nat → Nat → Int32} {i : Nat} {f0_bits : Int32} {f0_numbers : Nat → Int64} {f0_size : Int32} {a1 : Int32} {a2 : Int32} {Qp : (Int32) → (Nat → Int64) → (Int32) → Prop} (hi0 : i < 4)  (h : wp_X2_lay f0_bits f0_numbers f0_size a1 a2 Qp) : CTv l yX2_lay wsX2_lay rm_X2_lay D (tyL cI cJ cZ cE cD cK) [.ref (dd i 0), .int a1, .int a2] (WC cI cJ cE cD ad bd dd bHK bHP bPF bWC bRi bBe bFi bWa (va_up dB i f0_bits) (va_up dS i f0_size) (va_up dN i f0_numbers) tC tKi tEa tHa tPr tEx tSt tTo tBe kC kKi kEa kHa kPr kEx kSt kTo kBe aC aWh aTa aWa iRo iEa iLa cC nC nFo nQd nRo nBe nEa nMi nHa nER nMR nTh nPa nOu nFr nQu eM eL eC eS eB eE eF eG) (fun u : (Int32) × (Nat → Int64) × (Int32) => Qp u.1 u.2.1 u.2.2) (fun u : (Int32) × (Nat → Int64) × (Int32) => (WC cI cJ cE cD ad bd dd bHK bHP bPF bWC bRi bBe bFi bWa (va_up dB i u.1) (va_up dS i u.2.2) (va_up dN i u.2.1) tC tKi tEa tHa tPr tEx tSt tTo tBe kC kKi kEa kHa kPr kEx kSt kTo kBe aC aWh aTa aWa iRo iEa iLa cC nC nFo nQd nRo nBe nEa nMi nHa nER nMR nTh nPa nOu nFr nQu eM eL eC eS eB eE eF eG)) 0 0 := by
  refine ent_v (cc := cX2_lay) (maxL := 3) (ret := none) (by decide) rfl (Nat.le_of_ble_eq_true rfl) ?_
  intro p e s m args below meth c A Q hQ hx hb hr hml hown hts hlk hA hAB hP hD hS ls hl
  have hown : s.vm.findClass RX2 = some m.cls := hown
  have hl : lv_has ls 3 [(0, .ref (dd i 0)), (1, .int a1), (2, .int a2)] := hl
  generalize hH : s.heap = H at hP ⊢
  have hS : va_S A s.heap H [] := by rw [← hH]; exact hS
  clear hH
  generalize ([] : List Loc) = locs at hS ⊢
  refine lv_aload_n hx hb dX2_lay_0 rfl (lv_at hl 0 rfl) ?_
  refine lv_iload_n hx hb dX2_lay_1 rfl (lv_at hl 1 rfl) ?_
  refine fD_bits hx hb hAB hP hD hS hi0 hts inn_X2_lay_2 hown (hts (.fieldLink RX2 15 "BarnBench$Board" "bits" "I") (by decide +kernel)) dX2_lay_2 (fun f0_bits_1_w H locs e_2 hP hD hS => ?_)
  rw [va_up_up] at e_2
  subst e_2
  obtain ⟨f0_bits_1, e_2⟩ : ∃ z, z = a1 := ⟨_, rfl⟩
  rw [← e_2] at hP hD
  have h := h f0_bits_1 e_2
  refine lv_aload_n hx hb dX2_lay_5 rfl (lv_at hl 0 rfl) ?_
  refine lv_iload_n hx hb dX2_lay_6 rfl (lv_at hl 2 rfl) ?_
  refine fD_size hx hb hAB hP hD hS hi0 hts inn_X2_lay_2 hown (hts (.fieldLink RX2 19 "BarnBench$Board" "size" "I") (by decide +kernel)) dX2_lay_7 (fun f0_size_3_w H locs e_4 hP hD hS => ?_)
  rw [va_up_up] at e_4
  subst e_4
  obtain ⟨f0_size_3, e_4⟩ : ∃ z, z = a2 := ⟨_, rfl⟩
  rw [← e_4] at hP hD
  have h := h f0_size_3 e_4
  refine lv_aload_n hx hb dX2_lay_10 rfl (lv_at hl 0 rfl) ?_
  refine va_get (D := D) (ci := 2) (C := RX2) (T := TX2) (N := 3) hx hb hts inn_X2_lay_2 hown hAB.1 hP (2 + (i * 2 + 0)) (gD_0 hi0) rfl 2 (by decide) (hts (.fieldLink RX2 9 "BarnBench$Board" "numbers" "[J") (by decide +kernel)) (fun _ h9 => h9) rfl dX2_lay_11 ?_
  refine lv_lconst (v := 0) hx hb dX2_lay_14 (by decide) ?_
  refine cl_v hD hS hA (va_runS (As := [.ref (dd i 1), .long 0]) (rest := []) ⟨hx, hb, hml, hown, hts⟩ (ct_J7_fill_d0a16 (q := (2 + (i * 2 + 1))) ((gD_1 hi0).trans (by rw [va_up_at])) (by decide) H.size) (va_cwS 2 hts gX2_lay_J7_fill_d0a16 rfl rfl rfl (by decide +kernel) ⟨Nat.le_of_ble_eq_true rfl, Nat.le_of_ble_eq_true rfl⟩) ⟨CPre.blind, wd_pre hAB hP hD hS hA⟩ rfl rfl hl.1 rfl (lv_room (Nat.le_of_ble_eq_true rfl)) dX2_lay_15 ⟨Nat.zero_le _, Nat.zero_le _⟩) (fun u H locs _ hP hD hS => ?_)
  obtain ⟨f0_numbers_5, e_6⟩ : ∃ z, z = jFillL f0_numbers 24 0 := ⟨_, rfl⟩
  have hP : va_P D vwCl (WC cI cJ cE cD ad bd dd bHK bHP bPF bWC bRi bBe bFi bWa (va_up dB i f0_bits_1) (va_up dS i f0_size_3) (va_up dN i f0_numbers_5) tC tKi tEa tHa tPr tEx tSt tTo tBe kC kKi kEa kHa kPr kEx kSt kTo kBe aC aWh aTa aWa iRo iEa iLa cC nC nFo nQd nRo nBe nEa nMi nHa nER nMR nTh nPa nOu nFr nQu eM eL eC eS eB eE eF eG) H := by rw [e_6]; rw [tD_1 hi0, va_up_up] at hP; exact hP
  have hD : va_D A (WC cI cJ cE cD ad bd dd bHK bHP bPF bWC bRi bBe bFi bWa (va_up dB i f0_bits_1) (va_up dS i f0_size_3) (va_up dN i f0_numbers_5) tC tKi tEa tHa tPr tEx tSt tTo tBe kC kKi kEa kHa kPr kEx kSt kTo kBe aC aWh aTa aWa iRo iEa iLa cC nC nFo nQd nRo nBe nEa nMi nHa nER nMR nTh nPa nOu nFr nQu eM eL eC eS eB eE eF eG) := by rw [e_6]; rw [tD_1 hi0, va_up_up] at hD; exact hD
  have h := h f0_numbers_5 e_6
  exact rt_v (f0_bits_1, f0_numbers_5, f0_size_3) hQ hx hb hr hlk hP hD hS ⟨Nat.zero_le _, Nat.zero_le _⟩ dX2_lay_18 h
def wp_X2_isWithin (f0_numbers : Nat → Int64) (a1 : Int32) (a2 : Int64) (Qp : Int32 → Prop) : Prop :=
  vp_in a1 24 ∧ (((lg_cmp (f0_numbers (Int32.toNatClampNeg a1)) 0) < 0 → Qp 0) ∧
   (¬ (lg_cmp (f0_numbers (Int32.toNatClampNeg a1)) 0) < 0 → vp_in a1 24 ∧ ((0 < (lg_cmp (f0_numbers (Int32.toNatClampNeg a1)) a2) → Qp 0) ∧
   (¬ 0 < (lg_cmp (f0_numbers (Int32.toNatClampNeg a1)) a2) → Qp 1))))
theorem inn_X2_isWithin_2 : ∀ w ∈ u_ws RX2 TX2 3, w ∈ wsX2_isWithin := fun _ h => List.mem_cons_of_mem _ (List.mem_append_right _ h)
def rm_X2_isWithin : Room := { frames := 0, cells := 0, slots := 0, locals := 0 }
set_option maxHeartbeats 4000000 in
set_option maxRecDepth 100000 in
theorem ct_X2_isWithin {l : Launch} {D : va_G} {cI cJ cZ cE cD cK : ClassId} {ad : Nat → Nat} {bd dd : Nat → Nat → Nat} {bHK : Int32} {bHP : Int32} {bPF : Int32} {bWC : Int32} {bRi : Int32} {bBe : Int32} {bFi : Int32} {bWa : Nat → Int32} {dB : Nat → Int32} {dS : Nat → Int32} {dN : Nat → Nat → Int64} {tC : Int32} {tKi : Nat → Int32} {tEa : Nat → Int32} {tHa : Nat → Int32} {tPr : Nat → Int32} {tEx : Nat → Int32} {tSt : Nat → Int32} {tTo : Nat → Int32} {tBe : Nat → Int32} {kC : Int32} {kKi : Nat → Int32} {kEa : Nat → Int32} {kHa : Nat → Int32} {kPr : Nat → Int32} {kEx : Nat → Int32} {kSt : Nat → Int32} {kTo : Nat → Int32} {kBe : Nat → Int32} {aC : Int32} {aWh : Nat → Int32} {aTa : Nat → Int32} {aWa : Nat → Int32} {iRo : Nat → Int32} {iEa : Nat → Int32} {iLa : Nat → Int32} {cC : Int32} {nC : Int32} {nFo : Int32} {nQd : Int32} {nRo : Nat → Int32} {nBe : Nat → Int32} {nEa : Nat → Int32} {nMi : Nat → Int32} {nHa : Nat → Int32} {nER : Nat → Int32} {nMR : Nat → Int32} {nTh : Nat → Int32} {nPa : Nat → Int32} {nOu : Nat → Int32} {nFr : Nat → Int32} {nQu : Nat → Int32} {eM : Nat} {eL : Nat → Int32} {eC : Nat → Int64} {eS : Nat → Int64} {eB : Nat → Nat → Int32} {eE : Nat → Nat → Int32} {eF : Nat → Nat → Int32} {eG : Nat → Nat → Int32} {i : Nat} {f0_numbers : Nat → Int64} {a1 : Int32} {a2 : Int64} {Qp : Int32 → Prop} (hi0 : i < 4) (q_f0_numbers : dN i = f0_numbers) (h : wp_X2_isWithin f0_numbers a1 a2 Qp) : CTi l yX2_isWithin wsX2_isWithin rm_X2_isWithin D (tyL cI cJ cZ cE cD cK) [.ref (dd i 0), .int a1, .long a2] (WC cI cJ cE cD ad bd dd bHK bHP bPF bWC bRi bBe bFi bWa dB dS dN tC tKi tEa tHa tPr tEx tSt tTo tBe kC kKi kEa kHa kPr kEx kSt kTo kBe aC aWh aTa aWa iRo iEa iLa cC nC nFo nQd nRo nBe nEa nMi nHa nER nMR nTh nPa nOu nFr nQu eM eL eC eS eB eE eF eG) (fun (r : Int32) (u : Unit) => Qp r ) (fun u : Unit => (WC cI cJ cE cD ad bd dd bHK bHP bPF bWC bRi bBe bFi bWa dB dS dN tC tKi tEa tHa tPr tEx tSt tTo tBe kC kKi kEa kHa kPr kEx kSt kTo kBe aC aWh aTa aWa iRo iEa iLa cC nC nFo nQd nRo nBe nEa nMi nHa nER nMR nTh nPa nOu nFr nQu eM eL eC eS eB eE eF eG)) 0 0 := by
  subst q_f0_numbers
  refine ent_i (cc := cX2_isWithin) (maxL := 4) (ret := (some .boolean)) (by decide) rfl (Nat.le_of_ble_eq_true rfl) ?_
  intro p e s m args below meth c A Q hQ hx hb hr hml hown hts hlk hA hAB hP hD hS ls hl
  have hown : s.vm.findClass RX2 = some m.cls := hown
  have hl : lv_has ls 4 [(0, .ref (dd i 0)), (1, .int a1), (2, .long a2)] := hl
  generalize hH : s.heap = H at hP ⊢
  have hS : va_S A s.heap H [] := by rw [← hH]; exact hS
  clear hH
  generalize ([] : List Loc) = locs at hS ⊢
  refine lv_aload_n hx hb dX2_isWithin_0 rfl (lv_at hl 0 rfl) ?_
  refine va_get (D := D) (ci := 2) (C := RX2) (T := TX2) (N := 3) hx hb hts inn_X2_isWithin_2 hown hAB.1 hP (2 + (i * 2 + 0)) (gD_0 hi0) rfl 2 (by decide) (hts (.fieldLink RX2 9 "BarnBench$Board" "numbers" "[J") (by decide +kernel)) (fun _ h9 => h9) rfl dX2_isWithin_1 ?_
  refine lv_iload_n hx hb dX2_isWithin_4 rfl (lv_at hl 1 rfl) ?_
  refine va_lald hx hb hAB.1 hP (2 + (i * 2 + 1)) 1 (gD_1 hi0) rfl h.1 dX2_isWithin_5 ?_
  have h := h.2
  refine lv_lconst (v := 0) hx hb dX2_isWithin_6 (by decide) ?_
  refine W.lcmp hx hb dX2_isWithin_7 ?_
  refine lv_if_lt (tgt := 26) hx hb dX2_isWithin_8 (by decide) (fun c_1 => ?_) (fun c_1 => ?_)
  · have h := h.1 c_1
    refine lv_iconst (v := 0) hx hb dX2_isWithin_26 (by decide) ?_
    exact rt_z () hQ hx hb hr hlk hP hD hS ⟨Nat.zero_le _, Nat.zero_le _⟩ (by decide) dX2_isWithin_27 h
  · have h := h.2 c_1
    refine lv_aload_n hx hb dX2_isWithin_11 rfl (lv_at hl 0 rfl) ?_
    refine va_get (D := D) (ci := 2) (C := RX2) (T := TX2) (N := 3) hx hb hts inn_X2_isWithin_2 hown hAB.1 hP (2 + (i * 2 + 0)) (gD_0 hi0) rfl 2 (by decide) (hts (.fieldLink RX2 9 "BarnBench$Board" "numbers" "[J") (by decide +kernel)) (fun _ h9 => h9) rfl dX2_isWithin_12 ?_
    refine lv_iload_n hx hb dX2_isWithin_15 rfl (lv_at hl 1 rfl) ?_
    refine va_lald hx hb hAB.1 hP (2 + (i * 2 + 1)) 1 (gD_1 hi0) rfl h.1 dX2_isWithin_16 ?_
    have h := h.2
    refine lv_lload_n hx hb dX2_isWithin_17 rfl (lv_at hl 2 rfl) ?_
    refine W.lcmp hx hb dX2_isWithin_18 ?_
    refine lv_if_gt (tgt := 26) hx hb dX2_isWithin_19 (by decide) (fun c_2 => ?_) (fun c_2 => ?_)
    · have h := h.1 c_2
      refine lv_iconst (v := 0) hx hb dX2_isWithin_26 (by decide) ?_
      exact rt_z () hQ hx hb hr hlk hP hD hS ⟨Nat.zero_le _, Nat.zero_le _⟩ (by decide) dX2_isWithin_27 h
    · have h := h.2 c_2
      refine lv_iconst (v := 1) hx hb dX2_isWithin_22 (by decide) ?_
      refine lv_goto (tgt := 27) hx hb dX2_isWithin_23 (by decide) ?_
      exact rt_z () hQ hx hb hr hlk hP hD hS ⟨Nat.zero_le _, Nat.zero_le _⟩ (by decide) dX2_isWithin_27 h
def wp_X2_holdsTask_b110 (Qp : Int32 → Prop)  : Prop :=
  Qp 1
def wp_X2_holdsTask (f0_numbers : Nat → Int64) (a1 : Int32) (a2 : Int32) (Qp : Int32 → Prop) : Prop :=
  wp_X2_isWithin (f0_numbers) a2 60 (fun (r_1 : Int32) => ((¬ r_1 = 0 → vp_in a1 5 ∧ ((¬ (am_taken (Int32.toNatClampNeg a1)) = 1 → vp_in a2 24 ∧ wp_X2_isWithin (f0_numbers) (a2 + 1) (f0_numbers (Int32.toNatClampNeg a2)) (fun (r_7 : Int32) => ((r_7 = 0 → Qp 0) ∧
   (¬ r_7 = 0 → wp_X2_isWithin (f0_numbers) (a2 + 2) 100000 (fun (r_9 : Int32) => ((¬ r_9 = 0 → ((¬ a1 = 2 → ((¬ a1 = 4 → wp_X2_holdsTask_b110 Qp) ∧
   (a1 = 4 → wp_X2_isWithin (f0_numbers) (a2 + 3) 100000 (fun (r_13 : Int32) => ((r_13 = 0 → Qp 0) ∧
   (¬ r_13 = 0 → wp_X2_holdsTask_b110 Qp)))))) ∧
   (a1 = 2 → wp_X2_isWithin (f0_numbers) (a2 + 3) 60 (fun (r_15 : Int32) => ((r_15 = 0 → Qp 0) ∧
   (¬ r_15 = 0 → wp_X2_isWithin (f0_numbers) (a2 + 4) 100000 (fun (r_17 : Int32) => ((r_17 = 0 → Qp 0) ∧
   (¬ r_17 = 0 → Qp 1))))))))) ∧
   (r_9 = 0 → Qp 0))))))) ∧
   ((am_taken (Int32.toNatClampNeg a1)) = 1 → Qp 1))) ∧
   (r_1 = 0 → Qp 0)))
theorem inn_X2_holdsTask_2 : ∀ w ∈ u_ws RX2 TX2 3, w ∈ wsX2_holdsTask := fun _ h => List.mem_cons_of_mem _ (List.mem_append_right _ h)
def rm_X2_holdsTask : Room := { frames := 1, cells := 0, slots := 0, locals := 23 }
set_option maxHeartbeats 4000000 in
set_option maxRecDepth 100000 in
theorem ct_X2_holdsTask {l : Launch} {D : va_G} {cI cJ cZ cE cD cK : ClassId} {ad : Nat → Nat} {bd dd : Nat → Nat → Nat} {bHK : Int32} {bHP : Int32} {bPF : Int32} {bWC : Int32} {bRi : Int32} {bBe : Int32} {bFi : Int32} {bWa : Nat → Int32} {dB : Nat → Int32} {dS : Nat → Int32} {dN : Nat → Nat → Int64} {tC : Int32} {tKi : Nat → Int32} {tEa : Nat → Int32} {tHa : Nat → Int32} {tPr : Nat → Int32} {tEx : Nat → Int32} {tSt : Nat → Int32} {tTo : Nat → Int32} {tBe : Nat → Int32} {kC : Int32} {kKi : Nat → Int32} {kEa : Nat → Int32} {kHa : Nat → Int32} {kPr : Nat → Int32} {kEx : Nat → Int32} {kSt : Nat → Int32} {kTo : Nat → Int32} {kBe : Nat → Int32} {aC : Int32} {aWh : Nat → Int32} {aTa : Nat → Int32} {aWa : Nat → Int32} {iRo : Nat → Int32} {iEa : Nat → Int32} {iLa : Nat → Int32} {cC : Int32} {nC : Int32} {nFo : Int32} {nQd : Int32} {nRo : Nat → Int32} {nBe : Nat → Int32} {nEa : Nat → Int32} {nMi : Nat → Int32} {nHa : Nat → Int32} {nER : Nat → Int32} {nMR : Nat → Int32} {nTh : Nat → Int32} {nPa : Nat → Int32} {nOu : Nat → Int32} {nFr : Nat → Int32} {nQu : Nat → Int32} {eM : Nat} {eL : Nat → Int32} {eC : Nat → Int64} {eS : Nat → Int64} {eB : Nat → Nat → Int32} {eE : Nat → Nat → Int32} {eF : Nat → Nat → Int32} {eG : Nat → Nat → Int32} {i : Nat} {f0_numbers : Nat → Int64} {a1 : Int32} {a2 : Int32} {Qp : Int32 → Prop} (hi0 : i < 4) (q_f0_numbers : dN i = f0_numbers) (h : wp_X2_holdsTask f0_numbers a1 a2 Qp) : CTi l yX2_holdsTask wsX2_holdsTask rm_X2_holdsTask D (tyL cI cJ cZ cE cD cK) [.ref (dd i 0), .int a1, .int a2] (WC cI cJ cE cD ad bd dd bHK bHP bPF bWC bRi bBe bFi bWa dB dS dN tC tKi tEa tHa tPr tEx tSt tTo tBe kC kKi kEa kHa kPr kEx kSt kTo kBe aC aWh aTa aWa iRo iEa iLa cC nC nFo nQd nRo nBe nEa nMi nHa nER nMR nTh nPa nOu nFr nQu eM eL eC eS eB eE eF eG) (fun (r : Int32) (u : Unit) => Qp r ) (fun u : Unit => (WC cI cJ cE cD ad bd dd bHK bHP bPF bWC bRi bBe bFi bWa dB dS dN tC tKi tEa tHa tPr tEx tSt tTo tBe kC kKi kEa kHa kPr kEx kSt kTo kBe aC aWh aTa aWa iRo iEa iLa cC nC nFo nQd nRo nBe nEa nMi nHa nER nMR nTh nPa nOu nFr nQu eM eL eC eS eB eE eF eG)) 0 0 := by
  subst q_f0_numbers
  refine ent_i (cc := cX2_holdsTask) (maxL := 3) (ret := (some .boolean)) (by decide) rfl (Nat.le_of_ble_eq_true rfl) ?_
  intro p e s m args below meth c A Q hQ hx hb hr hml hown hts hlk hA hAB hP hD hS ls hl
  have hown : s.vm.findClass RX2 = some m.cls := hown
  have hl : lv_has ls 3 [(0, .ref (dd i 0)), (1, .int a1), (2, .int a2)] := hl
  generalize hH : s.heap = H at hP ⊢
  have hS : va_S A s.heap H [] := by rw [← hH]; exact hS
  clear hH
  generalize ([] : List Loc) = locs at hS ⊢
  have B110 : wp_X2_holdsTask_b110 Qp → ∀ (H : Heap) (locs : List Loc) (ls : Array Slot), va_P D vwCl (WC cI cJ cE cD ad bd dd bHK bHP bPF bWC bRi bBe bFi bWa dB dS dN tC tKi tEa tHa tPr tEx tSt tTo tBe kC kKi kEa kHa kPr kEx kSt kTo kBe aC aWh aTa aWa iRo iEa iLa cC nC nFo nQd nRo nBe nEa nMi nHa nER nMR nTh nPa nOu nFr nQu eM eL eC eS eB eE eF eG) H → va_D A (WC cI cJ cE cD ad bd dd bHK bHP bPF bWC bRi bBe bFi bWa dB dS dN tC tKi tEa tHa tPr tEx tSt tTo tBe kC kKi kEa kHa kPr kEx kSt kTo kBe aC aWh aTa aWa iRo iEa iLa cC nC nFo nQd nRo nBe nEa nMi nHa nER nMR nTh nPa nOu nFr nQu eM eL eC eS eB eE eF eG) → va_S A s.heap H locs → lv_has ls 3 [] → W p l e (headSpec wsX2_holdsTask rm_X2_holdsTask).room s m args below meth c H locs 0 0 Q (F0 m 110 ls []) := by
    intro  h H locs ls hP hD hS hl
    refine lv_iconst (v := 1) hx hb dX2_holdsTask_110 (by decide) ?_
    refine lv_goto (tgt := 115) hx hb dX2_holdsTask_111 (by decide) ?_
    exact rt_z () hQ hx hb hr hlk hP hD hS ⟨Nat.zero_le _, Nat.zero_le _⟩ (by decide) dX2_holdsTask_115 h
  refine lv_aload_n hx hb dX2_holdsTask_0 rfl (lv_at hl 0 rfl) ?_
  refine lv_iload_n hx hb dX2_holdsTask_1 rfl (lv_at hl 2 rfl) ?_
  refine lv_ldc2 (v := 60) hx hb hown (hts (.constantLong RX2 28 60) (by decide +kernel)) dX2_holdsTask_2 ?_
  refine cl_i hD hS hA (va_runV (As := [.int a2, .long 60]) (rest := []) ⟨hx, hb, hml, hown, hts⟩ (ct_X2_isWithin hi0 rfl h H.size) (cwV 2 hts gX2_holdsTask_X2_isWithin rfl rfl rfl (by decide +kernel) ⟨Nat.le_of_ble_eq_true rfl, Nat.le_of_ble_eq_true rfl⟩) ⟨CPre.blind, va_recv hAB.1 hP (ci := 2) (q0 := (2 + (i * 2 + 0))) rfl (gD_0 hi0), wd_pre hAB hP hD hS hA⟩ rfl rfl hl.1 rfl (lv_room (Nat.le_of_ble_eq_true rfl)) dX2_holdsTask_5 ⟨Nat.zero_le _, Nat.zero_le _⟩) (fun r_1 u H locs h hP hD hS => ?_)
  refine lv_if_ne (tgt := 13) hx hb dX2_holdsTask_8 (by decide) (fun c_2 => ?_) (fun c_2 => ?_)
  · have h := h.1 c_2
    obtain ⟨t_3, z_4, y_5⟩ := hAB.2.2.1
    refine va_getsN hx hb z_4 hS hown (va_Nw.use rfl (hAB.2.1 (.fieldLinkNest RX2 34 RX7 "TAKEN" "[I" RX7) (by decide +kernel))) (fun _ h9 => h9) dX2_holdsTask_13 ?_
    refine lv_iload_n hx hb dX2_holdsTask_16 rfl (lv_at hl 1 rfl) ?_
    refine va_ti hx hb y_5 hS h.1 rfl dX2_holdsTask_17 ?_
    have h := h.2
    refine lv_iconst (v := 1) hx hb dX2_holdsTask_18 (by decide) ?_
    refine lv_icmp_ne (tgt := 24) hx hb dX2_holdsTask_19 (by decide) (fun c_6 => ?_) (fun c_6 => ?_)
    · have h := h.1 c_6
      refine lv_aload_n hx hb dX2_holdsTask_24 rfl (lv_at hl 0 rfl) ?_
      refine lv_iload_n hx hb dX2_holdsTask_25 rfl (lv_at hl 2 rfl) ?_
      refine lv_iconst (v := 1) hx hb dX2_holdsTask_26 (by decide) ?_
      refine lv_iadd hx hb dX2_holdsTask_27 ?_
      refine lv_aload_n hx hb dX2_holdsTask_28 rfl (lv_at hl 0 rfl) ?_
      refine va_get (D := D) (ci := 2) (C := RX2) (T := TX2) (N := 3) hx hb hts inn_X2_holdsTask_2 hown hAB.1 hP (2 + (i * 2 + 0)) (gD_0 hi0) rfl 2 (by decide) (hts (.fieldLink RX2 9 "BarnBench$Board" "numbers" "[J") (by decide +kernel)) (fun _ h9 => h9) rfl dX2_holdsTask_29 ?_
      refine lv_iload_n hx hb dX2_holdsTask_32 rfl (lv_at hl 2 rfl) ?_
      refine va_lald hx hb hAB.1 hP (2 + (i * 2 + 1)) 1 (gD_1 hi0) rfl h.1 dX2_holdsTask_33 ?_
      have h := h.2
      refine cl_i hD hS hA (va_runV (As := [.int (a2 + 1), .long ((dN i) (Int32.toNatClampNeg a2))]) (rest := []) ⟨hx, hb, hml, hown, hts⟩ (ct_X2_isWithin hi0 rfl h H.size) (cwV 2 hts gX2_holdsTask_X2_isWithin rfl rfl rfl (by decide +kernel) ⟨Nat.le_of_ble_eq_true rfl, Nat.le_of_ble_eq_true rfl⟩) ⟨CPre.blind, va_recv hAB.1 hP (ci := 2) (q0 := (2 + (i * 2 + 0))) rfl (gD_0 hi0), wd_pre hAB hP hD hS hA⟩ rfl rfl hl.1 rfl (lv_room (Nat.le_of_ble_eq_true rfl)) dX2_holdsTask_34 ⟨Nat.zero_le _, Nat.zero_le _⟩) (fun r_7 u H locs h hP hD hS => ?_)
      refine lv_if_eq (tgt := 53) hx hb dX2_holdsTask_37 (by decide) (fun c_8 => ?_) (fun c_8 => ?_)
      · have h := h.1 c_8
        refine lv_iconst (v := 0) hx hb dX2_holdsTask_53 (by decide) ?_
        exact rt_z () hQ hx hb hr hlk hP hD hS ⟨Nat.zero_le _, Nat.zero_le _⟩ (by decide) dX2_holdsTask_54 h
      · have h := h.2 c_8
        refine lv_aload_n hx hb dX2_holdsTask_40 rfl (lv_at hl 0 rfl) ?_
        refine lv_iload_n hx hb dX2_holdsTask_41 rfl (lv_at hl 2 rfl) ?_
        refine lv_iconst (v := 2) hx hb dX2_holdsTask_42 (by decide) ?_
        refine lv_iadd hx hb dX2_holdsTask_43 ?_
        refine lv_ldc2 (v := 100000) hx hb hown (hts (.constantLong RX2 38 100000) (by decide +kernel)) dX2_holdsTask_44 ?_
        refine cl_i hD hS hA (va_runV (As := [.int (a2 + 2), .long 100000]) (rest := []) ⟨hx, hb, hml, hown, hts⟩ (ct_X2_isWithin hi0 rfl h H.size) (cwV 2 hts gX2_holdsTask_X2_isWithin rfl rfl rfl (by decide +kernel) ⟨Nat.le_of_ble_eq_true rfl, Nat.le_of_ble_eq_true rfl⟩) ⟨CPre.blind, va_recv hAB.1 hP (ci := 2) (q0 := (2 + (i * 2 + 0))) rfl (gD_0 hi0), wd_pre hAB hP hD hS hA⟩ rfl rfl hl.1 rfl (lv_room (Nat.le_of_ble_eq_true rfl)) dX2_holdsTask_47 ⟨Nat.zero_le _, Nat.zero_le _⟩) (fun r_9 u H locs h hP hD hS => ?_)
        refine lv_if_ne (tgt := 55) hx hb dX2_holdsTask_50 (by decide) (fun c_10 => ?_) (fun c_10 => ?_)
        · have h := h.1 c_10
          refine lv_iload_n hx hb dX2_holdsTask_55 rfl (lv_at hl 1 rfl) ?_
          refine lv_iconst (v := 2) hx hb dX2_holdsTask_56 (by decide) ?_
          refine lv_icmp_ne (tgt := 92) hx hb dX2_holdsTask_57 (by decide) (fun c_11 => ?_) (fun c_11 => ?_)
          · have h := h.1 c_11
            refine lv_iload_n hx hb dX2_holdsTask_92 rfl (lv_at hl 1 rfl) ?_
            refine lv_iconst (v := 4) hx hb dX2_holdsTask_93 (by decide) ?_
            refine lv_icmp_ne (tgt := 110) hx hb dX2_holdsTask_94 (by decide) (fun c_12 => ?_) (fun c_12 => ?_)
            · have h := h.1 c_12
              exact B110  h H locs ls hP hD hS (lv_sub hl [] rfl)
            · have h := h.2 c_12
              refine lv_aload_n hx hb dX2_holdsTask_97 rfl (lv_at hl 0 rfl) ?_
              refine lv_iload_n hx hb dX2_holdsTask_98 rfl (lv_at hl 2 rfl) ?_
              refine lv_iconst (v := 3) hx hb dX2_holdsTask_99 (by decide) ?_
              refine lv_iadd hx hb dX2_holdsTask_100 ?_
              refine lv_ldc2 (v := 100000) hx hb hown (hts (.constantLong RX2 38 100000) (by decide +kernel)) dX2_holdsTask_101 ?_
              refine cl_i hD hS hA (va_runV (As := [.int (a2 + 3), .long 100000]) (rest := []) ⟨hx, hb, hml, hown, hts⟩ (ct_X2_isWithin hi0 rfl h H.size) (cwV 2 hts gX2_holdsTask_X2_isWithin rfl rfl rfl (by decide +kernel) ⟨Nat.le_of_ble_eq_true rfl, Nat.le_of_ble_eq_true rfl⟩) ⟨CPre.blind, va_recv hAB.1 hP (ci := 2) (q0 := (2 + (i * 2 + 0))) rfl (gD_0 hi0), wd_pre hAB hP hD hS hA⟩ rfl rfl hl.1 rfl (lv_room (Nat.le_of_ble_eq_true rfl)) dX2_holdsTask_104 ⟨Nat.zero_le _, Nat.zero_le _⟩) (fun r_13 u H locs h hP hD hS => ?_)
              refine lv_if_eq (tgt := 114) hx hb dX2_holdsTask_107 (by decide) (fun c_14 => ?_) (fun c_14 => ?_)
              · have h := h.1 c_14
                refine lv_iconst (v := 0) hx hb dX2_holdsTask_114 (by decide) ?_
                exact rt_z () hQ hx hb hr hlk hP hD hS ⟨Nat.zero_le _, Nat.zero_le _⟩ (by decide) dX2_holdsTask_115 h
              · have h := h.2 c_14
                exact B110  h H locs ls hP hD hS (lv_sub hl [] rfl)
          · have h := h.2 c_11
            refine lv_aload_n hx hb dX2_holdsTask_60 rfl (lv_at hl 0 rfl) ?_
            refine lv_iload_n hx hb dX2_holdsTask_61 rfl (lv_at hl 2 rfl) ?_
            refine lv_iconst (v := 3) hx hb dX2_holdsTask_62 (by decide) ?_
            refine lv_iadd hx hb dX2_holdsTask_63 ?_
            refine lv_ldc2 (v := 60) hx hb hown (hts (.constantLong RX2 28 60) (by decide +kernel)) dX2_holdsTask_64 ?_
            refine cl_i hD hS hA (va_runV (As := [.int (a2 + 3), .long 60]) (rest := []) ⟨hx, hb, hml, hown, hts⟩ (ct_X2_isWithin hi0 rfl h H.size) (cwV 2 hts gX2_holdsTask_X2_isWithin rfl rfl rfl (by decide +kernel) ⟨Nat.le_of_ble_eq_true rfl, Nat.le_of_ble_eq_true rfl⟩) ⟨CPre.blind, va_recv hAB.1 hP (ci := 2) (q0 := (2 + (i * 2 + 0))) rfl (gD_0 hi0), wd_pre hAB hP hD hS hA⟩ rfl rfl hl.1 rfl (lv_room (Nat.le_of_ble_eq_true rfl)) dX2_holdsTask_67 ⟨Nat.zero_le _, Nat.zero_le _⟩) (fun r_15 u H locs h hP hD hS => ?_)
            refine lv_if_eq (tgt := 90) hx hb dX2_holdsTask_70 (by decide) (fun c_16 => ?_) (fun c_16 => ?_)
            · have h := h.1 c_16
              refine lv_iconst (v := 0) hx hb dX2_holdsTask_90 (by decide) ?_
              exact rt_z () hQ hx hb hr hlk hP hD hS ⟨Nat.zero_le _, Nat.zero_le _⟩ (by decide) dX2_holdsTask_91 h
            · have h := h.2 c_16
              refine lv_aload_n hx hb dX2_holdsTask_73 rfl (lv_at hl 0 rfl) ?_
              refine lv_iload_n hx hb dX2_holdsTask_74 rfl (lv_at hl 2 rfl) ?_
              refine lv_iconst (v := 4) hx hb dX2_holdsTask_75 (by decide) ?_
              refine lv_iadd hx hb dX2_holdsTask_76 ?_
              refine lv_ldc2 (v := 100000) hx hb hown (hts (.constantLong RX2 38 100000) (by decide +kernel)) dX2_holdsTask_77 ?_
              refine cl_i hD hS hA (va_runV (As := [.int (a2 + 4), .long 100000]) (rest := []) ⟨hx, hb, hml, hown, hts⟩ (ct_X2_isWithin hi0 rfl h H.size) (cwV 2 hts gX2_holdsTask_X2_isWithin rfl rfl rfl (by decide +kernel) ⟨Nat.le_of_ble_eq_true rfl, Nat.le_of_ble_eq_true rfl⟩) ⟨CPre.blind, va_recv hAB.1 hP (ci := 2) (q0 := (2 + (i * 2 + 0))) rfl (gD_0 hi0), wd_pre hAB hP hD hS hA⟩ rfl rfl hl.1 rfl (lv_room (Nat.le_of_ble_eq_true rfl)) dX2_holdsTask_80 ⟨Nat.zero_le _, Nat.zero_le _⟩) (fun r_17 u H locs h hP hD hS => ?_)
              refine lv_if_eq (tgt := 90) hx hb dX2_holdsTask_83 (by decide) (fun c_18 => ?_) (fun c_18 => ?_)
              · have h := h.1 c_18
                refine lv_iconst (v := 0) hx hb dX2_holdsTask_90 (by decide) ?_
                exact rt_z () hQ hx hb hr hlk hP hD hS ⟨Nat.zero_le _, Nat.zero_le _⟩ (by decide) dX2_holdsTask_91 h
              · have h := h.2 c_18
                refine lv_iconst (v := 1) hx hb dX2_holdsTask_86 (by decide) ?_
                refine lv_goto (tgt := 91) hx hb dX2_holdsTask_87 (by decide) ?_
                exact rt_z () hQ hx hb hr hlk hP hD hS ⟨Nat.zero_le _, Nat.zero_le _⟩ (by decide) dX2_holdsTask_91 h
        · have h := h.2 c_10
          refine lv_iconst (v := 0) hx hb dX2_holdsTask_53 (by decide) ?_
          exact rt_z () hQ hx hb hr hlk hP hD hS ⟨Nat.zero_le _, Nat.zero_le _⟩ (by decide) dX2_holdsTask_54 h
    · have h := h.2 c_6
      refine lv_iconst (v := 1) hx hb dX2_holdsTask_22 (by decide) ?_
      exact rt_z () hQ hx hb hr hlk hP hD hS ⟨Nat.zero_le _, Nat.zero_le _⟩ (by decide) dX2_holdsTask_23 h
  · have h := h.2 c_2
    refine lv_iconst (v := 0) hx hb dX2_holdsTask_11 (by decide) ?_
    exact rt_z () hQ hx hb hr hlk hP hD hS ⟨Nat.zero_le _, Nat.zero_le _⟩ (by decide) dX2_holdsTask_12 h
def wp_X5_has (tC : Int32) (a1 : Int32) (Qp : Int32 → Prop) : Prop :=
  ((a1 < 0 → Qp 0) ∧
   (¬ a1 < 0 → ((tC ≤ a1 → Qp 0) ∧
   (¬ tC ≤ a1 → Qp 1))))
theorem inn_X5_has_5 : ∀ w ∈ u_ws RX5 TX5 9, w ∈ wsX5_has := fun _ h => List.mem_cons_of_mem _ (List.mem_append_right _ h)
def rm_X5_has : Room := { frames := 0, cells := 0, slots := 0, locals := 0 }
set_option maxHeartbeats 4000000 in
set_option maxRecDepth 100000 in
theorem ct_X5_has {l : Launch} {D : va_G} {cI cJ cZ cE cD cK : ClassId} {ad : Nat → Nat} {bd dd : Nat → Nat → Nat} {bHK : Int32} {bHP : Int32} {bPF : Int32} {bWC : Int32} {bRi : Int32} {bBe : Int32} {bFi : Int32} {bWa : Nat → Int32} {dB : Nat → Int32} {dS : Nat → Int32} {dN : Nat → Nat → Int64} {tC : Int32} {tKi : Nat → Int32} {tEa : Nat → Int32} {tHa : Nat → Int32} {tPr : Nat → Int32} {tEx : Nat → Int32} {tSt : Nat → Int32} {tTo : Nat → Int32} {tBe : Nat → Int32} {kC : Int32} {kKi : Nat → Int32} {kEa : Nat → Int32} {kHa : Nat → Int32} {kPr : Nat → Int32} {kEx : Nat → Int32} {kSt : Nat → Int32} {kTo : Nat → Int32} {kBe : Nat → Int32} {aC : Int32} {aWh : Nat → Int32} {aTa : Nat → Int32} {aWa : Nat → Int32} {iRo : Nat → Int32} {iEa : Nat → Int32} {iLa : Nat → Int32} {cC : Int32} {nC : Int32} {nFo : Int32} {nQd : Int32} {nRo : Nat → Int32} {nBe : Nat → Int32} {nEa : Nat → Int32} {nMi : Nat → Int32} {nHa : Nat → Int32} {nER : Nat → Int32} {nMR : Nat → Int32} {nTh : Nat → Int32} {nPa : Nat → Int32} {nOu : Nat → Int32} {nFr : Nat → Int32} {nQu : Nat → Int32} {eM : Nat} {eL : Nat → Int32} {eC : Nat → Int64} {eS : Nat → Int64} {eB : Nat → Nat → Int32} {eE : Nat → Nat → Int32} {eF : Nat → Nat → Int32} {eG : Nat → Nat → Int32}   {a1 : Int32} {Qp : Int32 → Prop}   (h : wp_X5_has tC a1 Qp) : CTi l yX5_has wsX5_has rm_X5_has D (tyL cI cJ cZ cE cD cK) [.ref (ad 10), .int a1] (WC cI cJ cE cD ad bd dd bHK bHP bPF bWC bRi bBe bFi bWa dB dS dN tC tKi tEa tHa tPr tEx tSt tTo tBe kC kKi kEa kHa kPr kEx kSt kTo kBe aC aWh aTa aWa iRo iEa iLa cC nC nFo nQd nRo nBe nEa nMi nHa nER nMR nTh nPa nOu nFr nQu eM eL eC eS eB eE eF eG) (fun (r : Int32) (u : Unit) => Qp r ) (fun u : Unit => (WC cI cJ cE cD ad bd dd bHK bHP bPF bWC bRi bBe bFi bWa dB dS dN tC tKi tEa tHa tPr tEx tSt tTo tBe kC kKi kEa kHa kPr kEx kSt kTo kBe aC aWh aTa aWa iRo iEa iLa cC nC nFo nQd nRo nBe nEa nMi nHa nER nMR nTh nPa nOu nFr nQu eM eL eC eS eB eE eF eG)) 0 0 := by
  refine ent_i (cc := cX5_has) (maxL := 2) (ret := (some .boolean)) (by decide) rfl (Nat.le_of_ble_eq_true rfl) ?_
  intro p e s m args below meth c A Q hQ hx hb hr hml hown hts hlk hA hAB hP hD hS ls hl
  have hown : s.vm.findClass RX5 = some m.cls := hown
  have hl : lv_has ls 2 [(0, .ref (ad 10)), (1, .int a1)] := hl
  generalize hH : s.heap = H at hP ⊢
  have hS : va_S A s.heap H [] := by rw [← hH]; exact hS
  clear hH
  generalize ([] : List Loc) = locs at hS ⊢
  refine lv_iload_n hx hb dX5_has_0 rfl (lv_at hl 1 rfl) ?_
  refine lv_if_lt (tgt := 16) hx hb dX5_has_1 (by decide) (fun c_1 => ?_) (fun c_1 => ?_)
  · have h := h.1 c_1
    refine lv_iconst (v := 0) hx hb dX5_has_16 (by decide) ?_
    exact rt_z () hQ hx hb hr hlk hP hD hS ⟨Nat.zero_le _, Nat.zero_le _⟩ (by decide) dX5_has_17 h
  · have h := h.2 c_1
    refine lv_iload_n hx hb dX5_has_4 rfl (lv_at hl 1 rfl) ?_
    refine lv_aload_n hx hb dX5_has_5 rfl (lv_at hl 0 rfl) ?_
    refine va_get (D := D) (ci := 5) (C := RX5) (T := TX5) (N := 9) hx hb hts inn_X5_has_5 hown hAB.1 hP 10 rfl rfl 0 (by decide) (hts (.fieldLink RX5 36 "BarnBench$Tasks" "count" "I") (by decide +kernel)) (fun _ h9 => h9) rfl dX5_has_6 ?_
    refine lv_icmp_ge (tgt := 16) hx hb dX5_has_9 (by decide) (fun c_2 => ?_) (fun c_2 => ?_)
    · have h := h.1 c_2
      refine lv_iconst (v := 0) hx hb dX5_has_16 (by decide) ?_
      exact rt_z () hQ hx hb hr hlk hP hD hS ⟨Nat.zero_le _, Nat.zero_le _⟩ (by decide) dX5_has_17 h
    · have h := h.2 c_2
      refine lv_iconst (v := 1) hx hb dX5_has_12 (by decide) ?_
      refine lv_goto (tgt := 17) hx hb dX5_has_13 (by decide) ?_
      exact rt_z () hQ hx hb hr hlk hP hD hS ⟨Nat.zero_le _, Nat.zero_le _⟩ (by decide) dX5_has_17 h
def wp_X5_allows (tEa : Nat → Int32) (tHa : Nat → Int32) (a1 : Int32) (a2 : Int32) (Qp : Int32 → Prop) : Prop :=
  vp_in a1 12 ∧ ((a2 < (tHa (Int32.toNatClampNeg a1)) → Qp 0) ∧
   (¬ a2 < (tHa (Int32.toNatClampNeg a1)) → vp_in a1 12 ∧ (((tEa (Int32.toNatClampNeg a1)) < a2 → Qp 0) ∧
   (¬ (tEa (Int32.toNatClampNeg a1)) < a2 → Qp 1))))
theorem inn_X5_allows_5 : ∀ w ∈ u_ws RX5 TX5 9, w ∈ wsX5_allows := fun _ h => List.mem_cons_of_mem _ (List.mem_append_right _ h)
def rm_X5_allows : Room := { frames := 0, cells := 0, slots := 0, locals := 0 }
set_option maxHeartbeats 4000000 in
set_option maxRecDepth 100000 in
theorem ct_X5_allows {l : Launch} {D : va_G} {cI cJ cZ cE cD cK : ClassId} {ad : Nat → Nat} {bd dd : Nat → Nat → Nat} {bHK : Int32} {bHP : Int32} {bPF : Int32} {bWC : Int32} {bRi : Int32} {bBe : Int32} {bFi : Int32} {bWa : Nat → Int32} {dB : Nat → Int32} {dS : Nat → Int32} {dN : Nat → Nat → Int64} {tC : Int32} {tKi : Nat → Int32} {tEa : Nat → Int32} {tHa : Nat → Int32} {tPr : Nat → Int32} {tEx : Nat → Int32} {tSt : Nat → Int32} {tTo : Nat → Int32} {tBe : Nat → Int32} {kC : Int32} {kKi : Nat → Int32} {kEa : Nat → Int32} {kHa : Nat → Int32} {kPr : Nat → Int32} {kEx : Nat → Int32} {kSt : Nat → Int32} {kTo : Nat → Int32} {kBe : Nat → Int32} {aC : Int32} {aWh : Nat → Int32} {aTa : Nat → Int32} {aWa : Nat → Int32} {iRo : Nat → Int32} {iEa : Nat → Int32} {iLa : Nat → Int32} {cC : Int32} {nC : Int32} {nFo : Int32} {nQd : Int32} {nRo : Nat → Int32} {nBe : Nat → Int32} {nEa : Nat → Int32} {nMi : Nat → Int32} {nHa : Nat → Int32} {nER : Nat → Int32} {nMR : Nat → Int32} {nTh : Nat → Int32} {nPa : Nat → Int32} {nOu : Nat → Int32} {nFr : Nat → Int32} {nQu : Nat → Int32} {eM : Nat} {eL : Nat → Int32} {eC : Nat → Int64} {eS : Nat → Int64} {eB : Nat → Nat → Int32} {eE : Nat → Nat → Int32} {eF : Nat → Nat → Int32} {eG : Nat → Nat → Int32}   {a1 : Int32} {a2 : Int32} {Qp : Int32 → Prop}   (h : wp_X5_allows tEa tHa a1 a2 Qp) : CTi l yX5_allows wsX5_allows rm_X5_allows D (tyL cI cJ cZ cE cD cK) [.ref (ad 10), .int a1, .int a2] (WC cI cJ cE cD ad bd dd bHK bHP bPF bWC bRi bBe bFi bWa dB dS dN tC tKi tEa tHa tPr tEx tSt tTo tBe kC kKi kEa kHa kPr kEx kSt kTo kBe aC aWh aTa aWa iRo iEa iLa cC nC nFo nQd nRo nBe nEa nMi nHa nER nMR nTh nPa nOu nFr nQu eM eL eC eS eB eE eF eG) (fun (r : Int32) (u : Unit) => Qp r ) (fun u : Unit => (WC cI cJ cE cD ad bd dd bHK bHP bPF bWC bRi bBe bFi bWa dB dS dN tC tKi tEa tHa tPr tEx tSt tTo tBe kC kKi kEa kHa kPr kEx kSt kTo kBe aC aWh aTa aWa iRo iEa iLa cC nC nFo nQd nRo nBe nEa nMi nHa nER nMR nTh nPa nOu nFr nQu eM eL eC eS eB eE eF eG)) 0 0 := by
  refine ent_i (cc := cX5_allows) (maxL := 3) (ret := (some .boolean)) (by decide) rfl (Nat.le_of_ble_eq_true rfl) ?_
  intro p e s m args below meth c A Q hQ hx hb hr hml hown hts hlk hA hAB hP hD hS ls hl
  have hown : s.vm.findClass RX5 = some m.cls := hown
  have hl : lv_has ls 3 [(0, .ref (ad 10)), (1, .int a1), (2, .int a2)] := hl
  generalize hH : s.heap = H at hP ⊢
  have hS : va_S A s.heap H [] := by rw [← hH]; exact hS
  clear hH
  generalize ([] : List Loc) = locs at hS ⊢
  refine lv_iload_n hx hb dX5_allows_0 rfl (lv_at hl 2 rfl) ?_
  refine lv_aload_n hx hb dX5_allows_1 rfl (lv_at hl 0 rfl) ?_
  refine va_get (D := D) (ci := 5) (C := RX5) (T := TX5) (N := 9) hx hb hts inn_X5_allows_5 hown hAB.1 hP 10 rfl rfl 3 (by decide) (hts (.fieldLink RX5 18 "BarnBench$Tasks" "hard" "[I") (by decide +kernel)) (fun _ h9 => h9) rfl dX5_allows_2 ?_
  refine lv_iload_n hx hb dX5_allows_5 rfl (lv_at hl 1 rfl) ?_
  refine va_iald hx hb hAB.1 hP 13 0 rfl rfl h.1 dX5_allows_6 ?_
  have h := h.2
  refine lv_icmp_lt (tgt := 24) hx hb dX5_allows_7 (by decide) (fun c_1 => ?_) (fun c_1 => ?_)
  · have h := h.1 c_1
    refine lv_iconst (v := 0) hx hb dX5_allows_24 (by decide) ?_
    exact rt_z () hQ hx hb hr hlk hP hD hS ⟨Nat.zero_le _, Nat.zero_le _⟩ (by decide) dX5_allows_25 h
  · have h := h.2 c_1
    refine lv_iload_n hx hb dX5_allows_10 rfl (lv_at hl 2 rfl) ?_
    refine lv_aload_n hx hb dX5_allows_11 rfl (lv_at hl 0 rfl) ?_
    refine va_get (D := D) (ci := 5) (C := RX5) (T := TX5) (N := 9) hx hb hts inn_X5_allows_5 hown hAB.1 hP 10 rfl rfl 2 (by decide) (hts (.fieldLink RX5 15 "BarnBench$Tasks" "easy" "[I") (by decide +kernel)) (fun _ h9 => h9) rfl dX5_allows_12 ?_
    refine lv_iload_n hx hb dX5_allows_15 rfl (lv_at hl 1 rfl) ?_
    refine va_iald hx hb hAB.1 hP 12 0 rfl rfl h.1 dX5_allows_16 ?_
    have h := h.2
    refine lv_icmp_gt (tgt := 24) hx hb dX5_allows_17 (by decide) (fun c_2 => ?_) (fun c_2 => ?_)
    · have h := h.1 c_2
      refine lv_iconst (v := 0) hx hb dX5_allows_24 (by decide) ?_
      exact rt_z () hQ hx hb hr hlk hP hD hS ⟨Nat.zero_le _, Nat.zero_le _⟩ (by decide) dX5_allows_25 h
    · have h := h.2 c_2
      refine lv_iconst (v := 1) hx hb dX5_allows_20 (by decide) ?_
      refine lv_goto (tgt := 25) hx hb dX5_allows_21 (by decide) ?_
      exact rt_z () hQ hx hb hr hlk hP hD hS ⟨Nat.zero_le _, Nat.zero_le _⟩ (by decide) dX5_allows_25 h
def wp_X5_costOf_b82 (Qp : Int64 → Prop) (x3_1 : Int64) : Prop :=
  Qp x3_1
def wp_X5_costOf_b59 (Qp : Int64 → Prop) (a1 : Int32) (a2 : Int32) (tEx : Nat → Int32) (tKi : Nat → Int32) (x3_2 : Int64) : Prop :=
  vp_in a1 12 ∧ ((¬ (tKi (Int32.toNatClampNeg a1)) = 4 → wp_X5_costOf_b82 Qp x3_2) ∧
   ((tKi (Int32.toNatClampNeg a1)) = 4 → vp_in a1 12 ∧ ∀ x3_4 : Int64, x3_4 = (x3_2 + ((Int32.toInt64 (tEx (Int32.toNatClampNeg a1))) * (Int32.toInt64 a2))) → wp_X5_costOf_b82 Qp x3_4))
def wp_X5_costOf (tKi : Nat → Int32) (tEa : Nat → Int32) (tPr : Nat → Int32) (tEx : Nat → Int32) (tSt : Nat → Int32) (a1 : Int32) (a2 : Int32) (Qp : Int64 → Prop) : Prop :=
  vp_in a1 12 ∧ vp_in a1 12 ∧ ∀ x3_6 : Int64, x3_6 = ((Int32.toInt64 (tPr (Int32.toNatClampNeg a1))) * (Int32.toInt64 ((tEa (Int32.toNatClampNeg a1)) - a2))) → vp_in a1 12 ∧ ((¬ (tKi (Int32.toNatClampNeg a1)) = 2 → wp_X5_costOf_b59 Qp a1 a2 tEx tKi x3_6) ∧
   ((tKi (Int32.toNatClampNeg a1)) = 2 → vp_in a1 12 ∧ vp_in a1 12 ∧ vp_in a1 12 ∧ ∀ x3_9 : Int64, x3_9 = (x3_6 + ((Int32.toInt64 (tSt (Int32.toNatClampNeg a1))) * (Int32.toInt64 (if 0 < (((tEa (Int32.toNatClampNeg a1)) - (tEx (Int32.toNatClampNeg a1))) - a2) then (((tEa (Int32.toNatClampNeg a1)) - (tEx (Int32.toNatClampNeg a1))) - a2) else 0)))) → wp_X5_costOf_b59 Qp a1 a2 tEx tKi x3_9))
theorem inn_X5_costOf_5 : ∀ w ∈ u_ws RX5 TX5 9, w ∈ wsX5_costOf := fun _ h => List.mem_cons_of_mem _ (List.mem_append_right _ h)
def rm_X5_costOf : Room := { frames := 1, cells := 0, slots := 0, locals := 23 }
set_option maxHeartbeats 4000000 in
set_option maxRecDepth 100000 in
theorem ct_X5_costOf {l : Launch} {D : va_G} {cI cJ cZ cE cD cK : ClassId} {ad : Nat → Nat} {bd dd : Nat → Nat → Nat} {bHK : Int32} {bHP : Int32} {bPF : Int32} {bWC : Int32} {bRi : Int32} {bBe : Int32} {bFi : Int32} {bWa : Nat → Int32} {dB : Nat → Int32} {dS : Nat → Int32} {dN : Nat → Nat → Int64} {tC : Int32} {tKi : Nat → Int32} {tEa : Nat → Int32} {tHa : Nat → Int32} {tPr : Nat → Int32} {tEx : Nat → Int32} {tSt : Nat → Int32} {tTo : Nat → Int32} {tBe : Nat → Int32} {kC : Int32} {kKi : Nat → Int32} {kEa : Nat → Int32} {kHa : Nat → Int32} {kPr : Nat → Int32} {kEx : Nat → Int32} {kSt : Nat → Int32} {kTo : Nat → Int32} {kBe : Nat → Int32} {aC : Int32} {aWh : Nat → Int32} {aTa : Nat → Int32} {aWa : Nat → Int32} {iRo : Nat → Int32} {iEa : Nat → Int32} {iLa : Nat → Int32} {cC : Int32} {nC : Int32} {nFo : Int32} {nQd : Int32} {nRo : Nat → Int32} {nBe : Nat → Int32} {nEa : Nat → Int32} {nMi : Nat → Int32} {nHa : Nat → Int32} {nER : Nat → Int32} {nMR : Nat → Int32} {nTh : Nat → Int32} {nPa : Nat → Int32} {nOu : Nat → Int32} {nFr : Nat → Int32} {nQu : Nat → Int32} {eM : Nat} {eL : Nat → Int32} {eC : Nat → Int64} {eS : Nat → Int64} {eB : Nat → Nat → Int32} {eE : Nat → Nat → Int32} {eF : Nat → Nat → Int32} {eG : Nat → Nat → Int32}   {a1 : Int32} {a2 : Int32} {Qp : Int64 → Prop}   (h : wp_X5_costOf tKi tEa tPr tEx tSt a1 a2 Qp) : CTl l yX5_costOf wsX5_costOf rm_X5_costOf D (tyL cI cJ cZ cE cD cK) [.ref (ad 10), .int a1, .int a2] (WC cI cJ cE cD ad bd dd bHK bHP bPF bWC bRi bBe bFi bWa dB dS dN tC tKi tEa tHa tPr tEx tSt tTo tBe kC kKi kEa kHa kPr kEx kSt kTo kBe aC aWh aTa aWa iRo iEa iLa cC nC nFo nQd nRo nBe nEa nMi nHa nER nMR nTh nPa nOu nFr nQu eM eL eC eS eB eE eF eG) (fun (r : Int64) (u : Unit) => Qp r ) (fun u : Unit => (WC cI cJ cE cD ad bd dd bHK bHP bPF bWC bRi bBe bFi bWa dB dS dN tC tKi tEa tHa tPr tEx tSt tTo tBe kC kKi kEa kHa kPr kEx kSt kTo kBe aC aWh aTa aWa iRo iEa iLa cC nC nFo nQd nRo nBe nEa nMi nHa nER nMR nTh nPa nOu nFr nQu eM eL eC eS eB eE eF eG)) 0 0 := by
  refine ent_l (cc := cX5_costOf) (maxL := 5) (ret := (some .long)) (by decide) rfl (Nat.le_of_ble_eq_true rfl) ?_
  intro p e s m args below meth c A Q hQ hx hb hr hml hown hts hlk hA hAB hP hD hS ls hl
  have hown : s.vm.findClass RX5 = some m.cls := hown
  have hl : lv_has ls 5 [(0, .ref (ad 10)), (1, .int a1), (2, .int a2)] := hl
  generalize hH : s.heap = H at hP ⊢
  have hS : va_S A s.heap H [] := by rw [← hH]; exact hS
  clear hH
  generalize ([] : List Loc) = locs at hS ⊢
  have B82 : ∀ (x3_1 : Int64), wp_X5_costOf_b82 Qp x3_1 → ∀ (H : Heap) (locs : List Loc) (ls : Array Slot), va_P D vwCl (WC cI cJ cE cD ad bd dd bHK bHP bPF bWC bRi bBe bFi bWa dB dS dN tC tKi tEa tHa tPr tEx tSt tTo tBe kC kKi kEa kHa kPr kEx kSt kTo kBe aC aWh aTa aWa iRo iEa iLa cC nC nFo nQd nRo nBe nEa nMi nHa nER nMR nTh nPa nOu nFr nQu eM eL eC eS eB eE eF eG) H → va_D A (WC cI cJ cE cD ad bd dd bHK bHP bPF bWC bRi bBe bFi bWa dB dS dN tC tKi tEa tHa tPr tEx tSt tTo tBe kC kKi kEa kHa kPr kEx kSt kTo kBe aC aWh aTa aWa iRo iEa iLa cC nC nFo nQd nRo nBe nEa nMi nHa nER nMR nTh nPa nOu nFr nQu eM eL eC eS eB eE eF eG) → va_S A s.heap H locs → lv_has ls 5 [(3, .long x3_1)] → W p l e (headSpec wsX5_costOf rm_X5_costOf).room s m args below meth c H locs 0 0 Q (F0 m 82 ls []) := by
    intro x3_1 h H locs ls hP hD hS hl
    refine lv_lload_n hx hb dX5_costOf_82 rfl (lv_at hl 0 rfl) ?_
    exact rt_l () hQ hx hb hr hlk hP hD hS ⟨Nat.zero_le _, Nat.zero_le _⟩ dX5_costOf_83 h
  have B59 : ∀ (x3_2 : Int64), wp_X5_costOf_b59 Qp a1 a2 tEx tKi x3_2 → ∀ (H : Heap) (locs : List Loc) (ls : Array Slot), va_P D vwCl (WC cI cJ cE cD ad bd dd bHK bHP bPF bWC bRi bBe bFi bWa dB dS dN tC tKi tEa tHa tPr tEx tSt tTo tBe kC kKi kEa kHa kPr kEx kSt kTo kBe aC aWh aTa aWa iRo iEa iLa cC nC nFo nQd nRo nBe nEa nMi nHa nER nMR nTh nPa nOu nFr nQu eM eL eC eS eB eE eF eG) H → va_D A (WC cI cJ cE cD ad bd dd bHK bHP bPF bWC bRi bBe bFi bWa dB dS dN tC tKi tEa tHa tPr tEx tSt tTo tBe kC kKi kEa kHa kPr kEx kSt kTo kBe aC aWh aTa aWa iRo iEa iLa cC nC nFo nQd nRo nBe nEa nMi nHa nER nMR nTh nPa nOu nFr nQu eM eL eC eS eB eE eF eG) → va_S A s.heap H locs → lv_has ls 5 [(0, .ref (ad 10)), (1, .int a1), (2, .int a2), (3, .long x3_2)] → W p l e (headSpec wsX5_costOf rm_X5_costOf).room s m args below meth c H locs 0 0 Q (F0 m 59 ls []) := by
    intro x3_2 h H locs ls hP hD hS hl
    refine lv_aload_n hx hb dX5_costOf_59 rfl (lv_at hl 0 rfl) ?_
    refine va_get (D := D) (ci := 5) (C := RX5) (T := TX5) (N := 9) hx hb hts inn_X5_costOf_5 hown hAB.1 hP 10 rfl rfl 1 (by decide) (hts (.fieldLink RX5 9 "BarnBench$Tasks" "kind" "[I") (by decide +kernel)) (fun _ h9 => h9) rfl dX5_costOf_60 ?_
    refine lv_iload_n hx hb dX5_costOf_63 rfl (lv_at hl 1 rfl) ?_
    refine va_iald hx hb hAB.1 hP 11 0 rfl rfl h.1 dX5_costOf_64 ?_
    have h := h.2
    refine lv_iconst (v := 4) hx hb dX5_costOf_65 (by decide) ?_
    refine lv_icmp_ne (tgt := 82) hx hb dX5_costOf_66 (by decide) (fun c_3 => ?_) (fun c_3 => ?_)
    · have h := h.1 c_3
      exact B82 x3_2 h H locs ls hP hD hS (lv_sub hl [3] rfl)
    · have h := h.2 c_3
      refine lv_lload_n hx hb dX5_costOf_69 rfl (lv_at hl 3 rfl) ?_
      refine lv_aload_n hx hb dX5_costOf_70 rfl (lv_at hl 0 rfl) ?_
      refine va_get (D := D) (ci := 5) (C := RX5) (T := TX5) (N := 9) hx hb hts inn_X5_costOf_5 hown hAB.1 hP 10 rfl rfl 5 (by decide) (hts (.fieldLink RX5 24 "BarnBench$Tasks" "extra" "[I") (by decide +kernel)) (fun _ h9 => h9) rfl dX5_costOf_71 ?_
      refine lv_iload_n hx hb dX5_costOf_74 rfl (lv_at hl 1 rfl) ?_
      refine va_iald hx hb hAB.1 hP 15 0 rfl rfl h.1 dX5_costOf_75 ?_
      have h := h.2
      refine lv_i2l hx hb dX5_costOf_76 rfl ?_
      refine lv_iload_n hx hb dX5_costOf_77 rfl (lv_at hl 2 rfl) ?_
      refine lv_i2l hx hb dX5_costOf_78 rfl ?_
      refine lv_lmul hx hb dX5_costOf_79 ?_
      refine lv_ladd hx hb dX5_costOf_80 ?_
      refine lv_topl (fun x3_4 e_5 => ?_)
      have h := h x3_4 e_5
      refine lv_lstore_n (lv' := [(3, .long x3_4), (0, .ref (ad 10)), (1, .int a1), (2, .int a2)]) hx hb dX5_costOf_81 rfl hl (by decide) rfl (fun ls hl => ?_)
      exact B82 x3_4 h H locs ls hP hD hS (lv_sub hl [0] rfl)
  refine lv_aload_n hx hb dX5_costOf_0 rfl (lv_at hl 0 rfl) ?_
  refine va_get (D := D) (ci := 5) (C := RX5) (T := TX5) (N := 9) hx hb hts inn_X5_costOf_5 hown hAB.1 hP 10 rfl rfl 4 (by decide) (hts (.fieldLink RX5 21 "BarnBench$Tasks" "price" "[I") (by decide +kernel)) (fun _ h9 => h9) rfl dX5_costOf_1 ?_
  refine lv_iload_n hx hb dX5_costOf_4 rfl (lv_at hl 1 rfl) ?_
  refine va_iald hx hb hAB.1 hP 14 0 rfl rfl h.1 dX5_costOf_5 ?_
  have h := h.2
  refine lv_i2l hx hb dX5_costOf_6 rfl ?_
  refine lv_aload_n hx hb dX5_costOf_7 rfl (lv_at hl 0 rfl) ?_
  refine va_get (D := D) (ci := 5) (C := RX5) (T := TX5) (N := 9) hx hb hts inn_X5_costOf_5 hown hAB.1 hP 10 rfl rfl 2 (by decide) (hts (.fieldLink RX5 15 "BarnBench$Tasks" "easy" "[I") (by decide +kernel)) (fun _ h9 => h9) rfl dX5_costOf_8 ?_
  refine lv_iload_n hx hb dX5_costOf_11 rfl (lv_at hl 1 rfl) ?_
  refine va_iald hx hb hAB.1 hP 12 0 rfl rfl h.1 dX5_costOf_12 ?_
  have h := h.2
  refine lv_iload_n hx hb dX5_costOf_13 rfl (lv_at hl 2 rfl) ?_
  refine lv_isub hx hb dX5_costOf_14 ?_
  refine lv_i2l hx hb dX5_costOf_15 rfl ?_
  refine lv_lmul hx hb dX5_costOf_16 ?_
  refine lv_topl (fun x3_6 e_7 => ?_)
  have h := h x3_6 e_7
  refine lv_lstore_n (lv' := [(3, .long x3_6), (0, .ref (ad 10)), (1, .int a1), (2, .int a2)]) hx hb dX5_costOf_17 rfl hl (by decide) rfl (fun ls hl => ?_)
  refine lv_aload_n hx hb dX5_costOf_18 rfl (lv_at hl 1 rfl) ?_
  refine va_get (D := D) (ci := 5) (C := RX5) (T := TX5) (N := 9) hx hb hts inn_X5_costOf_5 hown hAB.1 hP 10 rfl rfl 1 (by decide) (hts (.fieldLink RX5 9 "BarnBench$Tasks" "kind" "[I") (by decide +kernel)) (fun _ h9 => h9) rfl dX5_costOf_19 ?_
  refine lv_iload_n hx hb dX5_costOf_22 rfl (lv_at hl 2 rfl) ?_
  refine va_iald hx hb hAB.1 hP 11 0 rfl rfl h.1 dX5_costOf_23 ?_
  have h := h.2
  refine lv_iconst (v := 2) hx hb dX5_costOf_24 (by decide) ?_
  refine lv_icmp_ne (tgt := 59) hx hb dX5_costOf_25 (by decide) (fun c_8 => ?_) (fun c_8 => ?_)
  · have h := h.1 c_8
    exact B59 x3_6 h H locs ls hP hD hS (lv_sub hl [1, 2, 3, 0] rfl)
  · have h := h.2 c_8
    refine lv_lload_n hx hb dX5_costOf_28 rfl (lv_at hl 0 rfl) ?_
    refine lv_aload_n hx hb dX5_costOf_29 rfl (lv_at hl 1 rfl) ?_
    refine va_get (D := D) (ci := 5) (C := RX5) (T := TX5) (N := 9) hx hb hts inn_X5_costOf_5 hown hAB.1 hP 10 rfl rfl 6 (by decide) (hts (.fieldLink RX5 27 "BarnBench$Tasks" "step" "[I") (by decide +kernel)) (fun _ h9 => h9) rfl dX5_costOf_30 ?_
    refine lv_iload_n hx hb dX5_costOf_33 rfl (lv_at hl 2 rfl) ?_
    refine va_iald hx hb hAB.1 hP 16 0 rfl rfl h.1 dX5_costOf_34 ?_
    have h := h.2
    refine lv_i2l hx hb dX5_costOf_35 rfl ?_
    refine lv_iconst (v := 0) hx hb dX5_costOf_36 (by decide) ?_
    refine lv_aload_n hx hb dX5_costOf_37 rfl (lv_at hl 1 rfl) ?_
    refine va_get (D := D) (ci := 5) (C := RX5) (T := TX5) (N := 9) hx hb hts inn_X5_costOf_5 hown hAB.1 hP 10 rfl rfl 2 (by decide) (hts (.fieldLink RX5 15 "BarnBench$Tasks" "easy" "[I") (by decide +kernel)) (fun _ h9 => h9) rfl dX5_costOf_38 ?_
    refine lv_iload_n hx hb dX5_costOf_41 rfl (lv_at hl 2 rfl) ?_
    refine va_iald hx hb hAB.1 hP 12 0 rfl rfl h.1 dX5_costOf_42 ?_
    have h := h.2
    refine lv_aload_n hx hb dX5_costOf_43 rfl (lv_at hl 1 rfl) ?_
    refine va_get (D := D) (ci := 5) (C := RX5) (T := TX5) (N := 9) hx hb hts inn_X5_costOf_5 hown hAB.1 hP 10 rfl rfl 5 (by decide) (hts (.fieldLink RX5 24 "BarnBench$Tasks" "extra" "[I") (by decide +kernel)) (fun _ h9 => h9) rfl dX5_costOf_44 ?_
    refine lv_iload_n hx hb dX5_costOf_47 rfl (lv_at hl 2 rfl) ?_
    refine va_iald hx hb hAB.1 hP 15 0 rfl rfl h.1 dX5_costOf_48 ?_
    have h := h.2
    refine lv_isub hx hb dX5_costOf_49 ?_
    refine lv_iload_n hx hb dX5_costOf_50 rfl (lv_at hl 3 rfl) ?_
    refine lv_isub hx hb dX5_costOf_51 ?_
    refine va_mmax (rest := [.long (Int32.toInt64 (tSt (Int32.toNatClampNeg a1))), .long x3_6]) hx hb (by rw [hml]; exact hl.1.symm) hown (hts (.methodLink RX5 55 Lib.Math.max.name) (by decide +kernel)) (hts (.static Lib.Math.max.name) (by decide +kernel)) (hts (.initialized "java/lang/Math") (by decide +kernel)) (hts (.code Lib.Math.max.name Lib.Math.max.code 2 (some .int)) (by decide +kernel)) (Nat.le_of_ble_eq_true rfl) (Nat.le_of_ble_eq_true rfl) (Nat.zero_le _) (Nat.zero_le _) dX5_costOf_52 ?_
    refine lv_i2l hx hb dX5_costOf_55 rfl ?_
    refine lv_lmul hx hb dX5_costOf_56 ?_
    refine lv_ladd hx hb dX5_costOf_57 ?_
    refine lv_topl (fun x3_9 e_10 => ?_)
    have h := h x3_9 e_10
    refine lv_lstore_n (lv' := [(3, .long x3_9), (0, .ref (ad 10)), (1, .int a1), (2, .int a2)]) hx hb dX5_costOf_58 rfl hl (by decide) rfl (fun ls hl => ?_)
    exact B59 x3_9 h H locs ls hP hD hS (lv_sub hl [1, 2, 3, 0] rfl)
def wp_X5_leastCost_L4 (tC : Int32) (tEa : Nat → Int32) (tEx : Nat → Int32) (tHa : Nat → Int32) (tKi : Nat → Int32) (tPr : Nat → Int32) (tSt : Nat → Int32) (x4 : (Int64) → Prop) : Nat → (Int64) → (Int32) → Prop
  | 0, _, _ => False
  | n4 + 1, x1_1, x3_2 =>
  ((tC ≤ x3_2 → x4 x1_1) ∧
   (¬ tC ≤ x3_2 → vp_in x3_2 12 ∧ wp_X5_costOf tKi tEa tPr tEx tSt x3_2 (tEa (Int32.toNatClampNeg x3_2)) (fun (r_5 : Int64) => vp_in x3_2 12 ∧ wp_X5_costOf tKi tEa tPr tEx tSt x3_2 (tHa (Int32.toNatClampNeg x3_2)) (fun (r_6 : Int64) => ∀ x1_7 : Int64, x1_7 = (x1_1 + (if r_6 < r_5 then r_6 else r_5)) → ∀ x3_9 : Int32, x3_9 = x3_2 + 1 → (wp_X5_leastCost_L4 tC tEa tEx tHa tKi tPr tSt x4 n4) x1_7 x3_9))))
def wp_X5_leastCost (tC : Int32) (tKi : Nat → Int32) (tEa : Nat → Int32) (tHa : Nat → Int32) (tPr : Nat → Int32) (tEx : Nat → Int32) (tSt : Nat → Int32)  (Qp : Int64 → Prop) : Prop :=
  (∃ n4 : Nat, wp_X5_leastCost_L4 tC tEa tEx tHa tKi tPr tSt (fun (x1_3 : Int64) => Qp x1_3) n4 0 0)
theorem inn_X5_leastCost_5 : ∀ w ∈ u_ws RX5 TX5 9, w ∈ wsX5_leastCost := fun _ h => List.mem_cons_of_mem _ (List.mem_append_right _ h)
def rm_X5_leastCost : Room := { frames := 2, cells := 0, slots := 0, locals := 47 }
set_option maxHeartbeats 4000000 in
set_option maxRecDepth 100000 in
theorem ct_X5_leastCost {l : Launch} {D : va_G} {cI cJ cZ cE cD cK : ClassId} {ad : Nat → Nat} {bd dd : Nat → Nat → Nat} {bHK : Int32} {bHP : Int32} {bPF : Int32} {bWC : Int32} {bRi : Int32} {bBe : Int32} {bFi : Int32} {bWa : Nat → Int32} {dB : Nat → Int32} {dS : Nat → Int32} {dN : Nat → Nat → Int64} {tC : Int32} {tKi : Nat → Int32} {tEa : Nat → Int32} {tHa : Nat → Int32} {tPr : Nat → Int32} {tEx : Nat → Int32} {tSt : Nat → Int32} {tTo : Nat → Int32} {tBe : Nat → Int32} {kC : Int32} {kKi : Nat → Int32} {kEa : Nat → Int32} {kHa : Nat → Int32} {kPr : Nat → Int32} {kEx : Nat → Int32} {kSt : Nat → Int32} {kTo : Nat → Int32} {kBe : Nat → Int32} {aC : Int32} {aWh : Nat → Int32} {aTa : Nat → Int32} {aWa : Nat → Int32} {iRo : Nat → Int32} {iEa : Nat → Int32} {iLa : Nat → Int32} {cC : Int32} {nC : Int32} {nFo : Int32} {nQd : Int32} {nRo : Nat → Int32} {nBe : Nat → Int32} {nEa : Nat → Int32} {nMi : Nat → Int32} {nHa : Nat → Int32} {nER : Nat → Int32} {nMR : Nat → Int32} {nTh : Nat → Int32} {nPa : Nat → Int32} {nOu : Nat → Int32} {nFr : Nat → Int32} {nQu : Nat → Int32} {eM : Nat} {eL : Nat → Int32} {eC : Nat → Int64} {eS : Nat → Int64} {eB : Nat → Nat → Int32} {eE : Nat → Nat → Int32} {eF : Nat → Nat → Int32} {eG : Nat → Nat → Int32}    {Qp : Int64 → Prop}   (h : wp_X5_leastCost tC tKi tEa tHa tPr tEx tSt Qp) : CTl l yX5_leastCost wsX5_leastCost rm_X5_leastCost D (tyL cI cJ cZ cE cD cK) [.ref (ad 10)] (WC cI cJ cE cD ad bd dd bHK bHP bPF bWC bRi bBe bFi bWa dB dS dN tC tKi tEa tHa tPr tEx tSt tTo tBe kC kKi kEa kHa kPr kEx kSt kTo kBe aC aWh aTa aWa iRo iEa iLa cC nC nFo nQd nRo nBe nEa nMi nHa nER nMR nTh nPa nOu nFr nQu eM eL eC eS eB eE eF eG) (fun (r : Int64) (u : Unit) => Qp r ) (fun u : Unit => (WC cI cJ cE cD ad bd dd bHK bHP bPF bWC bRi bBe bFi bWa dB dS dN tC tKi tEa tHa tPr tEx tSt tTo tBe kC kKi kEa kHa kPr kEx kSt kTo kBe aC aWh aTa aWa iRo iEa iLa cC nC nFo nQd nRo nBe nEa nMi nHa nER nMR nTh nPa nOu nFr nQu eM eL eC eS eB eE eF eG)) 0 0 := by
  refine ent_l (cc := cX5_leastCost) (maxL := 4) (ret := (some .long)) (by decide) rfl (Nat.le_of_ble_eq_true rfl) ?_
  intro p e s m args below meth c A Q hQ hx hb hr hml hown hts hlk hA hAB hP hD hS ls hl
  have hown : s.vm.findClass RX5 = some m.cls := hown
  have hl : lv_has ls 4 [(0, .ref (ad 10))] := hl
  generalize hH : s.heap = H at hP ⊢
  have hS : va_S A s.heap H [] := by rw [← hH]; exact hS
  clear hH
  generalize ([] : List Loc) = locs at hS ⊢
  refine lv_lconst (v := 0) hx hb dX5_leastCost_0 (by decide) ?_
  refine lv_lstore_n (lv' := [(1, .long 0), (0, .ref (ad 10))]) hx hb dX5_leastCost_1 rfl hl (by decide) rfl (fun ls hl => ?_)
  refine lv_iconst (v := 0) hx hb dX5_leastCost_2 (by decide) ?_
  refine lv_istore_n (lv' := [(3, .int 0), (1, .long 0), (0, .ref (ad 10))]) hx hb dX5_leastCost_3 rfl hl (by decide) rfl (fun ls hl => ?_)
  have L4 : ∀ (x4 : (Int64) → Prop) (hk4 : ∀ (x1_3 : Int64), x4 x1_3 → ∀ (H : Heap) (locs : List Loc) (ls : Array Slot), va_P D vwCl (WC cI cJ cE cD ad bd dd bHK bHP bPF bWC bRi bBe bFi bWa dB dS dN tC tKi tEa tHa tPr tEx tSt tTo tBe kC kKi kEa kHa kPr kEx kSt kTo kBe aC aWh aTa aWa iRo iEa iLa cC nC nFo nQd nRo nBe nEa nMi nHa nER nMR nTh nPa nOu nFr nQu eM eL eC eS eB eE eF eG) H → va_D A (WC cI cJ cE cD ad bd dd bHK bHP bPF bWC bRi bBe bFi bWa dB dS dN tC tKi tEa tHa tPr tEx tSt tTo tBe kC kKi kEa kHa kPr kEx kSt kTo kBe aC aWh aTa aWa iRo iEa iLa cC nC nFo nQd nRo nBe nEa nMi nHa nER nMR nTh nPa nOu nFr nQu eM eL eC eS eB eE eF eG) → va_S A s.heap H locs → lv_has ls 4 [(1, .long x1_3)] → W p l e (headSpec wsX5_leastCost rm_X5_leastCost).room s m args below meth c H locs 0 0 Q (F0 m 46 ls [])) (n4 : Nat) (x1_1 : Int64) (x3_2 : Int32), wp_X5_leastCost_L4 tC tEa tEx tHa tKi tPr tSt x4 n4 x1_1 x3_2 → ∀ (H : Heap) (locs : List Loc) (ls : Array Slot), va_P D vwCl (WC cI cJ cE cD ad bd dd bHK bHP bPF bWC bRi bBe bFi bWa dB dS dN tC tKi tEa tHa tPr tEx tSt tTo tBe kC kKi kEa kHa kPr kEx kSt kTo kBe aC aWh aTa aWa iRo iEa iLa cC nC nFo nQd nRo nBe nEa nMi nHa nER nMR nTh nPa nOu nFr nQu eM eL eC eS eB eE eF eG) H → va_D A (WC cI cJ cE cD ad bd dd bHK bHP bPF bWC bRi bBe bFi bWa dB dS dN tC tKi tEa tHa tPr tEx tSt tTo tBe kC kKi kEa kHa kPr kEx kSt kTo kBe aC aWh aTa aWa iRo iEa iLa cC nC nFo nQd nRo nBe nEa nMi nHa nER nMR nTh nPa nOu nFr nQu eM eL eC eS eB eE eF eG) → va_S A s.heap H locs → lv_has ls 4 [(0, .ref (ad 10)), (1, .long x1_1), (3, .int x3_2)] → W p l e (headSpec wsX5_leastCost rm_X5_leastCost).room s m args below meth c H locs 0 0 Q (F0 m 4 ls []) := by
    intro x4 hk4 n4
    induction n4 with
    | zero => intro x1_1 x3_2 h; exact False.elim h
    | succ n4 ih4 =>
      intro x1_1 x3_2 h H locs ls hP hD hS hl
      refine lv_iload_n hx hb dX5_leastCost_4 rfl (lv_at hl 2 rfl) ?_
      refine lv_aload_n hx hb dX5_leastCost_5 rfl (lv_at hl 0 rfl) ?_
      refine va_get (D := D) (ci := 5) (C := RX5) (T := TX5) (N := 9) hx hb hts inn_X5_leastCost_5 hown hAB.1 hP 10 rfl rfl 0 (by decide) (hts (.fieldLink RX5 36 "BarnBench$Tasks" "count" "I") (by decide +kernel)) (fun _ h9 => h9) rfl dX5_leastCost_6 ?_
      refine lv_icmp_ge (tgt := 46) hx hb dX5_leastCost_9 (by decide) (fun c_4 => ?_) (fun c_4 => ?_)
      · have h := h.1 c_4
        exact hk4 x1_1 h H locs ls hP hD hS (lv_sub hl [1] rfl)
      · have h := h.2 c_4
        refine lv_lload_n hx hb dX5_leastCost_12 rfl (lv_at hl 1 rfl) ?_
        refine lv_aload_n hx hb dX5_leastCost_13 rfl (lv_at hl 0 rfl) ?_
        refine lv_iload_n hx hb dX5_leastCost_14 rfl (lv_at hl 2 rfl) ?_
        refine lv_aload_n hx hb dX5_leastCost_15 rfl (lv_at hl 0 rfl) ?_
        refine va_get (D := D) (ci := 5) (C := RX5) (T := TX5) (N := 9) hx hb hts inn_X5_leastCost_5 hown hAB.1 hP 10 rfl rfl 2 (by decide) (hts (.fieldLink RX5 15 "BarnBench$Tasks" "easy" "[I") (by decide +kernel)) (fun _ h9 => h9) rfl dX5_leastCost_16 ?_
        refine lv_iload_n hx hb dX5_leastCost_19 rfl (lv_at hl 2 rfl) ?_
        refine va_iald hx hb hAB.1 hP 12 0 rfl rfl h.1 dX5_leastCost_20 ?_
        have h := h.2
        refine cl_l hD hS hA (va_runV (As := [.int x3_2, .int (tEa (Int32.toNatClampNeg x3_2))]) (rest := [.long x1_1]) ⟨hx, hb, hml, hown, hts⟩ (ct_X5_costOf h H.size) (cwV 2 hts gX5_leastCost_X5_costOf rfl rfl rfl (by decide +kernel) ⟨Nat.le_of_ble_eq_true rfl, Nat.le_of_ble_eq_true rfl⟩) ⟨CPre.blind, va_recv hAB.1 hP (ci := 5) (q0 := 10) rfl rfl, wd_pre hAB hP hD hS hA⟩ rfl rfl hl.1 rfl (lv_room (Nat.le_of_ble_eq_true rfl)) dX5_leastCost_21 ⟨Nat.zero_le _, Nat.zero_le _⟩) (fun r_5 u H locs h hP hD hS => ?_)
        refine lv_aload_n hx hb dX5_leastCost_24 rfl (lv_at hl 0 rfl) ?_
        refine lv_iload_n hx hb dX5_leastCost_25 rfl (lv_at hl 2 rfl) ?_
        refine lv_aload_n hx hb dX5_leastCost_26 rfl (lv_at hl 0 rfl) ?_
        refine va_get (D := D) (ci := 5) (C := RX5) (T := TX5) (N := 9) hx hb hts inn_X5_leastCost_5 hown hAB.1 hP 10 rfl rfl 3 (by decide) (hts (.fieldLink RX5 18 "BarnBench$Tasks" "hard" "[I") (by decide +kernel)) (fun _ h9 => h9) rfl dX5_leastCost_27 ?_
        refine lv_iload_n hx hb dX5_leastCost_30 rfl (lv_at hl 2 rfl) ?_
        refine va_iald hx hb hAB.1 hP 13 0 rfl rfl h.1 dX5_leastCost_31 ?_
        have h := h.2
        refine cl_l hD hS hA (va_runV (As := [.int x3_2, .int (tHa (Int32.toNatClampNeg x3_2))]) (rest := [.long r_5, .long x1_1]) ⟨hx, hb, hml, hown, hts⟩ (ct_X5_costOf h H.size) (cwV 2 hts gX5_leastCost_X5_costOf rfl rfl rfl (by decide +kernel) ⟨Nat.le_of_ble_eq_true rfl, Nat.le_of_ble_eq_true rfl⟩) ⟨CPre.blind, va_recv hAB.1 hP (ci := 5) (q0 := 10) rfl rfl, wd_pre hAB hP hD hS hA⟩ rfl rfl hl.1 rfl (lv_room (Nat.le_of_ble_eq_true rfl)) dX5_leastCost_32 ⟨Nat.zero_le _, Nat.zero_le _⟩) (fun r_6 u H locs h hP hD hS => ?_)
        refine va_mmin_long (rest := [.long x1_1]) hx hb (by rw [hml]; exact hl.1.symm) hown (hts (.methodLink RX5 65 Lib.MathLoose.min_long.x) (by decide +kernel)) (hts (.static Lib.MathLoose.min_long.x) (by decide +kernel)) (hts (.initialized "java/lang/Math") (by decide +kernel)) (hts (.code Lib.MathLoose.min_long.x Lib.MathLoose.min_long.code 4 (some .long)) (by decide +kernel)) (Nat.le_of_ble_eq_true rfl) (Nat.le_of_ble_eq_true rfl) (Nat.zero_le _) (Nat.zero_le _) dX5_leastCost_35 ?_
        refine lv_ladd hx hb dX5_leastCost_38 ?_
        refine lv_topl (fun x1_7 e_8 => ?_)
        have h := h x1_7 e_8
        refine lv_lstore_n (lv' := [(1, .long x1_7), (0, .ref (ad 10)), (3, .int x3_2)]) hx hb dX5_leastCost_39 rfl hl (by decide) rfl (fun ls hl => ?_)
        obtain ⟨x3_9, e_10⟩ : ∃ y : Int32, y = x3_2 + 1 := ⟨_, rfl⟩
        have h := h x3_9 e_10
        refine lv_iinc (v := x3_9) (lv' := [(3, .int x3_9), (1, .long x1_7), (0, .ref (ad 10))]) hx hb dX5_leastCost_40 hl (k := 2) rfl (by rw [e_10]; rfl) (by decide) rfl (fun ls hl => ?_)
        refine lv_goto (tgt := 4) hx hb dX5_leastCost_43 (by decide) ?_
        exact ih4 x1_7 x3_9 h H locs ls hP hD hS (lv_sub hl [2, 1, 0] rfl)
  obtain ⟨n4, h⟩ := h
  refine L4 _ (fun x1_3 h H locs ls hP hD hS hl => ?_) n4 0 0 h H locs ls hP hD hS (lv_sub hl [2, 1, 0] rfl)
  refine lv_lload_n hx hb dX5_leastCost_46 rfl (lv_at hl 0 rfl) ?_
  exact rt_l () hQ hx hb hr hlk hP hD hS ⟨Nat.zero_le _, Nat.zero_le _⟩ dX5_leastCost_47 h
def wp_X5_pairs_L4 (tBe : Nat → Int32) (tC : Int32) (x4 : (Int32) → Prop) : Nat → (Int32) → (Int32) → Prop
  | 0, _, _ => False
  | n4 + 1, x1_1, x2_2 =>
  ((tC ≤ x2_2 → x4 x1_1) ∧
   (¬ tC ≤ x2_2 → vp_in x2_2 12 ∧ ∀ x1_7 : Int32, x1_7 = (x1_1 + (jBits (tBe (Int32.toNatClampNeg x2_2)))) → ∀ x2_9 : Int32, x2_9 = x2_2 + 1 → (wp_X5_pairs_L4 tBe tC x4 n4) x1_7 x2_9))
def wp_X5_pairs (tC : Int32) (tBe : Nat → Int32)  (Qp : Int32 → Prop) : Prop :=
  (∃ n4 : Nat, wp_X5_pairs_L4 tBe tC (fun (x1_3 : Int32) => Qp x1_3) n4 0 0)
theorem inn_X5_pairs_5 : ∀ w ∈ u_ws RX5 TX5 9, w ∈ wsX5_pairs := fun _ h => List.mem_cons_of_mem _ (List.mem_append_right _ h)
def rm_X5_pairs : Room := { frames := 1, cells := 0, slots := 0, locals := 20 }
set_option maxHeartbeats 4000000 in
set_option maxRecDepth 100000 in
theorem ct_X5_pairs {l : Launch} {D : va_G} {cI cJ cZ cE cD cK : ClassId} {ad : Nat → Nat} {bd dd : Nat → Nat → Nat} {bHK : Int32} {bHP : Int32} {bPF : Int32} {bWC : Int32} {bRi : Int32} {bBe : Int32} {bFi : Int32} {bWa : Nat → Int32} {dB : Nat → Int32} {dS : Nat → Int32} {dN : Nat → Nat → Int64} {tC : Int32} {tKi : Nat → Int32} {tEa : Nat → Int32} {tHa : Nat → Int32} {tPr : Nat → Int32} {tEx : Nat → Int32} {tSt : Nat → Int32} {tTo : Nat → Int32} {tBe : Nat → Int32} {kC : Int32} {kKi : Nat → Int32} {kEa : Nat → Int32} {kHa : Nat → Int32} {kPr : Nat → Int32} {kEx : Nat → Int32} {kSt : Nat → Int32} {kTo : Nat → Int32} {kBe : Nat → Int32} {aC : Int32} {aWh : Nat → Int32} {aTa : Nat → Int32} {aWa : Nat → Int32} {iRo : Nat → Int32} {iEa : Nat → Int32} {iLa : Nat → Int32} {cC : Int32} {nC : Int32} {nFo : Int32} {nQd : Int32} {nRo : Nat → Int32} {nBe : Nat → Int32} {nEa : Nat → Int32} {nMi : Nat → Int32} {nHa : Nat → Int32} {nER : Nat → Int32} {nMR : Nat → Int32} {nTh : Nat → Int32} {nPa : Nat → Int32} {nOu : Nat → Int32} {nFr : Nat → Int32} {nQu : Nat → Int32} {eM : Nat} {eL : Nat → Int32} {eC : Nat → Int64} {eS : Nat → Int64} {eB : Nat → Nat → Int32} {eE : Nat → Nat → Int32} {eF : Nat → Nat → Int32} {eG : Nat → Nat → Int32}    {Qp : Int32 → Prop}   (h : wp_X5_pairs tC tBe Qp) : CTi l yX5_pairs wsX5_pairs rm_X5_pairs D (tyL cI cJ cZ cE cD cK) [.ref (ad 10)] (WC cI cJ cE cD ad bd dd bHK bHP bPF bWC bRi bBe bFi bWa dB dS dN tC tKi tEa tHa tPr tEx tSt tTo tBe kC kKi kEa kHa kPr kEx kSt kTo kBe aC aWh aTa aWa iRo iEa iLa cC nC nFo nQd nRo nBe nEa nMi nHa nER nMR nTh nPa nOu nFr nQu eM eL eC eS eB eE eF eG) (fun (r : Int32) (u : Unit) => Qp r ) (fun u : Unit => (WC cI cJ cE cD ad bd dd bHK bHP bPF bWC bRi bBe bFi bWa dB dS dN tC tKi tEa tHa tPr tEx tSt tTo tBe kC kKi kEa kHa kPr kEx kSt kTo kBe aC aWh aTa aWa iRo iEa iLa cC nC nFo nQd nRo nBe nEa nMi nHa nER nMR nTh nPa nOu nFr nQu eM eL eC eS eB eE eF eG)) 0 0 := by
  refine ent_i (cc := cX5_pairs) (maxL := 3) (ret := (some .int)) (by decide) rfl (Nat.le_of_ble_eq_true rfl) ?_
  intro p e s m args below meth c A Q hQ hx hb hr hml hown hts hlk hA hAB hP hD hS ls hl
  have hown : s.vm.findClass RX5 = some m.cls := hown
  have hl : lv_has ls 3 [(0, .ref (ad 10))] := hl
  generalize hH : s.heap = H at hP ⊢
  have hS : va_S A s.heap H [] := by rw [← hH]; exact hS
  clear hH
  generalize ([] : List Loc) = locs at hS ⊢
  refine lv_iconst (v := 0) hx hb dX5_pairs_0 (by decide) ?_
  refine lv_istore_n (lv' := [(1, .int 0), (0, .ref (ad 10))]) hx hb dX5_pairs_1 rfl hl (by decide) rfl (fun ls hl => ?_)
  refine lv_iconst (v := 0) hx hb dX5_pairs_2 (by decide) ?_
  refine lv_istore_n (lv' := [(2, .int 0), (1, .int 0), (0, .ref (ad 10))]) hx hb dX5_pairs_3 rfl hl (by decide) rfl (fun ls hl => ?_)
  have L4 : ∀ (x4 : (Int32) → Prop) (hk4 : ∀ (x1_3 : Int32), x4 x1_3 → ∀ (H : Heap) (locs : List Loc) (ls : Array Slot), va_P D vwCl (WC cI cJ cE cD ad bd dd bHK bHP bPF bWC bRi bBe bFi bWa dB dS dN tC tKi tEa tHa tPr tEx tSt tTo tBe kC kKi kEa kHa kPr kEx kSt kTo kBe aC aWh aTa aWa iRo iEa iLa cC nC nFo nQd nRo nBe nEa nMi nHa nER nMR nTh nPa nOu nFr nQu eM eL eC eS eB eE eF eG) H → va_D A (WC cI cJ cE cD ad bd dd bHK bHP bPF bWC bRi bBe bFi bWa dB dS dN tC tKi tEa tHa tPr tEx tSt tTo tBe kC kKi kEa kHa kPr kEx kSt kTo kBe aC aWh aTa aWa iRo iEa iLa cC nC nFo nQd nRo nBe nEa nMi nHa nER nMR nTh nPa nOu nFr nQu eM eL eC eS eB eE eF eG) → va_S A s.heap H locs → lv_has ls 3 [(1, .int x1_3)] → W p l e (headSpec wsX5_pairs rm_X5_pairs).room s m args below meth c H locs 0 0 Q (F0 m 30 ls [])) (n4 : Nat) (x1_1 : Int32) (x2_2 : Int32), wp_X5_pairs_L4 tBe tC x4 n4 x1_1 x2_2 → ∀ (H : Heap) (locs : List Loc) (ls : Array Slot), va_P D vwCl (WC cI cJ cE cD ad bd dd bHK bHP bPF bWC bRi bBe bFi bWa dB dS dN tC tKi tEa tHa tPr tEx tSt tTo tBe kC kKi kEa kHa kPr kEx kSt kTo kBe aC aWh aTa aWa iRo iEa iLa cC nC nFo nQd nRo nBe nEa nMi nHa nER nMR nTh nPa nOu nFr nQu eM eL eC eS eB eE eF eG) H → va_D A (WC cI cJ cE cD ad bd dd bHK bHP bPF bWC bRi bBe bFi bWa dB dS dN tC tKi tEa tHa tPr tEx tSt tTo tBe kC kKi kEa kHa kPr kEx kSt kTo kBe aC aWh aTa aWa iRo iEa iLa cC nC nFo nQd nRo nBe nEa nMi nHa nER nMR nTh nPa nOu nFr nQu eM eL eC eS eB eE eF eG) → va_S A s.heap H locs → lv_has ls 3 [(0, .ref (ad 10)), (1, .int x1_1), (2, .int x2_2)] → W p l e (headSpec wsX5_pairs rm_X5_pairs).room s m args below meth c H locs 0 0 Q (F0 m 4 ls []) := by
    intro x4 hk4 n4
    induction n4 with
    | zero => intro x1_1 x2_2 h; exact False.elim h
    | succ n4 ih4 =>
      intro x1_1 x2_2 h H locs ls hP hD hS hl
      refine lv_iload_n hx hb dX5_pairs_4 rfl (lv_at hl 2 rfl) ?_
      refine lv_aload_n hx hb dX5_pairs_5 rfl (lv_at hl 0 rfl) ?_
      refine va_get (D := D) (ci := 5) (C := RX5) (T := TX5) (N := 9) hx hb hts inn_X5_pairs_5 hown hAB.1 hP 10 rfl rfl 0 (by decide) (hts (.fieldLink RX5 36 "BarnBench$Tasks" "count" "I") (by decide +kernel)) (fun _ h9 => h9) rfl dX5_pairs_6 ?_
      refine lv_icmp_ge (tgt := 30) hx hb dX5_pairs_9 (by decide) (fun c_4 => ?_) (fun c_4 => ?_)
      · have h := h.1 c_4
        exact hk4 x1_1 h H locs ls hP hD hS (lv_sub hl [1] rfl)
      · have h := h.2 c_4
        refine lv_iload_n hx hb dX5_pairs_12 rfl (lv_at hl 1 rfl) ?_
        refine lv_aload_n hx hb dX5_pairs_13 rfl (lv_at hl 0 rfl) ?_
        refine va_get (D := D) (ci := 5) (C := RX5) (T := TX5) (N := 9) hx hb hts inn_X5_pairs_5 hown hAB.1 hP 10 rfl rfl 8 (by decide) (hts (.fieldLink RX5 33 "BarnBench$Tasks" "before" "[I") (by decide +kernel)) (fun _ h9 => h9) rfl dX5_pairs_14 ?_
        refine lv_iload_n hx hb dX5_pairs_17 rfl (lv_at hl 2 rfl) ?_
        refine va_iald hx hb hAB.1 hP 18 0 rfl rfl h.1 dX5_pairs_18 ?_
        have h := h.2
        refine cl_i hD hS hA (va_runS (As := [.int (tBe (Int32.toNatClampNeg x2_2))]) (rest := [.int x1_1]) ⟨hx, hb, hml, hown, hts⟩ (ct_J6_bitCount H.size) (va_cwS 1 hts gX5_pairs_J6_bitCount_0f7a4 rfl rfl rfl (by decide +kernel) ⟨Nat.le_of_ble_eq_true rfl, Nat.le_of_ble_eq_true rfl⟩) ⟨CPre.blind, wd_pre hAB hP hD hS hA⟩ rfl rfl hl.1 rfl (lv_room (Nat.le_of_ble_eq_true rfl)) dX5_pairs_19 ⟨Nat.zero_le _, Nat.zero_le _⟩) (fun r_5 u H locs e_6 hP hD hS => ?_)
        subst e_6
        have hP : va_P D vwCl (WC cI cJ cE cD ad bd dd bHK bHP bPF bWC bRi bBe bFi bWa dB dS dN tC tKi tEa tHa tPr tEx tSt tTo tBe kC kKi kEa kHa kPr kEx kSt kTo kBe aC aWh aTa aWa iRo iEa iLa cC nC nFo nQd nRo nBe nEa nMi nHa nER nMR nTh nPa nOu nFr nQu eM eL eC eS eB eE eF eG) H := hP
        have hD : va_D A (WC cI cJ cE cD ad bd dd bHK bHP bPF bWC bRi bBe bFi bWa dB dS dN tC tKi tEa tHa tPr tEx tSt tTo tBe kC kKi kEa kHa kPr kEx kSt kTo kBe aC aWh aTa aWa iRo iEa iLa cC nC nFo nQd nRo nBe nEa nMi nHa nER nMR nTh nPa nOu nFr nQu eM eL eC eS eB eE eF eG) := hD
        refine lv_iadd hx hb dX5_pairs_22 ?_
        refine lv_topi (fun x1_7 e_8 => ?_)
        have h := h x1_7 e_8
        refine lv_istore_n (lv' := [(1, .int x1_7), (0, .ref (ad 10)), (2, .int x2_2)]) hx hb dX5_pairs_23 rfl hl (by decide) rfl (fun ls hl => ?_)
        obtain ⟨x2_9, e_10⟩ : ∃ y : Int32, y = x2_2 + 1 := ⟨_, rfl⟩
        have h := h x2_9 e_10
        refine lv_iinc (v := x2_9) (lv' := [(2, .int x2_9), (1, .int x1_7), (0, .ref (ad 10))]) hx hb dX5_pairs_24 hl (k := 2) rfl (by rw [e_10]; rfl) (by decide) rfl (fun ls hl => ?_)
        refine lv_goto (tgt := 4) hx hb dX5_pairs_27 (by decide) ?_
        exact ih4 x1_7 x2_9 h H locs ls hP hD hS (lv_sub hl [2, 1, 0] rfl)
  obtain ⟨n4, h⟩ := h
  refine L4 _ (fun x1_3 h H locs ls hP hD hS hl => ?_) n4 0 0 h H locs ls hP hD hS (lv_sub hl [2, 1, 0] rfl)
  refine lv_iload_n hx hb dX5_pairs_30 rfl (lv_at hl 0 rfl) ?_
  exact rt_i () hQ hx hb hr hlk hP hD hS ⟨Nat.zero_le _, Nat.zero_le _⟩ dX5_pairs_31 h
def wp_X5_allBefore_b59 (k31 : (Int32) → (Int32) → Prop) (x2_12 : Int32) (x5_13 : Int32) : Prop :=
  ∀ x5_14 : Int32, x5_14 = x5_13 + 1 → k31 x2_12 x5_14
def wp_X5_allBefore_L31 (tBe : Nat → Int32) (tC : Int32) (x2_3 : Int32) (x31 : (Int32) → Prop) : Nat → (Int32) → (Int32) → Prop
  | 0, _, _ => False
  | n31 + 1, x2_9, x5_10 =>
  ((tC ≤ x5_10 → x31 x2_9) ∧
   (¬ tC ≤ x5_10 → wp_X7_hasBit x2_3 x5_10 (fun (r_17 : Int32) => ((r_17 = 0 → wp_X5_allBefore_b59 (wp_X5_allBefore_L31 tBe tC x2_3 x31 n31) x2_9 x5_10) ∧
   (¬ r_17 = 0 → vp_in x5_10 12 ∧ ∀ x2_19 : Int32, x2_19 = (x2_9 ||| (tBe (Int32.toNatClampNeg x5_10))) → wp_X5_allBefore_b59 (wp_X5_allBefore_L31 tBe tC x2_3 x31 n31) x2_19 x5_10)))))
def wp_X5_allBefore_L12 (tBe : Nat → Int32) (tC : Int32) (x12 : (Int32) → Prop) : Nat → (Int32) → (Int32) → (Int32) → Prop
  | 0, _, _, _ => False
  | n12 + 1, x2_3, x3_4, x4_5 =>
  ((tC ≤ x4_5 → x12 x2_3) ∧
   (¬ tC ≤ x4_5 → ((x2_3 = x3_4 → x12 x2_3) ∧
   (¬ x2_3 = x3_4 → (∃ n31 : Nat, wp_X5_allBefore_L31 tBe tC x2_3 (fun (x2_11 : Int32) => ∀ x4_21 : Int32, x4_21 = x4_5 + 1 → (wp_X5_allBefore_L12 tBe tC x12 n12) x2_11 x2_3 x4_21) n31 x2_3 0)))))
def wp_X5_allBefore (tC : Int32) (tBe : Nat → Int32) (a1 : Int32) (Qp : Int32 → Prop) : Prop :=
  vp_in a1 12 ∧ ∀ x2_1 : Int32, x2_1 = (tBe (Int32.toNatClampNeg a1)) → (∃ n12 : Nat, wp_X5_allBefore_L12 tBe tC (fun (x2_6 : Int32) => Qp x2_6) n12 x2_1 0 0)
theorem inn_X5_allBefore_5 : ∀ w ∈ u_ws RX5 TX5 9, w ∈ wsX5_allBefore := fun _ h => List.mem_cons_of_mem _ (List.mem_append_right _ h)
def rm_X5_allBefore : Room := { frames := 1, cells := 0, slots := 0, locals := 21 }
set_option maxHeartbeats 4000000 in
set_option maxRecDepth 100000 in
theorem ct_X5_allBefore {l : Launch} {D : va_G} {cI cJ cZ cE cD cK : ClassId} {ad : Nat → Nat} {bd dd : Nat → Nat → Nat} {bHK : Int32} {bHP : Int32} {bPF : Int32} {bWC : Int32} {bRi : Int32} {bBe : Int32} {bFi : Int32} {bWa : Nat → Int32} {dB : Nat → Int32} {dS : Nat → Int32} {dN : Nat → Nat → Int64} {tC : Int32} {tKi : Nat → Int32} {tEa : Nat → Int32} {tHa : Nat → Int32} {tPr : Nat → Int32} {tEx : Nat → Int32} {tSt : Nat → Int32} {tTo : Nat → Int32} {tBe : Nat → Int32} {kC : Int32} {kKi : Nat → Int32} {kEa : Nat → Int32} {kHa : Nat → Int32} {kPr : Nat → Int32} {kEx : Nat → Int32} {kSt : Nat → Int32} {kTo : Nat → Int32} {kBe : Nat → Int32} {aC : Int32} {aWh : Nat → Int32} {aTa : Nat → Int32} {aWa : Nat → Int32} {iRo : Nat → Int32} {iEa : Nat → Int32} {iLa : Nat → Int32} {cC : Int32} {nC : Int32} {nFo : Int32} {nQd : Int32} {nRo : Nat → Int32} {nBe : Nat → Int32} {nEa : Nat → Int32} {nMi : Nat → Int32} {nHa : Nat → Int32} {nER : Nat → Int32} {nMR : Nat → Int32} {nTh : Nat → Int32} {nPa : Nat → Int32} {nOu : Nat → Int32} {nFr : Nat → Int32} {nQu : Nat → Int32} {eM : Nat} {eL : Nat → Int32} {eC : Nat → Int64} {eS : Nat → Int64} {eB : Nat → Nat → Int32} {eE : Nat → Nat → Int32} {eF : Nat → Nat → Int32} {eG : Nat → Nat → Int32}   {a1 : Int32} {Qp : Int32 → Prop}   (h : wp_X5_allBefore tC tBe a1 Qp) : CTi l yX5_allBefore wsX5_allBefore rm_X5_allBefore D (tyL cI cJ cZ cE cD cK) [.ref (ad 10), .int a1] (WC cI cJ cE cD ad bd dd bHK bHP bPF bWC bRi bBe bFi bWa dB dS dN tC tKi tEa tHa tPr tEx tSt tTo tBe kC kKi kEa kHa kPr kEx kSt kTo kBe aC aWh aTa aWa iRo iEa iLa cC nC nFo nQd nRo nBe nEa nMi nHa nER nMR nTh nPa nOu nFr nQu eM eL eC eS eB eE eF eG) (fun (r : Int32) (u : Unit) => Qp r ) (fun u : Unit => (WC cI cJ cE cD ad bd dd bHK bHP bPF bWC bRi bBe bFi bWa dB dS dN tC tKi tEa tHa tPr tEx tSt tTo tBe kC kKi kEa kHa kPr kEx kSt kTo kBe aC aWh aTa aWa iRo iEa iLa cC nC nFo nQd nRo nBe nEa nMi nHa nER nMR nTh nPa nOu nFr nQu eM eL eC eS eB eE eF eG)) 0 0 := by
  refine ent_i (cc := cX5_allBefore) (maxL := 6) (ret := (some .int)) (by decide) rfl (Nat.le_of_ble_eq_true rfl) ?_
  intro p e s m args below meth c A Q hQ hx hb hr hml hown hts hlk hA hAB hP hD hS ls hl
  have hown : s.vm.findClass RX5 = some m.cls := hown
  have hl : lv_has ls 6 [(0, .ref (ad 10)), (1, .int a1)] := hl
  generalize hH : s.heap = H at hP ⊢
  have hS : va_S A s.heap H [] := by rw [← hH]; exact hS
  clear hH
  generalize ([] : List Loc) = locs at hS ⊢
  refine lv_aload_n hx hb dX5_allBefore_0 rfl (lv_at hl 0 rfl) ?_
  refine va_get (D := D) (ci := 5) (C := RX5) (T := TX5) (N := 9) hx hb hts inn_X5_allBefore_5 hown hAB.1 hP 10 rfl rfl 8 (by decide) (hts (.fieldLink RX5 33 "BarnBench$Tasks" "before" "[I") (by decide +kernel)) (fun _ h9 => h9) rfl dX5_allBefore_1 ?_
  refine lv_iload_n hx hb dX5_allBefore_4 rfl (lv_at hl 1 rfl) ?_
  refine va_iald hx hb hAB.1 hP 18 0 rfl rfl h.1 dX5_allBefore_5 ?_
  have h := h.2
  refine lv_topi (fun x2_1 e_2 => ?_)
  have h := h x2_1 e_2
  refine lv_istore_n (lv' := [(2, .int x2_1), (0, .ref (ad 10)), (1, .int a1)]) hx hb dX5_allBefore_6 rfl hl (by decide) rfl (fun ls hl => ?_)
  refine lv_iconst (v := 0) hx hb dX5_allBefore_7 (by decide) ?_
  refine lv_istore_n (lv' := [(3, .int 0), (2, .int x2_1), (0, .ref (ad 10)), (1, .int a1)]) hx hb dX5_allBefore_8 rfl hl (by decide) rfl (fun ls hl => ?_)
  refine lv_iconst (v := 0) hx hb dX5_allBefore_9 (by decide) ?_
  refine lv_istore (lv' := [(4, .int 0), (3, .int 0), (2, .int x2_1), (0, .ref (ad 10)), (1, .int a1)]) hx hb dX5_allBefore_10 hl (by decide) rfl (fun ls hl => ?_)
  have L12 : ∀ (x12 : (Int32) → Prop) (hk12 : ∀ (x2_6 : Int32), x12 x2_6 → ∀ (H : Heap) (locs : List Loc) (ls : Array Slot), va_P D vwCl (WC cI cJ cE cD ad bd dd bHK bHP bPF bWC bRi bBe bFi bWa dB dS dN tC tKi tEa tHa tPr tEx tSt tTo tBe kC kKi kEa kHa kPr kEx kSt kTo kBe aC aWh aTa aWa iRo iEa iLa cC nC nFo nQd nRo nBe nEa nMi nHa nER nMR nTh nPa nOu nFr nQu eM eL eC eS eB eE eF eG) H → va_D A (WC cI cJ cE cD ad bd dd bHK bHP bPF bWC bRi bBe bFi bWa dB dS dN tC tKi tEa tHa tPr tEx tSt tTo tBe kC kKi kEa kHa kPr kEx kSt kTo kBe aC aWh aTa aWa iRo iEa iLa cC nC nFo nQd nRo nBe nEa nMi nHa nER nMR nTh nPa nOu nFr nQu eM eL eC eS eB eE eF eG) → va_S A s.heap H locs → lv_has ls 6 [(2, .int x2_6)] → W p l e (headSpec wsX5_allBefore rm_X5_allBefore).room s m args below meth c H locs 0 0 Q (F0 m 71 ls [])) (n12 : Nat) (x2_3 : Int32) (x3_4 : Int32) (x4_5 : Int32), wp_X5_allBefore_L12 tBe tC x12 n12 x2_3 x3_4 x4_5 → ∀ (H : Heap) (locs : List Loc) (ls : Array Slot), va_P D vwCl (WC cI cJ cE cD ad bd dd bHK bHP bPF bWC bRi bBe bFi bWa dB dS dN tC tKi tEa tHa tPr tEx tSt tTo tBe kC kKi kEa kHa kPr kEx kSt kTo kBe aC aWh aTa aWa iRo iEa iLa cC nC nFo nQd nRo nBe nEa nMi nHa nER nMR nTh nPa nOu nFr nQu eM eL eC eS eB eE eF eG) H → va_D A (WC cI cJ cE cD ad bd dd bHK bHP bPF bWC bRi bBe bFi bWa dB dS dN tC tKi tEa tHa tPr tEx tSt tTo tBe kC kKi kEa kHa kPr kEx kSt kTo kBe aC aWh aTa aWa iRo iEa iLa cC nC nFo nQd nRo nBe nEa nMi nHa nER nMR nTh nPa nOu nFr nQu eM eL eC eS eB eE eF eG) → va_S A s.heap H locs → lv_has ls 6 [(0, .ref (ad 10)), (2, .int x2_3), (3, .int x3_4), (4, .int x4_5)] → W p l e (headSpec wsX5_allBefore rm_X5_allBefore).room s m args below meth c H locs 0 0 Q (F0 m 12 ls []) := by
    intro x12 hk12 n12
    induction n12 with
    | zero => intro x2_3 x3_4 x4_5 h; exact False.elim h
    | succ n12 ih12 =>
      intro x2_3 x3_4 x4_5 h H locs ls hP hD hS hl
      refine lv_iload hx hb dX5_allBefore_12 (lv_at hl 3 rfl) ?_
      refine lv_aload_n hx hb dX5_allBefore_14 rfl (lv_at hl 0 rfl) ?_
      refine va_get (D := D) (ci := 5) (C := RX5) (T := TX5) (N := 9) hx hb hts inn_X5_allBefore_5 hown hAB.1 hP 10 rfl rfl 0 (by decide) (hts (.fieldLink RX5 36 "BarnBench$Tasks" "count" "I") (by decide +kernel)) (fun _ h9 => h9) rfl dX5_allBefore_15 ?_
      refine lv_icmp_ge (tgt := 71) hx hb dX5_allBefore_18 (by decide) (fun c_7 => ?_) (fun c_7 => ?_)
      · have h := h.1 c_7
        exact hk12 x2_3 h H locs ls hP hD hS (lv_sub hl [1] rfl)
      · have h := h.2 c_7
        refine lv_iload_n hx hb dX5_allBefore_21 rfl (lv_at hl 1 rfl) ?_
        refine lv_iload_n hx hb dX5_allBefore_22 rfl (lv_at hl 2 rfl) ?_
        refine lv_icmp_eq (tgt := 71) hx hb dX5_allBefore_23 (by decide) (fun c_8 => ?_) (fun c_8 => ?_)
        · have h := h.1 c_8
          exact hk12 x2_3 h H locs ls hP hD hS (lv_sub hl [1] rfl)
        · have h := h.2 c_8
          refine lv_iload_n hx hb dX5_allBefore_26 rfl (lv_at hl 1 rfl) ?_
          refine lv_istore_n (lv' := [(3, .int x2_3), (0, .ref (ad 10)), (2, .int x2_3), (4, .int x4_5)]) hx hb dX5_allBefore_27 rfl hl (by decide) rfl (fun ls hl => ?_)
          refine lv_iconst (v := 0) hx hb dX5_allBefore_28 (by decide) ?_
          refine lv_istore (lv' := [(5, .int 0), (3, .int x2_3), (0, .ref (ad 10)), (2, .int x2_3), (4, .int x4_5)]) hx hb dX5_allBefore_29 hl (by decide) rfl (fun ls hl => ?_)
          have L31 : ∀ (x31 : (Int32) → Prop) (hk31 : ∀ (x2_11 : Int32), x31 x2_11 → ∀ (H : Heap) (locs : List Loc) (ls : Array Slot), va_P D vwCl (WC cI cJ cE cD ad bd dd bHK bHP bPF bWC bRi bBe bFi bWa dB dS dN tC tKi tEa tHa tPr tEx tSt tTo tBe kC kKi kEa kHa kPr kEx kSt kTo kBe aC aWh aTa aWa iRo iEa iLa cC nC nFo nQd nRo nBe nEa nMi nHa nER nMR nTh nPa nOu nFr nQu eM eL eC eS eB eE eF eG) H → va_D A (WC cI cJ cE cD ad bd dd bHK bHP bPF bWC bRi bBe bFi bWa dB dS dN tC tKi tEa tHa tPr tEx tSt tTo tBe kC kKi kEa kHa kPr kEx kSt kTo kBe aC aWh aTa aWa iRo iEa iLa cC nC nFo nQd nRo nBe nEa nMi nHa nER nMR nTh nPa nOu nFr nQu eM eL eC eS eB eE eF eG) → va_S A s.heap H locs → lv_has ls 6 [(0, .ref (ad 10)), (2, .int x2_11), (3, .int x2_3), (4, .int x4_5)] → W p l e (headSpec wsX5_allBefore rm_X5_allBefore).room s m args below meth c H locs 0 0 Q (F0 m 65 ls [])) (n31 : Nat) (x2_9 : Int32) (x5_10 : Int32), wp_X5_allBefore_L31 tBe tC x2_3 x31 n31 x2_9 x5_10 → ∀ (H : Heap) (locs : List Loc) (ls : Array Slot), va_P D vwCl (WC cI cJ cE cD ad bd dd bHK bHP bPF bWC bRi bBe bFi bWa dB dS dN tC tKi tEa tHa tPr tEx tSt tTo tBe kC kKi kEa kHa kPr kEx kSt kTo kBe aC aWh aTa aWa iRo iEa iLa cC nC nFo nQd nRo nBe nEa nMi nHa nER nMR nTh nPa nOu nFr nQu eM eL eC eS eB eE eF eG) H → va_D A (WC cI cJ cE cD ad bd dd bHK bHP bPF bWC bRi bBe bFi bWa dB dS dN tC tKi tEa tHa tPr tEx tSt tTo tBe kC kKi kEa kHa kPr kEx kSt kTo kBe aC aWh aTa aWa iRo iEa iLa cC nC nFo nQd nRo nBe nEa nMi nHa nER nMR nTh nPa nOu nFr nQu eM eL eC eS eB eE eF eG) → va_S A s.heap H locs → lv_has ls 6 [(0, .ref (ad 10)), (2, .int x2_9), (3, .int x2_3), (4, .int x4_5), (5, .int x5_10)] → W p l e (headSpec wsX5_allBefore rm_X5_allBefore).room s m args below meth c H locs 0 0 Q (F0 m 31 ls []) := by
            intro x31 hk31 n31
            induction n31 with
            | zero => intro x2_9 x5_10 h; exact False.elim h
            | succ n31 ih31 =>
              intro x2_9 x5_10 h H locs ls hP hD hS hl
              have B59 : ∀ (x2_12 : Int32) (x5_13 : Int32), wp_X5_allBefore_b59 (wp_X5_allBefore_L31 tBe tC x2_3 x31 n31) x2_12 x5_13 → ∀ (H : Heap) (locs : List Loc) (ls : Array Slot), va_P D vwCl (WC cI cJ cE cD ad bd dd bHK bHP bPF bWC bRi bBe bFi bWa dB dS dN tC tKi tEa tHa tPr tEx tSt tTo tBe kC kKi kEa kHa kPr kEx kSt kTo kBe aC aWh aTa aWa iRo iEa iLa cC nC nFo nQd nRo nBe nEa nMi nHa nER nMR nTh nPa nOu nFr nQu eM eL eC eS eB eE eF eG) H → va_D A (WC cI cJ cE cD ad bd dd bHK bHP bPF bWC bRi bBe bFi bWa dB dS dN tC tKi tEa tHa tPr tEx tSt tTo tBe kC kKi kEa kHa kPr kEx kSt kTo kBe aC aWh aTa aWa iRo iEa iLa cC nC nFo nQd nRo nBe nEa nMi nHa nER nMR nTh nPa nOu nFr nQu eM eL eC eS eB eE eF eG) → va_S A s.heap H locs → lv_has ls 6 [(0, .ref (ad 10)), (2, .int x2_12), (3, .int x2_3), (4, .int x4_5), (5, .int x5_13)] → W p l e (headSpec wsX5_allBefore rm_X5_allBefore).room s m args below meth c H locs 0 0 Q (F0 m 59 ls []) := by
                intro x2_12 x5_13 h H locs ls hP hD hS hl
                obtain ⟨x5_14, e_15⟩ : ∃ y : Int32, y = x5_13 + 1 := ⟨_, rfl⟩
                have h := h x5_14 e_15
                refine lv_iinc (v := x5_14) (lv' := [(5, .int x5_14), (0, .ref (ad 10)), (2, .int x2_12), (3, .int x2_3), (4, .int x4_5)]) hx hb dX5_allBefore_59 hl (k := 4) rfl (by rw [e_15]; rfl) (by decide) rfl (fun ls hl => ?_)
                refine lv_goto (tgt := 31) hx hb dX5_allBefore_62 (by decide) ?_
                exact ih31 x2_12 x5_14 h H locs ls hP hD hS (lv_sub hl [1, 2, 3, 4, 0] rfl)
              refine lv_iload hx hb dX5_allBefore_31 (lv_at hl 4 rfl) ?_
              refine lv_aload_n hx hb dX5_allBefore_33 rfl (lv_at hl 0 rfl) ?_
              refine va_get (D := D) (ci := 5) (C := RX5) (T := TX5) (N := 9) hx hb hts inn_X5_allBefore_5 hown hAB.1 hP 10 rfl rfl 0 (by decide) (hts (.fieldLink RX5 36 "BarnBench$Tasks" "count" "I") (by decide +kernel)) (fun _ h9 => h9) rfl dX5_allBefore_34 ?_
              refine lv_icmp_ge (tgt := 65) hx hb dX5_allBefore_37 (by decide) (fun c_16 => ?_) (fun c_16 => ?_)
              · have h := h.1 c_16
                exact hk31 x2_9 h H locs ls hP hD hS (lv_sub hl [0, 1, 2, 3] rfl)
              · have h := h.2 c_16
                refine lv_iload_n hx hb dX5_allBefore_40 rfl (lv_at hl 2 rfl) ?_
                refine lv_iload hx hb dX5_allBefore_41 (lv_at hl 4 rfl) ?_
                refine cl_i hD hS hA (va_runSN (As := [.int x2_3, .int x5_10]) (rest := []) ⟨hx, hb, hml, hown, hts⟩ (ct_X7_hasBit h H.size) ⟨va_cnB 2 hts gX5_allBefore_X7_hasBit_n75 rfl rfl rfl (hAB.2.1 (.methodLinkNest RX5 75 yX7_hasBit RX7) (by decide +kernel)) (hts (.initialized RX7) (by decide +kernel)) (by decide +kernel) ⟨Nat.le_of_ble_eq_true rfl, Nat.le_of_ble_eq_true rfl⟩, (hts (.static yX7_hasBit) (by decide +kernel)), trivial⟩ ⟨CPre.blind, wd_pre hAB hP hD hS hA⟩ rfl rfl hl.1 rfl (lv_room (Nat.le_of_ble_eq_true rfl)) dX5_allBefore_43 ⟨Nat.zero_le _, Nat.zero_le _⟩) (fun r_17 u H locs h hP hD hS => ?_)
                refine lv_if_eq (tgt := 59) hx hb dX5_allBefore_46 (by decide) (fun c_18 => ?_) (fun c_18 => ?_)
                · have h := h.1 c_18
                  exact B59 x2_9 x5_10 h H locs ls hP hD hS (lv_sub hl [0, 1, 2, 3, 4] rfl)
                · have h := h.2 c_18
                  refine lv_iload_n hx hb dX5_allBefore_49 rfl (lv_at hl 1 rfl) ?_
                  refine lv_aload_n hx hb dX5_allBefore_50 rfl (lv_at hl 0 rfl) ?_
                  refine va_get (D := D) (ci := 5) (C := RX5) (T := TX5) (N := 9) hx hb hts inn_X5_allBefore_5 hown hAB.1 hP 10 rfl rfl 8 (by decide) (hts (.fieldLink RX5 33 "BarnBench$Tasks" "before" "[I") (by decide +kernel)) (fun _ h9 => h9) rfl dX5_allBefore_51 ?_
                  refine lv_iload hx hb dX5_allBefore_54 (lv_at hl 4 rfl) ?_
                  refine va_iald hx hb hAB.1 hP 18 0 rfl rfl h.1 dX5_allBefore_56 ?_
                  have h := h.2
                  refine lv_ior hx hb dX5_allBefore_57 ?_
                  refine lv_topi (fun x2_19 e_20 => ?_)
                  have h := h x2_19 e_20
                  refine lv_istore_n (lv' := [(2, .int x2_19), (0, .ref (ad 10)), (3, .int x2_3), (4, .int x4_5), (5, .int x5_10)]) hx hb dX5_allBefore_58 rfl hl (by decide) rfl (fun ls hl => ?_)
                  exact B59 x2_19 x5_10 h H locs ls hP hD hS (lv_sub hl [1, 0, 2, 3, 4] rfl)
          obtain ⟨n31, h⟩ := h
          refine L31 _ (fun x2_11 h H locs ls hP hD hS hl => ?_) n31 x2_3 0 h H locs ls hP hD hS (lv_sub hl [2, 3, 1, 4, 0] rfl)
          obtain ⟨x4_21, e_22⟩ : ∃ y : Int32, y = x4_5 + 1 := ⟨_, rfl⟩
          have h := h x4_21 e_22
          refine lv_iinc (v := x4_21) (lv' := [(4, .int x4_21), (0, .ref (ad 10)), (2, .int x2_11), (3, .int x2_3)]) hx hb dX5_allBefore_65 hl (k := 3) rfl (by rw [e_22]; rfl) (by decide) rfl (fun ls hl => ?_)
          refine lv_goto (tgt := 12) hx hb dX5_allBefore_68 (by decide) ?_
          exact ih12 x2_11 x2_3 x4_21 h H locs ls hP hD hS (lv_sub hl [1, 2, 3, 0] rfl)
  obtain ⟨n12, h⟩ := h
  refine L12 _ (fun x2_6 h H locs ls hP hD hS hl => ?_) n12 x2_1 0 0 h H locs ls hP hD hS (lv_sub hl [3, 2, 1, 0] rfl)
  refine lv_iload_n hx hb dX5_allBefore_71 rfl (lv_at hl 0 rfl) ?_
  exact rt_i () hQ hx hb hr hlk hP hD hS ⟨Nat.zero_le _, Nat.zero_le _⟩ dX5_allBefore_72 h
def wp_X5_ringOf_b68 (k28 : (Int32) → (Int32) → Prop) (x4_11 : Int32) (x5_12 : Int32) : Prop :=
  ∀ x5_13 : Int32, x5_13 = x5_12 + 1 → k28 x4_11 x5_13
def wp_X5_ringOf_L28 (a1 : Int32) (tBe : Nat → Int32) (tC : Int32) (x3_2 : Int32) (x28 : (Int32) → Prop) : Nat → (Int32) → (Int32) → Prop
  | 0, _, _ => False
  | n28 + 1, x4_8, x5_9 =>
  ((tC ≤ x5_9 → x28 x4_8) ∧
   (¬ tC ≤ x5_9 → wp_X7_hasBit x3_2 x5_9 (fun (r_16 : Int32) => ((r_16 = 0 → wp_X5_ringOf_b68 (wp_X5_ringOf_L28 a1 tBe tC x3_2 x28 n28) x4_8 x5_9) ∧
   (¬ r_16 = 0 → wp_X5_allBefore tC tBe x5_9 (fun (r_18 : Int32) => wp_X7_hasBit r_18 a1 (fun (r_19 : Int32) => ((r_19 = 0 → wp_X5_ringOf_b68 (wp_X5_ringOf_L28 a1 tBe tC x3_2 x28 n28) x4_8 x5_9) ∧
   (¬ r_19 = 0 → ∀ x4_21 : Int32, x4_21 = (x4_8 ||| (1 <<< (x5_9 &&& 31))) → wp_X5_ringOf_b68 (wp_X5_ringOf_L28 a1 tBe tC x3_2 x28 n28) x4_21 x5_9)))))))))
def wp_X5_ringOf (tC : Int32) (tBe : Nat → Int32) (a1 : Int32) (a2 : Int32) (Qp : Int32 → Prop) : Prop :=
  wp_X5_allBefore tC tBe a2 (fun (r_1 : Int32) => ∀ x3_2 : Int32, x3_2 = (r_1 ||| (1 <<< (a2 &&& 31))) → wp_X7_hasBit x3_2 a1 (fun (r_4 : Int32) => ((¬ r_4 = 0 → ∀ x4_6 : Int32, x4_6 = (1 <<< (a1 &&& 31)) → (∃ n28 : Nat, wp_X5_ringOf_L28 a1 tBe tC x3_2 (fun (x4_10 : Int32) => Qp x4_10) n28 x4_6 0)) ∧
   (r_4 = 0 → Qp 0))))
theorem inn_X5_ringOf_5 : ∀ w ∈ u_ws RX5 TX5 9, w ∈ wsX5_ringOf := fun _ h => List.mem_cons_of_mem _ (List.mem_append_right _ h)
def rm_X5_ringOf : Room := { frames := 2, cells := 0, slots := 0, locals := 46 }
set_option maxHeartbeats 4000000 in
set_option maxRecDepth 100000 in
theorem ct_X5_ringOf {l : Launch} {D : va_G} {cI cJ cZ cE cD cK : ClassId} {ad : Nat → Nat} {bd dd : Nat → Nat → Nat} {bHK : Int32} {bHP : Int32} {bPF : Int32} {bWC : Int32} {bRi : Int32} {bBe : Int32} {bFi : Int32} {bWa : Nat → Int32} {dB : Nat → Int32} {dS : Nat → Int32} {dN : Nat → Nat → Int64} {tC : Int32} {tKi : Nat → Int32} {tEa : Nat → Int32} {tHa : Nat → Int32} {tPr : Nat → Int32} {tEx : Nat → Int32} {tSt : Nat → Int32} {tTo : Nat → Int32} {tBe : Nat → Int32} {kC : Int32} {kKi : Nat → Int32} {kEa : Nat → Int32} {kHa : Nat → Int32} {kPr : Nat → Int32} {kEx : Nat → Int32} {kSt : Nat → Int32} {kTo : Nat → Int32} {kBe : Nat → Int32} {aC : Int32} {aWh : Nat → Int32} {aTa : Nat → Int32} {aWa : Nat → Int32} {iRo : Nat → Int32} {iEa : Nat → Int32} {iLa : Nat → Int32} {cC : Int32} {nC : Int32} {nFo : Int32} {nQd : Int32} {nRo : Nat → Int32} {nBe : Nat → Int32} {nEa : Nat → Int32} {nMi : Nat → Int32} {nHa : Nat → Int32} {nER : Nat → Int32} {nMR : Nat → Int32} {nTh : Nat → Int32} {nPa : Nat → Int32} {nOu : Nat → Int32} {nFr : Nat → Int32} {nQu : Nat → Int32} {eM : Nat} {eL : Nat → Int32} {eC : Nat → Int64} {eS : Nat → Int64} {eB : Nat → Nat → Int32} {eE : Nat → Nat → Int32} {eF : Nat → Nat → Int32} {eG : Nat → Nat → Int32}   {a1 : Int32} {a2 : Int32} {Qp : Int32 → Prop}   (h : wp_X5_ringOf tC tBe a1 a2 Qp) : CTi l yX5_ringOf wsX5_ringOf rm_X5_ringOf D (tyL cI cJ cZ cE cD cK) [.ref (ad 10), .int a1, .int a2] (WC cI cJ cE cD ad bd dd bHK bHP bPF bWC bRi bBe bFi bWa dB dS dN tC tKi tEa tHa tPr tEx tSt tTo tBe kC kKi kEa kHa kPr kEx kSt kTo kBe aC aWh aTa aWa iRo iEa iLa cC nC nFo nQd nRo nBe nEa nMi nHa nER nMR nTh nPa nOu nFr nQu eM eL eC eS eB eE eF eG) (fun (r : Int32) (u : Unit) => Qp r ) (fun u : Unit => (WC cI cJ cE cD ad bd dd bHK bHP bPF bWC bRi bBe bFi bWa dB dS dN tC tKi tEa tHa tPr tEx tSt tTo tBe kC kKi kEa kHa kPr kEx kSt kTo kBe aC aWh aTa aWa iRo iEa iLa cC nC nFo nQd nRo nBe nEa nMi nHa nER nMR nTh nPa nOu nFr nQu eM eL eC eS eB eE eF eG)) 0 0 := by
  refine ent_i (cc := cX5_ringOf) (maxL := 6) (ret := (some .int)) (by decide) rfl (Nat.le_of_ble_eq_true rfl) ?_
  intro p e s m args below meth c A Q hQ hx hb hr hml hown hts hlk hA hAB hP hD hS ls hl
  have hown : s.vm.findClass RX5 = some m.cls := hown
  have hl : lv_has ls 6 [(0, .ref (ad 10)), (1, .int a1), (2, .int a2)] := hl
  generalize hH : s.heap = H at hP ⊢
  have hS : va_S A s.heap H [] := by rw [← hH]; exact hS
  clear hH
  generalize ([] : List Loc) = locs at hS ⊢
  refine lv_aload_n hx hb dX5_ringOf_0 rfl (lv_at hl 0 rfl) ?_
  refine lv_iload_n hx hb dX5_ringOf_1 rfl (lv_at hl 2 rfl) ?_
  refine cl_i hD hS hA (va_runV (As := [.int a2]) (rest := []) ⟨hx, hb, hml, hown, hts⟩ (ct_X5_allBefore h H.size) (cwV 1 hts gX5_ringOf_X5_allBefore rfl rfl rfl (by decide +kernel) ⟨Nat.le_of_ble_eq_true rfl, Nat.le_of_ble_eq_true rfl⟩) ⟨CPre.blind, va_recv hAB.1 hP (ci := 5) (q0 := 10) rfl rfl, wd_pre hAB hP hD hS hA⟩ rfl rfl hl.1 rfl (lv_room (Nat.le_of_ble_eq_true rfl)) dX5_ringOf_2 ⟨Nat.zero_le _, Nat.zero_le _⟩) (fun r_1 u H locs h hP hD hS => ?_)
  refine lv_iconst (v := 1) hx hb dX5_ringOf_5 (by decide) ?_
  refine lv_iload_n hx hb dX5_ringOf_6 rfl (lv_at hl 2 rfl) ?_
  refine lv_ishl hx hb dX5_ringOf_7 ?_
  refine lv_ior hx hb dX5_ringOf_8 ?_
  refine lv_topi (fun x3_2 e_3 => ?_)
  have h := h x3_2 e_3
  refine lv_istore_n (lv' := [(3, .int x3_2), (0, .ref (ad 10)), (1, .int a1), (2, .int a2)]) hx hb dX5_ringOf_9 rfl hl (by decide) rfl (fun ls hl => ?_)
  refine lv_iload_n hx hb dX5_ringOf_10 rfl (lv_at hl 0 rfl) ?_
  refine lv_iload_n hx hb dX5_ringOf_11 rfl (lv_at hl 2 rfl) ?_
  refine cl_i hD hS hA (va_runSN (As := [.int x3_2, .int a1]) (rest := []) ⟨hx, hb, hml, hown, hts⟩ (ct_X7_hasBit h H.size) ⟨va_cnB 2 hts gX5_ringOf_X7_hasBit_n75 rfl rfl rfl (hAB.2.1 (.methodLinkNest RX5 75 yX7_hasBit RX7) (by decide +kernel)) (hts (.initialized RX7) (by decide +kernel)) (by decide +kernel) ⟨Nat.le_of_ble_eq_true rfl, Nat.le_of_ble_eq_true rfl⟩, (hts (.static yX7_hasBit) (by decide +kernel)), trivial⟩ ⟨CPre.blind, wd_pre hAB hP hD hS hA⟩ rfl rfl hl.1 rfl (lv_room (Nat.le_of_ble_eq_true rfl)) dX5_ringOf_12 ⟨Nat.zero_le _, Nat.zero_le _⟩) (fun r_4 u H locs h hP hD hS => ?_)
  refine lv_if_ne (tgt := 20) hx hb dX5_ringOf_15 (by decide) (fun c_5 => ?_) (fun c_5 => ?_)
  · have h := h.1 c_5
    refine lv_iconst (v := 1) hx hb dX5_ringOf_20 (by decide) ?_
    refine lv_iload_n hx hb dX5_ringOf_21 rfl (lv_at hl 2 rfl) ?_
    refine lv_ishl hx hb dX5_ringOf_22 ?_
    refine lv_topi (fun x4_6 e_7 => ?_)
    have h := h x4_6 e_7
    refine lv_istore (lv' := [(4, .int x4_6), (3, .int x3_2), (0, .ref (ad 10)), (1, .int a1), (2, .int a2)]) hx hb dX5_ringOf_23 hl (by decide) rfl (fun ls hl => ?_)
    refine lv_iconst (v := 0) hx hb dX5_ringOf_25 (by decide) ?_
    refine lv_istore (lv' := [(5, .int 0), (4, .int x4_6), (3, .int x3_2), (0, .ref (ad 10)), (1, .int a1), (2, .int a2)]) hx hb dX5_ringOf_26 hl (by decide) rfl (fun ls hl => ?_)
    have L28 : ∀ (x28 : (Int32) → Prop) (hk28 : ∀ (x4_10 : Int32), x28 x4_10 → ∀ (H : Heap) (locs : List Loc) (ls : Array Slot), va_P D vwCl (WC cI cJ cE cD ad bd dd bHK bHP bPF bWC bRi bBe bFi bWa dB dS dN tC tKi tEa tHa tPr tEx tSt tTo tBe kC kKi kEa kHa kPr kEx kSt kTo kBe aC aWh aTa aWa iRo iEa iLa cC nC nFo nQd nRo nBe nEa nMi nHa nER nMR nTh nPa nOu nFr nQu eM eL eC eS eB eE eF eG) H → va_D A (WC cI cJ cE cD ad bd dd bHK bHP bPF bWC bRi bBe bFi bWa dB dS dN tC tKi tEa tHa tPr tEx tSt tTo tBe kC kKi kEa kHa kPr kEx kSt kTo kBe aC aWh aTa aWa iRo iEa iLa cC nC nFo nQd nRo nBe nEa nMi nHa nER nMR nTh nPa nOu nFr nQu eM eL eC eS eB eE eF eG) → va_S A s.heap H locs → lv_has ls 6 [(4, .int x4_10)] → W p l e (headSpec wsX5_ringOf rm_X5_ringOf).room s m args below meth c H locs 0 0 Q (F0 m 74 ls [])) (n28 : Nat) (x4_8 : Int32) (x5_9 : Int32), wp_X5_ringOf_L28 a1 tBe tC x3_2 x28 n28 x4_8 x5_9 → ∀ (H : Heap) (locs : List Loc) (ls : Array Slot), va_P D vwCl (WC cI cJ cE cD ad bd dd bHK bHP bPF bWC bRi bBe bFi bWa dB dS dN tC tKi tEa tHa tPr tEx tSt tTo tBe kC kKi kEa kHa kPr kEx kSt kTo kBe aC aWh aTa aWa iRo iEa iLa cC nC nFo nQd nRo nBe nEa nMi nHa nER nMR nTh nPa nOu nFr nQu eM eL eC eS eB eE eF eG) H → va_D A (WC cI cJ cE cD ad bd dd bHK bHP bPF bWC bRi bBe bFi bWa dB dS dN tC tKi tEa tHa tPr tEx tSt tTo tBe kC kKi kEa kHa kPr kEx kSt kTo kBe aC aWh aTa aWa iRo iEa iLa cC nC nFo nQd nRo nBe nEa nMi nHa nER nMR nTh nPa nOu nFr nQu eM eL eC eS eB eE eF eG) → va_S A s.heap H locs → lv_has ls 6 [(0, .ref (ad 10)), (1, .int a1), (3, .int x3_2), (4, .int x4_8), (5, .int x5_9)] → W p l e (headSpec wsX5_ringOf rm_X5_ringOf).room s m args below meth c H locs 0 0 Q (F0 m 28 ls []) := by
      intro x28 hk28 n28
      induction n28 with
      | zero => intro x4_8 x5_9 h; exact False.elim h
      | succ n28 ih28 =>
        intro x4_8 x5_9 h H locs ls hP hD hS hl
        have B68 : ∀ (x4_11 : Int32) (x5_12 : Int32), wp_X5_ringOf_b68 (wp_X5_ringOf_L28 a1 tBe tC x3_2 x28 n28) x4_11 x5_12 → ∀ (H : Heap) (locs : List Loc) (ls : Array Slot), va_P D vwCl (WC cI cJ cE cD ad bd dd bHK bHP bPF bWC bRi bBe bFi bWa dB dS dN tC tKi tEa tHa tPr tEx tSt tTo tBe kC kKi kEa kHa kPr kEx kSt kTo kBe aC aWh aTa aWa iRo iEa iLa cC nC nFo nQd nRo nBe nEa nMi nHa nER nMR nTh nPa nOu nFr nQu eM eL eC eS eB eE eF eG) H → va_D A (WC cI cJ cE cD ad bd dd bHK bHP bPF bWC bRi bBe bFi bWa dB dS dN tC tKi tEa tHa tPr tEx tSt tTo tBe kC kKi kEa kHa kPr kEx kSt kTo kBe aC aWh aTa aWa iRo iEa iLa cC nC nFo nQd nRo nBe nEa nMi nHa nER nMR nTh nPa nOu nFr nQu eM eL eC eS eB eE eF eG) → va_S A s.heap H locs → lv_has ls 6 [(0, .ref (ad 10)), (1, .int a1), (3, .int x3_2), (4, .int x4_11), (5, .int x5_12)] → W p l e (headSpec wsX5_ringOf rm_X5_ringOf).room s m args below meth c H locs 0 0 Q (F0 m 68 ls []) := by
          intro x4_11 x5_12 h H locs ls hP hD hS hl
          obtain ⟨x5_13, e_14⟩ : ∃ y : Int32, y = x5_12 + 1 := ⟨_, rfl⟩
          have h := h x5_13 e_14
          refine lv_iinc (v := x5_13) (lv' := [(5, .int x5_13), (0, .ref (ad 10)), (1, .int a1), (3, .int x3_2), (4, .int x4_11)]) hx hb dX5_ringOf_68 hl (k := 4) rfl (by rw [e_14]; rfl) (by decide) rfl (fun ls hl => ?_)
          refine lv_goto (tgt := 28) hx hb dX5_ringOf_71 (by decide) ?_
          exact ih28 x4_11 x5_13 h H locs ls hP hD hS (lv_sub hl [1, 2, 3, 4, 0] rfl)
        refine lv_iload hx hb dX5_ringOf_28 (lv_at hl 4 rfl) ?_
        refine lv_aload_n hx hb dX5_ringOf_30 rfl (lv_at hl 0 rfl) ?_
        refine va_get (D := D) (ci := 5) (C := RX5) (T := TX5) (N := 9) hx hb hts inn_X5_ringOf_5 hown hAB.1 hP 10 rfl rfl 0 (by decide) (hts (.fieldLink RX5 36 "BarnBench$Tasks" "count" "I") (by decide +kernel)) (fun _ h9 => h9) rfl dX5_ringOf_31 ?_
        refine lv_icmp_ge (tgt := 74) hx hb dX5_ringOf_34 (by decide) (fun c_15 => ?_) (fun c_15 => ?_)
        · have h := h.1 c_15
          exact hk28 x4_8 h H locs ls hP hD hS (lv_sub hl [3] rfl)
        · have h := h.2 c_15
          refine lv_iload_n hx hb dX5_ringOf_37 rfl (lv_at hl 2 rfl) ?_
          refine lv_iload hx hb dX5_ringOf_38 (lv_at hl 4 rfl) ?_
          refine cl_i hD hS hA (va_runSN (As := [.int x3_2, .int x5_9]) (rest := []) ⟨hx, hb, hml, hown, hts⟩ (ct_X7_hasBit h H.size) ⟨va_cnB 2 hts gX5_ringOf_X7_hasBit_n75 rfl rfl rfl (hAB.2.1 (.methodLinkNest RX5 75 yX7_hasBit RX7) (by decide +kernel)) (hts (.initialized RX7) (by decide +kernel)) (by decide +kernel) ⟨Nat.le_of_ble_eq_true rfl, Nat.le_of_ble_eq_true rfl⟩, (hts (.static yX7_hasBit) (by decide +kernel)), trivial⟩ ⟨CPre.blind, wd_pre hAB hP hD hS hA⟩ rfl rfl hl.1 rfl (lv_room (Nat.le_of_ble_eq_true rfl)) dX5_ringOf_40 ⟨Nat.zero_le _, Nat.zero_le _⟩) (fun r_16 u H locs h hP hD hS => ?_)
          refine lv_if_eq (tgt := 68) hx hb dX5_ringOf_43 (by decide) (fun c_17 => ?_) (fun c_17 => ?_)
          · have h := h.1 c_17
            exact B68 x4_8 x5_9 h H locs ls hP hD hS (lv_sub hl [0, 1, 2, 3, 4] rfl)
          · have h := h.2 c_17
            refine lv_aload_n hx hb dX5_ringOf_46 rfl (lv_at hl 0 rfl) ?_
            refine lv_iload hx hb dX5_ringOf_47 (lv_at hl 4 rfl) ?_
            refine cl_i hD hS hA (va_runV (As := [.int x5_9]) (rest := []) ⟨hx, hb, hml, hown, hts⟩ (ct_X5_allBefore h H.size) (cwV 1 hts gX5_ringOf_X5_allBefore rfl rfl rfl (by decide +kernel) ⟨Nat.le_of_ble_eq_true rfl, Nat.le_of_ble_eq_true rfl⟩) ⟨CPre.blind, va_recv hAB.1 hP (ci := 5) (q0 := 10) rfl rfl, wd_pre hAB hP hD hS hA⟩ rfl rfl hl.1 rfl (lv_room (Nat.le_of_ble_eq_true rfl)) dX5_ringOf_49 ⟨Nat.zero_le _, Nat.zero_le _⟩) (fun r_18 u H locs h hP hD hS => ?_)
            refine lv_iload_n hx hb dX5_ringOf_52 rfl (lv_at hl 1 rfl) ?_
            refine cl_i hD hS hA (va_runSN (As := [.int r_18, .int a1]) (rest := []) ⟨hx, hb, hml, hown, hts⟩ (ct_X7_hasBit h H.size) ⟨va_cnB 2 hts gX5_ringOf_X7_hasBit_n75 rfl rfl rfl (hAB.2.1 (.methodLinkNest RX5 75 yX7_hasBit RX7) (by decide +kernel)) (hts (.initialized RX7) (by decide +kernel)) (by decide +kernel) ⟨Nat.le_of_ble_eq_true rfl, Nat.le_of_ble_eq_true rfl⟩, (hts (.static yX7_hasBit) (by decide +kernel)), trivial⟩ ⟨CPre.blind, wd_pre hAB hP hD hS hA⟩ rfl rfl hl.1 rfl (lv_room (Nat.le_of_ble_eq_true rfl)) dX5_ringOf_53 ⟨Nat.zero_le _, Nat.zero_le _⟩) (fun r_19 u H locs h hP hD hS => ?_)
            refine lv_if_eq (tgt := 68) hx hb dX5_ringOf_56 (by decide) (fun c_20 => ?_) (fun c_20 => ?_)
            · have h := h.1 c_20
              exact B68 x4_8 x5_9 h H locs ls hP hD hS (lv_sub hl [0, 1, 2, 3, 4] rfl)
            · have h := h.2 c_20
              refine lv_iload hx hb dX5_ringOf_59 (lv_at hl 3 rfl) ?_
              refine lv_iconst (v := 1) hx hb dX5_ringOf_61 (by decide) ?_
              refine lv_iload hx hb dX5_ringOf_62 (lv_at hl 4 rfl) ?_
              refine lv_ishl hx hb dX5_ringOf_64 ?_
              refine lv_ior hx hb dX5_ringOf_65 ?_
              refine lv_topi (fun x4_21 e_22 => ?_)
              have h := h x4_21 e_22
              refine lv_istore (lv' := [(4, .int x4_21), (0, .ref (ad 10)), (1, .int a1), (3, .int x3_2), (5, .int x5_9)]) hx hb dX5_ringOf_66 hl (by decide) rfl (fun ls hl => ?_)
              exact B68 x4_21 x5_9 h H locs ls hP hD hS (lv_sub hl [1, 2, 3, 0, 4] rfl)
    obtain ⟨n28, h⟩ := h
    refine L28 _ (fun x4_10 h H locs ls hP hD hS hl => ?_) n28 x4_6 0 h H locs ls hP hD hS (lv_sub hl [3, 4, 2, 1, 0] rfl)
    refine lv_iload hx hb dX5_ringOf_74 (lv_at hl 0 rfl) ?_
    exact rt_i () hQ hx hb hr hlk hP hD hS ⟨Nat.zero_le _, Nat.zero_le _⟩ dX5_ringOf_76 h
  · have h := h.2 c_5
    refine lv_iconst (v := 0) hx hb dX5_ringOf_18 (by decide) ?_
    exact rt_i () hQ hx hb hr hlk hP hD hS ⟨Nat.zero_le _, Nat.zero_le _⟩ dX5_ringOf_19 h
def wp_X5_arrange_b55 (k23 : (Int32) → (Int32) → Prop) (x4_11 : Int32) (x5_12 : Int32) : Prop :=
  ∀ x5_13 : Int32, x5_13 = x5_12 + (-1) → k23 x4_11 x5_13
def wp_X5_arrange_L23 (tBe : Nat → Int32) (x2_1 : Int32) (x23 : (Int32) → Prop) : Nat → (Int32) → (Int32) → Prop
  | 0, _, _ => False
  | n23 + 1, x4_8, x5_9 =>
  ((x5_9 < 0 → x23 x4_8) ∧
   (¬ x5_9 < 0 → wp_X7_hasBit x2_1 x5_9 (fun (r_16 : Int32) => ((¬ r_16 = 0 → wp_X5_arrange_b55 (wp_X5_arrange_L23 tBe x2_1 x23 n23) x4_8 x5_9) ∧
   (r_16 = 0 → vp_in x5_9 12 ∧ ((¬ ((tBe (Int32.toNatClampNeg x5_9)) &&& (x2_1 ^^^ (-1))) = 0 → wp_X5_arrange_b55 (wp_X5_arrange_L23 tBe x2_1 x23 n23) x4_8 x5_9) ∧
   (((tBe (Int32.toNatClampNeg x5_9)) &&& (x2_1 ^^^ (-1))) = 0 → wp_X5_arrange_b55 (wp_X5_arrange_L23 tBe x2_1 x23 n23) x5_9 x5_9)))))))
def wp_X5_arrange_L4 (tBe : Nat → Int32) (tC : Int32) (x4 : (Nat → Int32) → Prop) : Nat → (Int32) → (Int32) → (Nat → Int32) → Prop
  | 0, _, _, _ => False
  | n4 + 1, x2_1, x3_2, f1_3 =>
  ((tC ≤ x3_2 → x4 f1_3) ∧
   (¬ tC ≤ x3_2 → ∀ x5_6 : Int32, x5_6 = (tC - 1) → (∃ n23 : Nat, wp_X5_arrange_L23 tBe x2_1 (fun (x4_10 : Int32) => vp_in x3_2 12 ∧ ∀ f1_19 : Nat → Int32, f1_19 = upd f1_3 (Int32.toNatClampNeg x3_2) x4_10 → ∀ x2_21 : Int32, x2_21 = (x2_1 ||| (1 <<< (x4_10 &&& 31))) → ∀ x3_23 : Int32, x3_23 = x3_2 + 1 → (wp_X5_arrange_L4 tBe tC x4 n4) x2_21 x3_23 f1_19) n23 0 x5_6)))
def wp_X5_arrange (f1 : Nat → Int32) (tC : Int32) (tBe : Nat → Int32)  (Qp : (Nat → Int32) → Prop) : Prop :=
  (∃ n4 : Nat, wp_X5_arrange_L4 tBe tC (fun (f1_4 : Nat → Int32) => Qp f1_4) n4 0 0 (f1))
theorem inn_X5_arrange_5 : ∀ w ∈ u_ws RX5 TX5 9, w ∈ wsX5_arrange := fun _ h => List.mem_cons_of_mem _ (List.mem_append_right _ h)
def rm_X5_arrange : Room := { frames := 1, cells := 0, slots := 0, locals := 21 }
set_option maxHeartbeats 4000000 in
set_option maxRecDepth 100000 in
theorem ct_X5_arrange_1 {l : Launch} {D : va_G} {cI cJ cZ cE cD cK : ClassId} {ad : Nat → Nat} {bd dd : Nat → Nat → Nat} {bHK : Int32} {bHP : Int32} {bPF : Int32} {bWC : Int32} {bRi : Int32} {bBe : Int32} {bFi : Int32} {bWa : Nat → Int32} {dB : Nat → Int32} {dS : Nat → Int32} {dN : Nat → Nat → Int64} {tC : Int32} {tKi : Nat → Int32} {tEa : Nat → Int32} {tHa : Nat → Int32} {tPr : Nat → Int32} {tEx : Nat → Int32} {tSt : Nat → Int32} {tTo : Nat → Int32} {tBe : Nat → Int32} {kC : Int32} {kKi : Nat → Int32} {kEa : Nat → Int32} {kHa : Nat → Int32} {kPr : Nat → Int32} {kEx : Nat → Int32} {kSt : Nat → Int32} {kTo : Nat → Int32} {kBe : Nat → Int32} {aC : Int32} {aWh : Nat → Int32} {aTa : Nat → Int32} {aWa : Nat → Int32} {iRo : Nat → Int32} {iEa : Nat → Int32} {iLa : Nat → Int32} {cC : Int32} {nC : Int32} {nFo : Int32} {nQd : Int32} {nRo : Nat → Int32} {nBe : Nat → Int32} {nEa : Nat → Int32} {nMi : Nat → Int32} {nHa : Nat → Int32} {nER : Nat → Int32} {nMR : Nat → Int32} {nTh : Nat → Int32} {nPa : Nat → Int32} {nOu : Nat → Int32} {nFr : Nat → Int32} {nQu : Nat → Int32} {eM : Nat} {eL : Nat → Int32} {eC : Nat → Int64} {eS : Nat → Int64} {eB : Nat → Nat → Int32} {eE : Nat → Nat → Int32} {eF : Nat → Nat → Int32} {eG : Nat → Nat → Int32}    {Qp : (Nat → Int32) → Prop}   (h : wp_X5_arrange iRo tC tBe Qp) : CTv l yX5_arrange wsX5_arrange rm_X5_arrange D (tyL cI cJ cZ cE cD cK) [.ref (ad 10), .ref (ad 33)] (WC cI cJ cE cD ad bd dd bHK bHP bPF bWC bRi bBe bFi bWa dB dS dN tC tKi tEa tHa tPr tEx tSt tTo tBe kC kKi kEa kHa kPr kEx kSt kTo kBe aC aWh aTa aWa iRo iEa iLa cC nC nFo nQd nRo nBe nEa nMi nHa nER nMR nTh nPa nOu nFr nQu eM eL eC eS eB eE eF eG) (fun u : (Nat → Int32) => Qp u) (fun u : (Nat → Int32) => (WC cI cJ cE cD ad bd dd bHK bHP bPF bWC bRi bBe bFi bWa dB dS dN tC tKi tEa tHa tPr tEx tSt tTo tBe kC kKi kEa kHa kPr kEx kSt kTo kBe aC aWh aTa aWa u iEa iLa cC nC nFo nQd nRo nBe nEa nMi nHa nER nMR nTh nPa nOu nFr nQu eM eL eC eS eB eE eF eG)) 0 0 := by
  refine ent_v (cc := cX5_arrange) (maxL := 6) (ret := none) (by decide) rfl (Nat.le_of_ble_eq_true rfl) ?_
  intro p e s m args below meth c A Q hQ hx hb hr hml hown hts hlk hA hAB hP hD hS ls hl
  have hown : s.vm.findClass RX5 = some m.cls := hown
  have hl : lv_has ls 6 [(0, .ref (ad 10)), (1, .ref (ad 33))] := hl
  generalize hH : s.heap = H at hP ⊢
  have hS : va_S A s.heap H [] := by rw [← hH]; exact hS
  clear hH
  generalize ([] : List Loc) = locs at hS ⊢
  refine lv_iconst (v := 0) hx hb dX5_arrange_0 (by decide) ?_
  refine lv_istore_n (lv' := [(2, .int 0), (0, .ref (ad 10)), (1, .ref (ad 33))]) hx hb dX5_arrange_1 rfl hl (by decide) rfl (fun ls hl => ?_)
  refine lv_iconst (v := 0) hx hb dX5_arrange_2 (by decide) ?_
  refine lv_istore_n (lv' := [(3, .int 0), (2, .int 0), (0, .ref (ad 10)), (1, .ref (ad 33))]) hx hb dX5_arrange_3 rfl hl (by decide) rfl (fun ls hl => ?_)
  have L4 : ∀ (x4 : (Nat → Int32) → Prop) (hk4 : ∀ (f1_4 : Nat → Int32), x4 f1_4 → ∀ (H : Heap) (locs : List Loc) (ls : Array Slot), va_P D vwCl (WC cI cJ cE cD ad bd dd bHK bHP bPF bWC bRi bBe bFi bWa dB dS dN tC tKi tEa tHa tPr tEx tSt tTo tBe kC kKi kEa kHa kPr kEx kSt kTo kBe aC aWh aTa aWa f1_4 iEa iLa cC nC nFo nQd nRo nBe nEa nMi nHa nER nMR nTh nPa nOu nFr nQu eM eL eC eS eB eE eF eG) H → va_D A (WC cI cJ cE cD ad bd dd bHK bHP bPF bWC bRi bBe bFi bWa dB dS dN tC tKi tEa tHa tPr tEx tSt tTo tBe kC kKi kEa kHa kPr kEx kSt kTo kBe aC aWh aTa aWa f1_4 iEa iLa cC nC nFo nQd nRo nBe nEa nMi nHa nER nMR nTh nPa nOu nFr nQu eM eL eC eS eB eE eF eG) → va_S A s.heap H locs → lv_has ls 6 [] → W p l e (headSpec wsX5_arrange rm_X5_arrange).room s m args below meth c H locs 0 0 Q (F0 m 79 ls [])) (n4 : Nat) (x2_1 : Int32) (x3_2 : Int32) (f1_3 : Nat → Int32), wp_X5_arrange_L4 tBe tC x4 n4 x2_1 x3_2 f1_3 → ∀ (H : Heap) (locs : List Loc) (ls : Array Slot), va_P D vwCl (WC cI cJ cE cD ad bd dd bHK bHP bPF bWC bRi bBe bFi bWa dB dS dN tC tKi tEa tHa tPr tEx tSt tTo tBe kC kKi kEa kHa kPr kEx kSt kTo kBe aC aWh aTa aWa f1_3 iEa iLa cC nC nFo nQd nRo nBe nEa nMi nHa nER nMR nTh nPa nOu nFr nQu eM eL eC eS eB eE eF eG) H → va_D A (WC cI cJ cE cD ad bd dd bHK bHP bPF bWC bRi bBe bFi bWa dB dS dN tC tKi tEa tHa tPr tEx tSt tTo tBe kC kKi kEa kHa kPr kEx kSt kTo kBe aC aWh aTa aWa f1_3 iEa iLa cC nC nFo nQd nRo nBe nEa nMi nHa nER nMR nTh nPa nOu nFr nQu eM eL eC eS eB eE eF eG) → va_S A s.heap H locs → lv_has ls 6 [(0, .ref (ad 10)), (1, .ref (ad 33)), (2, .int x2_1), (3, .int x3_2)] → W p l e (headSpec wsX5_arrange rm_X5_arrange).room s m args below meth c H locs 0 0 Q (F0 m 4 ls []) := by
    intro x4 hk4 n4
    induction n4 with
    | zero => intro x2_1 x3_2 f1_3 h; exact False.elim h
    | succ n4 ih4 =>
      intro x2_1 x3_2 f1_3 h H locs ls hP hD hS hl
      refine lv_iload_n hx hb dX5_arrange_4 rfl (lv_at hl 3 rfl) ?_
      refine lv_aload_n hx hb dX5_arrange_5 rfl (lv_at hl 0 rfl) ?_
      refine va_get (D := D) (ci := 5) (C := RX5) (T := TX5) (N := 9) hx hb hts inn_X5_arrange_5 hown hAB.1 hP 10 rfl rfl 0 (by decide) (hts (.fieldLink RX5 36 "BarnBench$Tasks" "count" "I") (by decide +kernel)) (fun _ h9 => h9) rfl dX5_arrange_6 ?_
      refine lv_icmp_ge (tgt := 79) hx hb dX5_arrange_9 (by decide) (fun c_5 => ?_) (fun c_5 => ?_)
      · have h := h.1 c_5
        exact hk4 f1_3 h H locs ls hP hD hS (lv_sub hl [] rfl)
      · have h := h.2 c_5
        refine lv_iconst (v := 0) hx hb dX5_arrange_12 (by decide) ?_
        refine lv_istore (lv' := [(4, .int 0), (0, .ref (ad 10)), (1, .ref (ad 33)), (2, .int x2_1), (3, .int x3_2)]) hx hb dX5_arrange_13 hl (by decide) rfl (fun ls hl => ?_)
        refine lv_aload_n hx hb dX5_arrange_15 rfl (lv_at hl 1 rfl) ?_
        refine va_get (D := D) (ci := 5) (C := RX5) (T := TX5) (N := 9) hx hb hts inn_X5_arrange_5 hown hAB.1 hP 10 rfl rfl 0 (by decide) (hts (.fieldLink RX5 36 "BarnBench$Tasks" "count" "I") (by decide +kernel)) (fun _ h9 => h9) rfl dX5_arrange_16 ?_
        refine lv_iconst (v := 1) hx hb dX5_arrange_19 (by decide) ?_
        refine lv_isub hx hb dX5_arrange_20 ?_
        refine lv_topi (fun x5_6 e_7 => ?_)
        have h := h x5_6 e_7
        refine lv_istore (lv' := [(5, .int x5_6), (4, .int 0), (0, .ref (ad 10)), (1, .ref (ad 33)), (2, .int x2_1), (3, .int x3_2)]) hx hb dX5_arrange_21 hl (by decide) rfl (fun ls hl => ?_)
        have L23 : ∀ (x23 : (Int32) → Prop) (hk23 : ∀ (x4_10 : Int32), x23 x4_10 → ∀ (H : Heap) (locs : List Loc) (ls : Array Slot), va_P D vwCl (WC cI cJ cE cD ad bd dd bHK bHP bPF bWC bRi bBe bFi bWa dB dS dN tC tKi tEa tHa tPr tEx tSt tTo tBe kC kKi kEa kHa kPr kEx kSt kTo kBe aC aWh aTa aWa f1_3 iEa iLa cC nC nFo nQd nRo nBe nEa nMi nHa nER nMR nTh nPa nOu nFr nQu eM eL eC eS eB eE eF eG) H → va_D A (WC cI cJ cE cD ad bd dd bHK bHP bPF bWC bRi bBe bFi bWa dB dS dN tC tKi tEa tHa tPr tEx tSt tTo tBe kC kKi kEa kHa kPr kEx kSt kTo kBe aC aWh aTa aWa f1_3 iEa iLa cC nC nFo nQd nRo nBe nEa nMi nHa nER nMR nTh nPa nOu nFr nQu eM eL eC eS eB eE eF eG) → va_S A s.heap H locs → lv_has ls 6 [(0, .ref (ad 10)), (1, .ref (ad 33)), (2, .int x2_1), (3, .int x3_2), (4, .int x4_10)] → W p l e (headSpec wsX5_arrange rm_X5_arrange).room s m args below meth c H locs 0 0 Q (F0 m 61 ls [])) (n23 : Nat) (x4_8 : Int32) (x5_9 : Int32), wp_X5_arrange_L23 tBe x2_1 x23 n23 x4_8 x5_9 → ∀ (H : Heap) (locs : List Loc) (ls : Array Slot), va_P D vwCl (WC cI cJ cE cD ad bd dd bHK bHP bPF bWC bRi bBe bFi bWa dB dS dN tC tKi tEa tHa tPr tEx tSt tTo tBe kC kKi kEa kHa kPr kEx kSt kTo kBe aC aWh aTa aWa f1_3 iEa iLa cC nC nFo nQd nRo nBe nEa nMi nHa nER nMR nTh nPa nOu nFr nQu eM eL eC eS eB eE eF eG) H → va_D A (WC cI cJ cE cD ad bd dd bHK bHP bPF bWC bRi bBe bFi bWa dB dS dN tC tKi tEa tHa tPr tEx tSt tTo tBe kC kKi kEa kHa kPr kEx kSt kTo kBe aC aWh aTa aWa f1_3 iEa iLa cC nC nFo nQd nRo nBe nEa nMi nHa nER nMR nTh nPa nOu nFr nQu eM eL eC eS eB eE eF eG) → va_S A s.heap H locs → lv_has ls 6 [(0, .ref (ad 10)), (1, .ref (ad 33)), (2, .int x2_1), (3, .int x3_2), (4, .int x4_8), (5, .int x5_9)] → W p l e (headSpec wsX5_arrange rm_X5_arrange).room s m args below meth c H locs 0 0 Q (F0 m 23 ls []) := by
          intro x23 hk23 n23
          induction n23 with
          | zero => intro x4_8 x5_9 h; exact False.elim h
          | succ n23 ih23 =>
            intro x4_8 x5_9 h H locs ls hP hD hS hl
            have B55 : ∀ (x4_11 : Int32) (x5_12 : Int32), wp_X5_arrange_b55 (wp_X5_arrange_L23 tBe x2_1 x23 n23) x4_11 x5_12 → ∀ (H : Heap) (locs : List Loc) (ls : Array Slot), va_P D vwCl (WC cI cJ cE cD ad bd dd bHK bHP bPF bWC bRi bBe bFi bWa dB dS dN tC tKi tEa tHa tPr tEx tSt tTo tBe kC kKi kEa kHa kPr kEx kSt kTo kBe aC aWh aTa aWa f1_3 iEa iLa cC nC nFo nQd nRo nBe nEa nMi nHa nER nMR nTh nPa nOu nFr nQu eM eL eC eS eB eE eF eG) H → va_D A (WC cI cJ cE cD ad bd dd bHK bHP bPF bWC bRi bBe bFi bWa dB dS dN tC tKi tEa tHa tPr tEx tSt tTo tBe kC kKi kEa kHa kPr kEx kSt kTo kBe aC aWh aTa aWa f1_3 iEa iLa cC nC nFo nQd nRo nBe nEa nMi nHa nER nMR nTh nPa nOu nFr nQu eM eL eC eS eB eE eF eG) → va_S A s.heap H locs → lv_has ls 6 [(0, .ref (ad 10)), (1, .ref (ad 33)), (2, .int x2_1), (3, .int x3_2), (4, .int x4_11), (5, .int x5_12)] → W p l e (headSpec wsX5_arrange rm_X5_arrange).room s m args below meth c H locs 0 0 Q (F0 m 55 ls []) := by
              intro x4_11 x5_12 h H locs ls hP hD hS hl
              obtain ⟨x5_13, e_14⟩ : ∃ y : Int32, y = x5_12 + (-1) := ⟨_, rfl⟩
              have h := h x5_13 e_14
              refine lv_iinc (v := x5_13) (lv' := [(5, .int x5_13), (0, .ref (ad 10)), (1, .ref (ad 33)), (2, .int x2_1), (3, .int x3_2), (4, .int x4_11)]) hx hb dX5_arrange_55 hl (k := 5) rfl (by rw [e_14]; rfl) (by decide) rfl (fun ls hl => ?_)
              refine lv_goto (tgt := 23) hx hb dX5_arrange_58 (by decide) ?_
              exact ih23 x4_11 x5_13 h H locs ls hP hD hS (lv_sub hl [1, 2, 3, 4, 5, 0] rfl)
            refine lv_iload hx hb dX5_arrange_23 (lv_at hl 5 rfl) ?_
            refine lv_if_lt (tgt := 61) hx hb dX5_arrange_25 (by decide) (fun c_15 => ?_) (fun c_15 => ?_)
            · have h := h.1 c_15
              exact hk23 x4_8 h H locs ls hP hD hS (lv_sub hl [0, 1, 2, 3, 4] rfl)
            · have h := h.2 c_15
              refine lv_iload_n hx hb dX5_arrange_28 rfl (lv_at hl 2 rfl) ?_
              refine lv_iload hx hb dX5_arrange_29 (lv_at hl 5 rfl) ?_
              refine cl_i hD hS hA (va_runSN (As := [.int x2_1, .int x5_9]) (rest := []) ⟨hx, hb, hml, hown, hts⟩ (ct_X7_hasBit h H.size) ⟨va_cnB 2 hts gX5_arrange_X7_hasBit_n75 rfl rfl rfl (hAB.2.1 (.methodLinkNest RX5 75 yX7_hasBit RX7) (by decide +kernel)) (hts (.initialized RX7) (by decide +kernel)) (by decide +kernel) ⟨Nat.le_of_ble_eq_true rfl, Nat.le_of_ble_eq_true rfl⟩, (hts (.static yX7_hasBit) (by decide +kernel)), trivial⟩ ⟨CPre.blind, wd_pre hAB hP hD hS hA⟩ rfl rfl hl.1 rfl (lv_room (Nat.le_of_ble_eq_true rfl)) dX5_arrange_31 ⟨Nat.zero_le _, Nat.zero_le _⟩) (fun r_16 u H locs h hP hD hS => ?_)
              refine lv_if_ne (tgt := 55) hx hb dX5_arrange_34 (by decide) (fun c_17 => ?_) (fun c_17 => ?_)
              · have h := h.1 c_17
                exact B55 x4_8 x5_9 h H locs ls hP hD hS (lv_sub hl [0, 1, 2, 3, 4, 5] rfl)
              · have h := h.2 c_17
                refine lv_aload_n hx hb dX5_arrange_37 rfl (lv_at hl 0 rfl) ?_
                refine va_get (D := D) (ci := 5) (C := RX5) (T := TX5) (N := 9) hx hb hts inn_X5_arrange_5 hown hAB.1 hP 10 rfl rfl 8 (by decide) (hts (.fieldLink RX5 33 "BarnBench$Tasks" "before" "[I") (by decide +kernel)) (fun _ h9 => h9) rfl dX5_arrange_38 ?_
                refine lv_iload hx hb dX5_arrange_41 (lv_at hl 5 rfl) ?_
                refine va_iald hx hb hAB.1 hP 18 0 rfl rfl h.1 dX5_arrange_43 ?_
                have h := h.2
                refine lv_iload_n hx hb dX5_arrange_44 rfl (lv_at hl 2 rfl) ?_
                refine lv_iconst (v := (-1)) hx hb dX5_arrange_45 (by decide) ?_
                refine lv_ixor hx hb dX5_arrange_46 ?_
                refine lv_iand hx hb dX5_arrange_47 ?_
                refine lv_if_ne (tgt := 55) hx hb dX5_arrange_48 (by decide) (fun c_18 => ?_) (fun c_18 => ?_)
                · have h := h.1 c_18
                  exact B55 x4_8 x5_9 h H locs ls hP hD hS (lv_sub hl [0, 1, 2, 3, 4, 5] rfl)
                · have h := h.2 c_18
                  refine lv_iload hx hb dX5_arrange_51 (lv_at hl 5 rfl) ?_
                  refine lv_istore (lv' := [(4, .int x5_9), (0, .ref (ad 10)), (1, .ref (ad 33)), (2, .int x2_1), (3, .int x3_2), (5, .int x5_9)]) hx hb dX5_arrange_53 hl (by decide) rfl (fun ls hl => ?_)
                  exact B55 x5_9 x5_9 h H locs ls hP hD hS (lv_sub hl [1, 2, 3, 4, 0, 5] rfl)
        obtain ⟨n23, h⟩ := h
        refine L23 _ (fun x4_10 h H locs ls hP hD hS hl => ?_) n23 0 x5_6 h H locs ls hP hD hS (lv_sub hl [2, 3, 4, 5, 1, 0] rfl)
        refine lv_aload_n hx hb dX5_arrange_61 rfl (lv_at hl 1 rfl) ?_
        refine lv_iload_n hx hb dX5_arrange_62 rfl (lv_at hl 3 rfl) ?_
        refine lv_iload hx hb dX5_arrange_63 (lv_at hl 4 rfl) ?_
        refine sC_33 hx hb hAB hP hD hS h.1 dX5_arrange_65 (fun f1_19 H locs e_20 hP hD hS => ?_)
        have h := h.2
        have h := h f1_19 e_20
        refine lv_iload_n hx hb dX5_arrange_66 rfl (lv_at hl 2 rfl) ?_
        refine lv_iconst (v := 1) hx hb dX5_arrange_67 (by decide) ?_
        refine lv_iload hx hb dX5_arrange_68 (lv_at hl 4 rfl) ?_
        refine lv_ishl hx hb dX5_arrange_70 ?_
        refine lv_ior hx hb dX5_arrange_71 ?_
        refine lv_topi (fun x2_21 e_22 => ?_)
        have h := h x2_21 e_22
        refine lv_istore_n (lv' := [(2, .int x2_21), (0, .ref (ad 10)), (1, .ref (ad 33)), (3, .int x3_2), (4, .int x4_10)]) hx hb dX5_arrange_72 rfl hl (by decide) rfl (fun ls hl => ?_)
        obtain ⟨x3_23, e_24⟩ : ∃ y : Int32, y = x3_2 + 1 := ⟨_, rfl⟩
        have h := h x3_23 e_24
        refine lv_iinc (v := x3_23) (lv' := [(3, .int x3_23), (2, .int x2_21), (0, .ref (ad 10)), (1, .ref (ad 33)), (4, .int x4_10)]) hx hb dX5_arrange_73 hl (k := 3) rfl (by rw [e_24]; rfl) (by decide) rfl (fun ls hl => ?_)
        refine lv_goto (tgt := 4) hx hb dX5_arrange_76 (by decide) ?_
        exact ih4 x2_21 x3_23 f1_19 h H locs ls hP hD hS (lv_sub hl [2, 3, 1, 0] rfl)
  obtain ⟨n4, h⟩ := h
  refine L4 _ (fun f1_4 h H locs ls hP hD hS hl => ?_) n4 0 0 iRo h H locs ls hP hD hS (lv_sub hl [2, 3, 1, 0] rfl)
  exact rt_v (f1_4) hQ hx hb hr hlk hP hD hS ⟨Nat.zero_le _, Nat.zero_le _⟩ dX5_arrange_79 h
set_option maxHeartbeats 4000000 in
set_option maxRecDepth 100000 in
theorem ct_X5_arrange_2 {l : Launch} {D : va_G} {cI cJ cZ cE cD cK : ClassId} {ad : Nat → Nat} {bd dd : Nat → Nat → Nat} {bHK : Int32} {bHP : Int32} {bPF : Int32} {bWC : Int32} {bRi : Int32} {bBe : Int32} {bFi : Int32} {bWa : Nat → Int32} {dB : Nat → Int32} {dS : Nat → Int32} {dN : Nat → Nat → Int64} {tC : Int32} {tKi : Nat → Int32} {tEa : Nat → Int32} {tHa : Nat → Int32} {tPr : Nat → Int32} {tEx : Nat → Int32} {tSt : Nat → Int32} {tTo : Nat → Int32} {tBe : Nat → Int32} {kC : Int32} {kKi : Nat → Int32} {kEa : Nat → Int32} {kHa : Nat → Int32} {kPr : Nat → Int32} {kEx : Nat → Int32} {kSt : Nat → Int32} {kTo : Nat → Int32} {kBe : Nat → Int32} {aC : Int32} {aWh : Nat → Int32} {aTa : Nat → Int32} {aWa : Nat → Int32} {iRo : Nat → Int32} {iEa : Nat → Int32} {iLa : Nat → Int32} {cC : Int32} {nC : Int32} {nFo : Int32} {nQd : Int32} {nRo : Nat → Int32} {nBe : Nat → Int32} {nEa : Nat → Int32} {nMi : Nat → Int32} {nHa : Nat → Int32} {nER : Nat → Int32} {nMR : Nat → Int32} {nTh : Nat → Int32} {nPa : Nat → Int32} {nOu : Nat → Int32} {nFr : Nat → Int32} {nQu : Nat → Int32} {eM : Nat} {eL : Nat → Int32} {eC : Nat → Int64} {eS : Nat → Int64} {eB : Nat → Nat → Int32} {eE : Nat → Nat → Int32} {eF : Nat → Nat → Int32} {eG : Nat → Nat → Int32}    {Qp : (Nat → Int32) → Prop}   (h : wp_X5_arrange nRo tC tBe Qp) : CTv l yX5_arrange wsX5_arrange rm_X5_arrange D (tyL cI cJ cZ cE cD cK) [.ref (ad 10), .ref (ad 39)] (WC cI cJ cE cD ad bd dd bHK bHP bPF bWC bRi bBe bFi bWa dB dS dN tC tKi tEa tHa tPr tEx tSt tTo tBe kC kKi kEa kHa kPr kEx kSt kTo kBe aC aWh aTa aWa iRo iEa iLa cC nC nFo nQd nRo nBe nEa nMi nHa nER nMR nTh nPa nOu nFr nQu eM eL eC eS eB eE eF eG) (fun u : (Nat → Int32) => Qp u) (fun u : (Nat → Int32) => (WC cI cJ cE cD ad bd dd bHK bHP bPF bWC bRi bBe bFi bWa dB dS dN tC tKi tEa tHa tPr tEx tSt tTo tBe kC kKi kEa kHa kPr kEx kSt kTo kBe aC aWh aTa aWa iRo iEa iLa cC nC nFo nQd u nBe nEa nMi nHa nER nMR nTh nPa nOu nFr nQu eM eL eC eS eB eE eF eG)) 0 0 := by
  refine ent_v (cc := cX5_arrange) (maxL := 6) (ret := none) (by decide) rfl (Nat.le_of_ble_eq_true rfl) ?_
  intro p e s m args below meth c A Q hQ hx hb hr hml hown hts hlk hA hAB hP hD hS ls hl
  have hown : s.vm.findClass RX5 = some m.cls := hown
  have hl : lv_has ls 6 [(0, .ref (ad 10)), (1, .ref (ad 39))] := hl
  generalize hH : s.heap = H at hP ⊢
  have hS : va_S A s.heap H [] := by rw [← hH]; exact hS
  clear hH
  generalize ([] : List Loc) = locs at hS ⊢
  refine lv_iconst (v := 0) hx hb dX5_arrange_0 (by decide) ?_
  refine lv_istore_n (lv' := [(2, .int 0), (0, .ref (ad 10)), (1, .ref (ad 39))]) hx hb dX5_arrange_1 rfl hl (by decide) rfl (fun ls hl => ?_)
  refine lv_iconst (v := 0) hx hb dX5_arrange_2 (by decide) ?_
  refine lv_istore_n (lv' := [(3, .int 0), (2, .int 0), (0, .ref (ad 10)), (1, .ref (ad 39))]) hx hb dX5_arrange_3 rfl hl (by decide) rfl (fun ls hl => ?_)
  have L4 : ∀ (x4 : (Nat → Int32) → Prop) (hk4 : ∀ (f1_4 : Nat → Int32), x4 f1_4 → ∀ (H : Heap) (locs : List Loc) (ls : Array Slot), va_P D vwCl (WC cI cJ cE cD ad bd dd bHK bHP bPF bWC bRi bBe bFi bWa dB dS dN tC tKi tEa tHa tPr tEx tSt tTo tBe kC kKi kEa kHa kPr kEx kSt kTo kBe aC aWh aTa aWa iRo iEa iLa cC nC nFo nQd f1_4 nBe nEa nMi nHa nER nMR nTh nPa nOu nFr nQu eM eL eC eS eB eE eF eG) H → va_D A (WC cI cJ cE cD ad bd dd bHK bHP bPF bWC bRi bBe bFi bWa dB dS dN tC tKi tEa tHa tPr tEx tSt tTo tBe kC kKi kEa kHa kPr kEx kSt kTo kBe aC aWh aTa aWa iRo iEa iLa cC nC nFo nQd f1_4 nBe nEa nMi nHa nER nMR nTh nPa nOu nFr nQu eM eL eC eS eB eE eF eG) → va_S A s.heap H locs → lv_has ls 6 [] → W p l e (headSpec wsX5_arrange rm_X5_arrange).room s m args below meth c H locs 0 0 Q (F0 m 79 ls [])) (n4 : Nat) (x2_1 : Int32) (x3_2 : Int32) (f1_3 : Nat → Int32), wp_X5_arrange_L4 tBe tC x4 n4 x2_1 x3_2 f1_3 → ∀ (H : Heap) (locs : List Loc) (ls : Array Slot), va_P D vwCl (WC cI cJ cE cD ad bd dd bHK bHP bPF bWC bRi bBe bFi bWa dB dS dN tC tKi tEa tHa tPr tEx tSt tTo tBe kC kKi kEa kHa kPr kEx kSt kTo kBe aC aWh aTa aWa iRo iEa iLa cC nC nFo nQd f1_3 nBe nEa nMi nHa nER nMR nTh nPa nOu nFr nQu eM eL eC eS eB eE eF eG) H → va_D A (WC cI cJ cE cD ad bd dd bHK bHP bPF bWC bRi bBe bFi bWa dB dS dN tC tKi tEa tHa tPr tEx tSt tTo tBe kC kKi kEa kHa kPr kEx kSt kTo kBe aC aWh aTa aWa iRo iEa iLa cC nC nFo nQd f1_3 nBe nEa nMi nHa nER nMR nTh nPa nOu nFr nQu eM eL eC eS eB eE eF eG) → va_S A s.heap H locs → lv_has ls 6 [(0, .ref (ad 10)), (1, .ref (ad 39)), (2, .int x2_1), (3, .int x3_2)] → W p l e (headSpec wsX5_arrange rm_X5_arrange).room s m args below meth c H locs 0 0 Q (F0 m 4 ls []) := by
    intro x4 hk4 n4
    induction n4 with
    | zero => intro x2_1 x3_2 f1_3 h; exact False.elim h
    | succ n4 ih4 =>
      intro x2_1 x3_2 f1_3 h H locs ls hP hD hS hl
      refine lv_iload_n hx hb dX5_arrange_4 rfl (lv_at hl 3 rfl) ?_
      refine lv_aload_n hx hb dX5_arrange_5 rfl (lv_at hl 0 rfl) ?_
      refine va_get (D := D) (ci := 5) (C := RX5) (T := TX5) (N := 9) hx hb hts inn_X5_arrange_5 hown hAB.1 hP 10 rfl rfl 0 (by decide) (hts (.fieldLink RX5 36 "BarnBench$Tasks" "count" "I") (by decide +kernel)) (fun _ h9 => h9) rfl dX5_arrange_6 ?_
      refine lv_icmp_ge (tgt := 79) hx hb dX5_arrange_9 (by decide) (fun c_5 => ?_) (fun c_5 => ?_)
      · have h := h.1 c_5
        exact hk4 f1_3 h H locs ls hP hD hS (lv_sub hl [] rfl)
      · have h := h.2 c_5
        refine lv_iconst (v := 0) hx hb dX5_arrange_12 (by decide) ?_
        refine lv_istore (lv' := [(4, .int 0), (0, .ref (ad 10)), (1, .ref (ad 39)), (2, .int x2_1), (3, .int x3_2)]) hx hb dX5_arrange_13 hl (by decide) rfl (fun ls hl => ?_)
        refine lv_aload_n hx hb dX5_arrange_15 rfl (lv_at hl 1 rfl) ?_
        refine va_get (D := D) (ci := 5) (C := RX5) (T := TX5) (N := 9) hx hb hts inn_X5_arrange_5 hown hAB.1 hP 10 rfl rfl 0 (by decide) (hts (.fieldLink RX5 36 "BarnBench$Tasks" "count" "I") (by decide +kernel)) (fun _ h9 => h9) rfl dX5_arrange_16 ?_
        refine lv_iconst (v := 1) hx hb dX5_arrange_19 (by decide) ?_
        refine lv_isub hx hb dX5_arrange_20 ?_
        refine lv_topi (fun x5_6 e_7 => ?_)
        have h := h x5_6 e_7
        refine lv_istore (lv' := [(5, .int x5_6), (4, .int 0), (0, .ref (ad 10)), (1, .ref (ad 39)), (2, .int x2_1), (3, .int x3_2)]) hx hb dX5_arrange_21 hl (by decide) rfl (fun ls hl => ?_)
        have L23 : ∀ (x23 : (Int32) → Prop) (hk23 : ∀ (x4_10 : Int32), x23 x4_10 → ∀ (H : Heap) (locs : List Loc) (ls : Array Slot), va_P D vwCl (WC cI cJ cE cD ad bd dd bHK bHP bPF bWC bRi bBe bFi bWa dB dS dN tC tKi tEa tHa tPr tEx tSt tTo tBe kC kKi kEa kHa kPr kEx kSt kTo kBe aC aWh aTa aWa iRo iEa iLa cC nC nFo nQd f1_3 nBe nEa nMi nHa nER nMR nTh nPa nOu nFr nQu eM eL eC eS eB eE eF eG) H → va_D A (WC cI cJ cE cD ad bd dd bHK bHP bPF bWC bRi bBe bFi bWa dB dS dN tC tKi tEa tHa tPr tEx tSt tTo tBe kC kKi kEa kHa kPr kEx kSt kTo kBe aC aWh aTa aWa iRo iEa iLa cC nC nFo nQd f1_3 nBe nEa nMi nHa nER nMR nTh nPa nOu nFr nQu eM eL eC eS eB eE eF eG) → va_S A s.heap H locs → lv_has ls 6 [(0, .ref (ad 10)), (1, .ref (ad 39)), (2, .int x2_1), (3, .int x3_2), (4, .int x4_10)] → W p l e (headSpec wsX5_arrange rm_X5_arrange).room s m args below meth c H locs 0 0 Q (F0 m 61 ls [])) (n23 : Nat) (x4_8 : Int32) (x5_9 : Int32), wp_X5_arrange_L23 tBe x2_1 x23 n23 x4_8 x5_9 → ∀ (H : Heap) (locs : List Loc) (ls : Array Slot), va_P D vwCl (WC cI cJ cE cD ad bd dd bHK bHP bPF bWC bRi bBe bFi bWa dB dS dN tC tKi tEa tHa tPr tEx tSt tTo tBe kC kKi kEa kHa kPr kEx kSt kTo kBe aC aWh aTa aWa iRo iEa iLa cC nC nFo nQd f1_3 nBe nEa nMi nHa nER nMR nTh nPa nOu nFr nQu eM eL eC eS eB eE eF eG) H → va_D A (WC cI cJ cE cD ad bd dd bHK bHP bPF bWC bRi bBe bFi bWa dB dS dN tC tKi tEa tHa tPr tEx tSt tTo tBe kC kKi kEa kHa kPr kEx kSt kTo kBe aC aWh aTa aWa iRo iEa iLa cC nC nFo nQd f1_3 nBe nEa nMi nHa nER nMR nTh nPa nOu nFr nQu eM eL eC eS eB eE eF eG) → va_S A s.heap H locs → lv_has ls 6 [(0, .ref (ad 10)), (1, .ref (ad 39)), (2, .int x2_1), (3, .int x3_2), (4, .int x4_8), (5, .int x5_9)] → W p l e (headSpec wsX5_arrange rm_X5_arrange).room s m args below meth c H locs 0 0 Q (F0 m 23 ls []) := by
          intro x23 hk23 n23
          induction n23 with
          | zero => intro x4_8 x5_9 h; exact False.elim h
          | succ n23 ih23 =>
            intro x4_8 x5_9 h H locs ls hP hD hS hl
            have B55 : ∀ (x4_11 : Int32) (x5_12 : Int32), wp_X5_arrange_b55 (wp_X5_arrange_L23 tBe x2_1 x23 n23) x4_11 x5_12 → ∀ (H : Heap) (locs : List Loc) (ls : Array Slot), va_P D vwCl (WC cI cJ cE cD ad bd dd bHK bHP bPF bWC bRi bBe bFi bWa dB dS dN tC tKi tEa tHa tPr tEx tSt tTo tBe kC kKi kEa kHa kPr kEx kSt kTo kBe aC aWh aTa aWa iRo iEa iLa cC nC nFo nQd f1_3 nBe nEa nMi nHa nER nMR nTh nPa nOu nFr nQu eM eL eC eS eB eE eF eG) H → va_D A (WC cI cJ cE cD ad bd dd bHK bHP bPF bWC bRi bBe bFi bWa dB dS dN tC tKi tEa tHa tPr tEx tSt tTo tBe kC kKi kEa kHa kPr kEx kSt kTo kBe aC aWh aTa aWa iRo iEa iLa cC nC nFo nQd f1_3 nBe nEa nMi nHa nER nMR nTh nPa nOu nFr nQu eM eL eC eS eB eE eF eG) → va_S A s.heap H locs → lv_has ls 6 [(0, .ref (ad 10)), (1, .ref (ad 39)), (2, .int x2_1), (3, .int x3_2), (4, .int x4_11), (5, .int x5_12)] → W p l e (headSpec wsX5_arrange rm_X5_arrange).room s m args below meth c H locs 0 0 Q (F0 m 55 ls []) := by
              intro x4_11 x5_12 h H locs ls hP hD hS hl
              obtain ⟨x5_13, e_14⟩ : ∃ y : Int32, y = x5_12 + (-1) := ⟨_, rfl⟩
              have h := h x5_13 e_14
              refine lv_iinc (v := x5_13) (lv' := [(5, .int x5_13), (0, .ref (ad 10)), (1, .ref (ad 39)), (2, .int x2_1), (3, .int x3_2), (4, .int x4_11)]) hx hb dX5_arrange_55 hl (k := 5) rfl (by rw [e_14]; rfl) (by decide) rfl (fun ls hl => ?_)
              refine lv_goto (tgt := 23) hx hb dX5_arrange_58 (by decide) ?_
              exact ih23 x4_11 x5_13 h H locs ls hP hD hS (lv_sub hl [1, 2, 3, 4, 5, 0] rfl)
            refine lv_iload hx hb dX5_arrange_23 (lv_at hl 5 rfl) ?_
            refine lv_if_lt (tgt := 61) hx hb dX5_arrange_25 (by decide) (fun c_15 => ?_) (fun c_15 => ?_)
            · have h := h.1 c_15
              exact hk23 x4_8 h H locs ls hP hD hS (lv_sub hl [0, 1, 2, 3, 4] rfl)
            · have h := h.2 c_15
              refine lv_iload_n hx hb dX5_arrange_28 rfl (lv_at hl 2 rfl) ?_
              refine lv_iload hx hb dX5_arrange_29 (lv_at hl 5 rfl) ?_
              refine cl_i hD hS hA (va_runSN (As := [.int x2_1, .int x5_9]) (rest := []) ⟨hx, hb, hml, hown, hts⟩ (ct_X7_hasBit h H.size) ⟨va_cnB 2 hts gX5_arrange_X7_hasBit_n75 rfl rfl rfl (hAB.2.1 (.methodLinkNest RX5 75 yX7_hasBit RX7) (by decide +kernel)) (hts (.initialized RX7) (by decide +kernel)) (by decide +kernel) ⟨Nat.le_of_ble_eq_true rfl, Nat.le_of_ble_eq_true rfl⟩, (hts (.static yX7_hasBit) (by decide +kernel)), trivial⟩ ⟨CPre.blind, wd_pre hAB hP hD hS hA⟩ rfl rfl hl.1 rfl (lv_room (Nat.le_of_ble_eq_true rfl)) dX5_arrange_31 ⟨Nat.zero_le _, Nat.zero_le _⟩) (fun r_16 u H locs h hP hD hS => ?_)
              refine lv_if_ne (tgt := 55) hx hb dX5_arrange_34 (by decide) (fun c_17 => ?_) (fun c_17 => ?_)
              · have h := h.1 c_17
                exact B55 x4_8 x5_9 h H locs ls hP hD hS (lv_sub hl [0, 1, 2, 3, 4, 5] rfl)
              · have h := h.2 c_17
                refine lv_aload_n hx hb dX5_arrange_37 rfl (lv_at hl 0 rfl) ?_
                refine va_get (D := D) (ci := 5) (C := RX5) (T := TX5) (N := 9) hx hb hts inn_X5_arrange_5 hown hAB.1 hP 10 rfl rfl 8 (by decide) (hts (.fieldLink RX5 33 "BarnBench$Tasks" "before" "[I") (by decide +kernel)) (fun _ h9 => h9) rfl dX5_arrange_38 ?_
                refine lv_iload hx hb dX5_arrange_41 (lv_at hl 5 rfl) ?_
                refine va_iald hx hb hAB.1 hP 18 0 rfl rfl h.1 dX5_arrange_43 ?_
                have h := h.2
                refine lv_iload_n hx hb dX5_arrange_44 rfl (lv_at hl 2 rfl) ?_
                refine lv_iconst (v := (-1)) hx hb dX5_arrange_45 (by decide) ?_
                refine lv_ixor hx hb dX5_arrange_46 ?_
                refine lv_iand hx hb dX5_arrange_47 ?_
                refine lv_if_ne (tgt := 55) hx hb dX5_arrange_48 (by decide) (fun c_18 => ?_) (fun c_18 => ?_)
                · have h := h.1 c_18
                  exact B55 x4_8 x5_9 h H locs ls hP hD hS (lv_sub hl [0, 1, 2, 3, 4, 5] rfl)
                · have h := h.2 c_18
                  refine lv_iload hx hb dX5_arrange_51 (lv_at hl 5 rfl) ?_
                  refine lv_istore (lv' := [(4, .int x5_9), (0, .ref (ad 10)), (1, .ref (ad 39)), (2, .int x2_1), (3, .int x3_2), (5, .int x5_9)]) hx hb dX5_arrange_53 hl (by decide) rfl (fun ls hl => ?_)
                  exact B55 x5_9 x5_9 h H locs ls hP hD hS (lv_sub hl [1, 2, 3, 4, 0, 5] rfl)
        obtain ⟨n23, h⟩ := h
        refine L23 _ (fun x4_10 h H locs ls hP hD hS hl => ?_) n23 0 x5_6 h H locs ls hP hD hS (lv_sub hl [2, 3, 4, 5, 1, 0] rfl)
        refine lv_aload_n hx hb dX5_arrange_61 rfl (lv_at hl 1 rfl) ?_
        refine lv_iload_n hx hb dX5_arrange_62 rfl (lv_at hl 3 rfl) ?_
        refine lv_iload hx hb dX5_arrange_63 (lv_at hl 4 rfl) ?_
        refine sC_39 hx hb hAB hP hD hS h.1 dX5_arrange_65 (fun f1_19 H locs e_20 hP hD hS => ?_)
        have h := h.2
        have h := h f1_19 e_20
        refine lv_iload_n hx hb dX5_arrange_66 rfl (lv_at hl 2 rfl) ?_
        refine lv_iconst (v := 1) hx hb dX5_arrange_67 (by decide) ?_
        refine lv_iload hx hb dX5_arrange_68 (lv_at hl 4 rfl) ?_
        refine lv_ishl hx hb dX5_arrange_70 ?_
        refine lv_ior hx hb dX5_arrange_71 ?_
        refine lv_topi (fun x2_21 e_22 => ?_)
        have h := h x2_21 e_22
        refine lv_istore_n (lv' := [(2, .int x2_21), (0, .ref (ad 10)), (1, .ref (ad 39)), (3, .int x3_2), (4, .int x4_10)]) hx hb dX5_arrange_72 rfl hl (by decide) rfl (fun ls hl => ?_)
        obtain ⟨x3_23, e_24⟩ : ∃ y : Int32, y = x3_2 + 1 := ⟨_, rfl⟩
        have h := h x3_23 e_24
        refine lv_iinc (v := x3_23) (lv' := [(3, .int x3_23), (2, .int x2_21), (0, .ref (ad 10)), (1, .ref (ad 39)), (4, .int x4_10)]) hx hb dX5_arrange_73 hl (k := 3) rfl (by rw [e_24]; rfl) (by decide) rfl (fun ls hl => ?_)
        refine lv_goto (tgt := 4) hx hb dX5_arrange_76 (by decide) ?_
        exact ih4 x2_21 x3_23 f1_19 h H locs ls hP hD hS (lv_sub hl [2, 3, 1, 0] rfl)
  obtain ⟨n4, h⟩ := h
  refine L4 _ (fun f1_4 h H locs ls hP hD hS hl => ?_) n4 0 0 nRo h H locs ls hP hD hS (lv_sub hl [2, 3, 1, 0] rfl)
  exact rt_v (f1_4) hQ hx hb hr hlk hP hD hS ⟨Nat.zero_le _, Nat.zero_le _⟩ dX5_arrange_79 h
def wp_X5_add_b144 (Qp : Int32 → (Int32) → (Nat → Int32) → (Nat → Int32) → (Nat → Int32) → (Nat → Int32) → (Nat → Int32) → (Nat → Int32) → (Nat → Int32) → (Nat → Int32) → Prop) (y_2 : Int32) (y_3 : Int32) (x4_1 : Int32) (tC_4 : Int32) (tKi_5 : Nat → Int32) (tEa_6 : Nat → Int32) (tHa_7 : Nat → Int32) (tPr_8 : Nat → Int32) (tEx_9 : Nat → Int32) (tSt_10 : Nat → Int32) (tTo_11 : Nat → Int32) (tBe_12 : Nat → Int32) : Prop :=
  vp_in y_2 12 ∧ ∀ tSt_13 : Nat → Int32, tSt_13 = upd tSt_10 (Int32.toNatClampNeg y_2) y_3 → vp_in x4_1 12 ∧ vp_in x4_1 12 ∧ ∀ tTo_15 : Nat → Int32, tTo_15 = upd tTo_11 (Int32.toNatClampNeg x4_1) (tEa_6 (Int32.toNatClampNeg x4_1)) → vp_in x4_1 12 ∧ ∀ tBe_17 : Nat → Int32, tBe_17 = upd tBe_12 (Int32.toNatClampNeg x4_1) 0 → ∀ tC_19 : Int32, tC_19 = (tC_4 + 1) → Qp x4_1 tC_19 tKi_5 tEa_6 tHa_7 tPr_8 tEx_9 tSt_13 tTo_15 tBe_17
def wp_X5_add_b118 (Qp : Int32 → (Int32) → (Nat → Int32) → (Nat → Int32) → (Nat → Int32) → (Nat → Int32) → (Nat → Int32) → (Nat → Int32) → (Nat → Int32) → (Nat → Int32) → Prop) (a3 : Int32) (f2_numbers : Nat → Int64) (y_23 : Int32) (y_24 : Int32) (x4_21 : Int32) (x5_22 : Int32) (tC_25 : Int32) (tKi_26 : Nat → Int32) (tEa_27 : Nat → Int32) (tHa_28 : Nat → Int32) (tPr_29 : Nat → Int32) (tEx_30 : Nat → Int32) (tSt_31 : Nat → Int32) (tTo_32 : Nat → Int32) (tBe_33 : Nat → Int32) : Prop :=
  vp_in y_23 12 ∧ ∀ tEx_34 : Nat → Int32, tEx_34 = upd tEx_30 (Int32.toNatClampNeg y_23) y_24 → ((x5_22 ≤ 4 → wp_X5_add_b144 Qp x4_21 0 x4_21 tC_25 tKi_26 tEa_27 tHa_28 tPr_29 tEx_34 tSt_31 tTo_32 tBe_33) ∧
   (¬ x5_22 ≤ 4 → vp_in (a3 + 4) 24 ∧ wp_X5_add_b144 Qp x4_21 (Int64.toInt32 (f2_numbers (Int32.toNatClampNeg (a3 + 4)))) x4_21 tC_25 tKi_26 tEa_27 tHa_28 tPr_29 tEx_34 tSt_31 tTo_32 tBe_33))
def wp_X5_add_b92 (Qp : Int32 → (Int32) → (Nat → Int32) → (Nat → Int32) → (Nat → Int32) → (Nat → Int32) → (Nat → Int32) → (Nat → Int32) → (Nat → Int32) → (Nat → Int32) → Prop) (a3 : Int32) (f2_numbers : Nat → Int64) (y_39 : Int32) (y_40 : Int32) (x4_37 : Int32) (x5_38 : Int32) (tC_41 : Int32) (tKi_42 : Nat → Int32) (tEa_43 : Nat → Int32) (tHa_44 : Nat → Int32) (tPr_45 : Nat → Int32) (tEx_46 : Nat → Int32) (tSt_47 : Nat → Int32) (tTo_48 : Nat → Int32) (tBe_49 : Nat → Int32) : Prop :=
  vp_in y_39 12 ∧ ∀ tPr_50 : Nat → Int32, tPr_50 = upd tPr_45 (Int32.toNatClampNeg y_39) y_40 → ((x5_38 ≤ 3 → wp_X5_add_b118 Qp a3 f2_numbers x4_37 0 x4_37 x5_38 tC_41 tKi_42 tEa_43 tHa_44 tPr_50 tEx_46 tSt_47 tTo_48 tBe_49) ∧
   (¬ x5_38 ≤ 3 → vp_in (a3 + 3) 24 ∧ wp_X5_add_b118 Qp a3 f2_numbers x4_37 (Int64.toInt32 (f2_numbers (Int32.toNatClampNeg (a3 + 3)))) x4_37 x5_38 tC_41 tKi_42 tEa_43 tHa_44 tPr_50 tEx_46 tSt_47 tTo_48 tBe_49))
def wp_X5_add_b66 (Qp : Int32 → (Int32) → (Nat → Int32) → (Nat → Int32) → (Nat → Int32) → (Nat → Int32) → (Nat → Int32) → (Nat → Int32) → (Nat → Int32) → (Nat → Int32) → Prop) (a3 : Int32) (f2_numbers : Nat → Int64) (y_55 : Int32) (y_56 : Int32) (x4_53 : Int32) (x5_54 : Int32) (tC_57 : Int32) (tKi_58 : Nat → Int32) (tEa_59 : Nat → Int32) (tHa_60 : Nat → Int32) (tPr_61 : Nat → Int32) (tEx_62 : Nat → Int32) (tSt_63 : Nat → Int32) (tTo_64 : Nat → Int32) (tBe_65 : Nat → Int32) : Prop :=
  vp_in y_55 12 ∧ ∀ tHa_66 : Nat → Int32, tHa_66 = upd tHa_60 (Int32.toNatClampNeg y_55) y_56 → ((x5_54 ≤ 2 → wp_X5_add_b92 Qp a3 f2_numbers x4_53 0 x4_53 x5_54 tC_57 tKi_58 tEa_59 tHa_66 tPr_61 tEx_62 tSt_63 tTo_64 tBe_65) ∧
   (¬ x5_54 ≤ 2 → vp_in (a3 + 2) 24 ∧ wp_X5_add_b92 Qp a3 f2_numbers x4_53 (Int64.toInt32 (f2_numbers (Int32.toNatClampNeg (a3 + 2)))) x4_53 x5_54 tC_57 tKi_58 tEa_59 tHa_66 tPr_61 tEx_62 tSt_63 tTo_64 tBe_65))
def wp_X5_add (f2_numbers : Nat → Int64) (tC : Int32) (tKi : Nat → Int32) (tEa : Nat → Int32) (tHa : Nat → Int32) (tPr : Nat → Int32) (tEx : Nat → Int32) (tSt : Nat → Int32) (tTo : Nat → Int32) (tBe : Nat → Int32) (a1 : Int32) (a3 : Int32) (Qp : Int32 → (Int32) → (Nat → Int32) → (Nat → Int32) → (Nat → Int32) → (Nat → Int32) → (Nat → Int32) → (Nat → Int32) → (Nat → Int32) → (Nat → Int32) → Prop) : Prop :=
  vp_in a1 5 ∧ ∀ x5_72 : Int32, x5_72 = (am_taken (Int32.toNatClampNeg a1)) → vp_in tC 12 ∧ ∀ tKi_74 : Nat → Int32, tKi_74 = upd tKi (Int32.toNatClampNeg tC) a1 → vp_in a3 24 ∧ vp_in tC 12 ∧ ∀ tEa_76 : Nat → Int32, tEa_76 = upd tEa (Int32.toNatClampNeg tC) (Int64.toInt32 (f2_numbers (Int32.toNatClampNeg a3))) → ((x5_72 ≤ 1 → vp_in tC 12 ∧ wp_X5_add_b66 Qp a3 f2_numbers tC (tEa_76 (Int32.toNatClampNeg tC)) tC x5_72 tC tKi_74 tEa_76 tHa tPr tEx tSt tTo tBe) ∧
   (¬ x5_72 ≤ 1 → vp_in (a3 + 1) 24 ∧ wp_X5_add_b66 Qp a3 f2_numbers tC (Int64.toInt32 (f2_numbers (Int32.toNatClampNeg (a3 + 1)))) tC x5_72 tC tKi_74 tEa_76 tHa tPr tEx tSt tTo tBe))
theorem inn_X5_add_2 : ∀ w ∈ u_ws RX2 TX2 3, w ∈ wsX5_add := fun _ h => List.mem_cons_of_mem _ (List.mem_append_right _ h)
theorem inn_X5_add_5 : ∀ w ∈ u_ws RX5 TX5 9, w ∈ wsX5_add := fun _ h => List.mem_cons_of_mem _ (List.mem_append_left _ (List.mem_append_right _ h))
def rm_X5_add : Room := { frames := 0, cells := 0, slots := 0, locals := 0 }
set_option maxHeartbeats 4000000 in
set_option maxRecDepth 100000 in
theorem ct_X5_add {l : Launch} {D : va_G} {cI cJ cZ cE cD cK : ClassId} {ad : Nat → Nat} {bd dd : Nat → Nat → Nat} {bHK : Int32} {bHP : Int32} {bPF : Int32} {bWC : Int32} {bRi : Int32} {bBe : Int32} {bFi : Int32} {bWa : Nat → Int32} {dB : Nat → Int32} {dS : Nat → Int32} {dN : Nat → Nat → Int64} {tC : Int32} {tKi : Nat → Int32} {tEa : Nat → Int32} {tHa : Nat → Int32} {tPr : Nat → Int32} {tEx : Nat → Int32} {tSt : Nat → Int32} {tTo : Nat → Int32} {tBe : Nat → Int32} {kC : Int32} {kKi : Nat → Int32} {kEa : Nat → Int32} {kHa : Nat → Int32} {kPr : Nat → Int32} {kEx : Nat → Int32} {kSt : Nat → Int32} {kTo : Nat → Int32} {kBe : Nat → Int32} {aC : Int32} {aWh : Nat → Int32} {aTa : Nat → Int32} {aWa : Nat → Int32} {iRo : Nat → Int32} {iEa : Nat → Int32} {iLa : Nat → Int32} {cC : Int32} {nC : Int32} {nFo : Int32} {nQd : Int32} {nRo : Nat → Int32} {nBe : Nat → Int32} {nEa : Nat → Int32} {nMi : Nat → Int32} {nHa : Nat → Int32} {nER : Nat → Int32} {nMR : Nat → Int32} {nTh : Nat → Int32} {nPa : Nat → Int32} {nOu : Nat → Int32} {nFr : Nat → Int32} {nQu : Nat → Int32} {eM : Nat} {eL : Nat → Int32} {eC : Nat → Int64} {eS : Nat → Int64} {eB : Nat → Nat → Int32} {eE : Nat → Nat → Int32} {eF : Nat → Nat → Int32} {eG : Nat → Nat → Int32} {i : Nat} {f2_numbers : Nat → Int64} {a1 : Int32} {a3 : Int32} {Qp : Int32 → (Int32) → (Nat → Int32) → (Nat → Int32) → (Nat → Int32) → (Nat → Int32) → (Nat → Int32) → (Nat → Int32) → (Nat → Int32) → (Nat → Int32) → Prop} (hi2 : i < 4) (q_f2_numbers : dN i = f2_numbers) (h : wp_X5_add f2_numbers tC tKi tEa tHa tPr tEx tSt tTo tBe a1 a3 Qp) : CTi l yX5_add wsX5_add rm_X5_add D (tyL cI cJ cZ cE cD cK) [.ref (ad 10), .int a1, .ref (dd i 0), .int a3] (WC cI cJ cE cD ad bd dd bHK bHP bPF bWC bRi bBe bFi bWa dB dS dN tC tKi tEa tHa tPr tEx tSt tTo tBe kC kKi kEa kHa kPr kEx kSt kTo kBe aC aWh aTa aWa iRo iEa iLa cC nC nFo nQd nRo nBe nEa nMi nHa nER nMR nTh nPa nOu nFr nQu eM eL eC eS eB eE eF eG) (fun (r : Int32) (u : (Int32) × (Nat → Int32) × (Nat → Int32) × (Nat → Int32) × (Nat → Int32) × (Nat → Int32) × (Nat → Int32) × (Nat → Int32) × (Nat → Int32)) => Qp r u.1 u.2.1 u.2.2.1 u.2.2.2.1 u.2.2.2.2.1 u.2.2.2.2.2.1 u.2.2.2.2.2.2.1 u.2.2.2.2.2.2.2.1 u.2.2.2.2.2.2.2.2) (fun u : (Int32) × (Nat → Int32) × (Nat → Int32) × (Nat → Int32) × (Nat → Int32) × (Nat → Int32) × (Nat → Int32) × (Nat → Int32) × (Nat → Int32) => (WC cI cJ cE cD ad bd dd bHK bHP bPF bWC bRi bBe bFi bWa dB dS dN u.1 u.2.1 u.2.2.1 u.2.2.2.1 u.2.2.2.2.1 u.2.2.2.2.2.1 u.2.2.2.2.2.2.1 u.2.2.2.2.2.2.2.1 u.2.2.2.2.2.2.2.2 kC kKi kEa kHa kPr kEx kSt kTo kBe aC aWh aTa aWa iRo iEa iLa cC nC nFo nQd nRo nBe nEa nMi nHa nER nMR nTh nPa nOu nFr nQu eM eL eC eS eB eE eF eG)) 0 0 := by
  subst q_f2_numbers
  refine ent_i (cc := cX5_add) (maxL := 6) (ret := (some .int)) (by decide) rfl (Nat.le_of_ble_eq_true rfl) ?_
  intro p e s m args below meth c A Q hQ hx hb hr hml hown hts hlk hA hAB hP hD hS ls hl
  have hown : s.vm.findClass RX5 = some m.cls := hown
  have hl : lv_has ls 6 [(0, .ref (ad 10)), (1, .int a1), (2, .ref (dd i 0)), (3, .int a3)] := hl
  generalize hH : s.heap = H at hP ⊢
  have hS : va_S A s.heap H [] := by rw [← hH]; exact hS
  clear hH
  generalize ([] : List Loc) = locs at hS ⊢
  have B144 : ∀ (y_2 : Int32) (y_3 : Int32) (x4_1 : Int32) (tC_4 : Int32) (tKi_5 : Nat → Int32) (tEa_6 : Nat → Int32) (tHa_7 : Nat → Int32) (tPr_8 : Nat → Int32) (tEx_9 : Nat → Int32) (tSt_10 : Nat → Int32) (tTo_11 : Nat → Int32) (tBe_12 : Nat → Int32), wp_X5_add_b144 Qp y_2 y_3 x4_1 tC_4 tKi_5 tEa_6 tHa_7 tPr_8 tEx_9 tSt_10 tTo_11 tBe_12 → ∀ (H : Heap) (locs : List Loc) (ls : Array Slot), va_P D vwCl (WC cI cJ cE cD ad bd dd bHK bHP bPF bWC bRi bBe bFi bWa dB dS dN tC_4 tKi_5 tEa_6 tHa_7 tPr_8 tEx_9 tSt_10 tTo_11 tBe_12 kC kKi kEa kHa kPr kEx kSt kTo kBe aC aWh aTa aWa iRo iEa iLa cC nC nFo nQd nRo nBe nEa nMi nHa nER nMR nTh nPa nOu nFr nQu eM eL eC eS eB eE eF eG) H → va_D A (WC cI cJ cE cD ad bd dd bHK bHP bPF bWC bRi bBe bFi bWa dB dS dN tC_4 tKi_5 tEa_6 tHa_7 tPr_8 tEx_9 tSt_10 tTo_11 tBe_12 kC kKi kEa kHa kPr kEx kSt kTo kBe aC aWh aTa aWa iRo iEa iLa cC nC nFo nQd nRo nBe nEa nMi nHa nER nMR nTh nPa nOu nFr nQu eM eL eC eS eB eE eF eG) → va_S A s.heap H locs → lv_has ls 6 [(0, .ref (ad 10)), (4, .int x4_1)] → W p l e (headSpec wsX5_add rm_X5_add).room s m args below meth c H locs 0 0 Q (F0 m 144 ls [.int y_3, .int y_2, .ref (ad 16)]) := by
    intro y_2 y_3 x4_1 tC_4 tKi_5 tEa_6 tHa_7 tPr_8 tEx_9 tSt_10 tTo_11 tBe_12 h H locs ls hP hD hS hl
    refine sC_16 hx hb hAB hP hD hS h.1 dX5_add_144 (fun tSt_13 H locs e_14 hP hD hS => ?_)
    have h := h.2
    have h := h tSt_13 e_14
    refine lv_aload_n hx hb dX5_add_145 rfl (lv_at hl 0 rfl) ?_
    refine va_get (D := D) (ci := 5) (C := RX5) (T := TX5) (N := 9) hx hb hts inn_X5_add_5 hown hAB.1 hP 10 rfl rfl 7 (by decide) (hts (.fieldLink RX5 30 "BarnBench$Tasks" "told" "[I") (by decide +kernel)) (fun _ h9 => h9) rfl dX5_add_146 ?_
    refine lv_iload hx hb dX5_add_149 (lv_at hl 1 rfl) ?_
    refine lv_aload_n hx hb dX5_add_151 rfl (lv_at hl 0 rfl) ?_
    refine va_get (D := D) (ci := 5) (C := RX5) (T := TX5) (N := 9) hx hb hts inn_X5_add_5 hown hAB.1 hP 10 rfl rfl 2 (by decide) (hts (.fieldLink RX5 15 "BarnBench$Tasks" "easy" "[I") (by decide +kernel)) (fun _ h9 => h9) rfl dX5_add_152 ?_
    refine lv_iload hx hb dX5_add_155 (lv_at hl 1 rfl) ?_
    refine va_iald hx hb hAB.1 hP 12 0 rfl rfl h.1 dX5_add_157 ?_
    have h := h.2
    refine sC_17 hx hb hAB hP hD hS h.1 dX5_add_158 (fun tTo_15 H locs e_16 hP hD hS => ?_)
    have h := h.2
    have h := h tTo_15 e_16
    refine lv_aload_n hx hb dX5_add_159 rfl (lv_at hl 0 rfl) ?_
    refine va_get (D := D) (ci := 5) (C := RX5) (T := TX5) (N := 9) hx hb hts inn_X5_add_5 hown hAB.1 hP 10 rfl rfl 8 (by decide) (hts (.fieldLink RX5 33 "BarnBench$Tasks" "before" "[I") (by decide +kernel)) (fun _ h9 => h9) rfl dX5_add_160 ?_
    refine lv_iload hx hb dX5_add_163 (lv_at hl 1 rfl) ?_
    refine lv_iconst (v := 0) hx hb dX5_add_165 (by decide) ?_
    refine sC_18 hx hb hAB hP hD hS h.1 dX5_add_166 (fun tBe_17 H locs e_18 hP hD hS => ?_)
    have h := h.2
    have h := h tBe_17 e_18
    refine lv_aload_n hx hb dX5_add_167 rfl (lv_at hl 0 rfl) ?_
    refine lv_dup hx hb dX5_add_168 rfl ?_
    refine va_get (D := D) (ci := 5) (C := RX5) (T := TX5) (N := 9) hx hb hts inn_X5_add_5 hown hAB.1 hP 10 rfl rfl 0 (by decide) (hts (.fieldLink RX5 36 "BarnBench$Tasks" "count" "I") (by decide +kernel)) (fun _ h9 => h9) rfl dX5_add_169 ?_
    refine lv_iconst (v := 1) hx hb dX5_add_172 (by decide) ?_
    refine lv_iadd hx hb dX5_add_173 ?_
    refine fC_10_count hx hb hAB hP hD hS hts inn_X5_add_5 hown (hts (.fieldLink RX5 36 "BarnBench$Tasks" "count" "I") (by decide +kernel)) dX5_add_174 (fun tC_19 H locs e_20 hP hD hS => ?_)
    have h := h tC_19 e_20
    refine lv_iload hx hb dX5_add_177 (lv_at hl 1 rfl) ?_
    exact rt_i (tC_19, tKi_5, tEa_6, tHa_7, tPr_8, tEx_9, tSt_13, tTo_15, tBe_17) hQ hx hb hr hlk hP hD hS ⟨Nat.zero_le _, Nat.zero_le _⟩ dX5_add_179 h
  have B118 : ∀ (y_23 : Int32) (y_24 : Int32) (x4_21 : Int32) (x5_22 : Int32) (tC_25 : Int32) (tKi_26 : Nat → Int32) (tEa_27 : Nat → Int32) (tHa_28 : Nat → Int32) (tPr_29 : Nat → Int32) (tEx_30 : Nat → Int32) (tSt_31 : Nat → Int32) (tTo_32 : Nat → Int32) (tBe_33 : Nat → Int32), wp_X5_add_b118 Qp a3 (dN i) y_23 y_24 x4_21 x5_22 tC_25 tKi_26 tEa_27 tHa_28 tPr_29 tEx_30 tSt_31 tTo_32 tBe_33 → ∀ (H : Heap) (locs : List Loc) (ls : Array Slot), va_P D vwCl (WC cI cJ cE cD ad bd dd bHK bHP bPF bWC bRi bBe bFi bWa dB dS dN tC_25 tKi_26 tEa_27 tHa_28 tPr_29 tEx_30 tSt_31 tTo_32 tBe_33 kC kKi kEa kHa kPr kEx kSt kTo kBe aC aWh aTa aWa iRo iEa iLa cC nC nFo nQd nRo nBe nEa nMi nHa nER nMR nTh nPa nOu nFr nQu eM eL eC eS eB eE eF eG) H → va_D A (WC cI cJ cE cD ad bd dd bHK bHP bPF bWC bRi bBe bFi bWa dB dS dN tC_25 tKi_26 tEa_27 tHa_28 tPr_29 tEx_30 tSt_31 tTo_32 tBe_33 kC kKi kEa kHa kPr kEx kSt kTo kBe aC aWh aTa aWa iRo iEa iLa cC nC nFo nQd nRo nBe nEa nMi nHa nER nMR nTh nPa nOu nFr nQu eM eL eC eS eB eE eF eG) → va_S A s.heap H locs → lv_has ls 6 [(0, .ref (ad 10)), (2, .ref (dd i 0)), (3, .int a3), (4, .int x4_21), (5, .int x5_22)] → W p l e (headSpec wsX5_add rm_X5_add).room s m args below meth c H locs 0 0 Q (F0 m 118 ls [.int y_24, .int y_23, .ref (ad 15)]) := by
    intro y_23 y_24 x4_21 x5_22 tC_25 tKi_26 tEa_27 tHa_28 tPr_29 tEx_30 tSt_31 tTo_32 tBe_33 h H locs ls hP hD hS hl
    refine sC_15 hx hb hAB hP hD hS h.1 dX5_add_118 (fun tEx_34 H locs e_35 hP hD hS => ?_)
    have h := h.2
    have h := h tEx_34 e_35
    refine lv_aload_n hx hb dX5_add_119 rfl (lv_at hl 0 rfl) ?_
    refine va_get (D := D) (ci := 5) (C := RX5) (T := TX5) (N := 9) hx hb hts inn_X5_add_5 hown hAB.1 hP 10 rfl rfl 6 (by decide) (hts (.fieldLink RX5 27 "BarnBench$Tasks" "step" "[I") (by decide +kernel)) (fun _ h9 => h9) rfl dX5_add_120 ?_
    refine lv_iload hx hb dX5_add_123 (lv_at hl 3 rfl) ?_
    refine lv_iload hx hb dX5_add_125 (lv_at hl 4 rfl) ?_
    refine lv_iconst (v := 4) hx hb dX5_add_127 (by decide) ?_
    refine lv_icmp_le (tgt := 143) hx hb dX5_add_128 (by decide) (fun c_36 => ?_) (fun c_36 => ?_)
    · have h := h.1 c_36
      refine lv_iconst (v := 0) hx hb dX5_add_143 (by decide) ?_
      exact B144 x4_21 0 x4_21 tC_25 tKi_26 tEa_27 tHa_28 tPr_29 tEx_34 tSt_31 tTo_32 tBe_33 h H locs ls hP hD hS (lv_sub hl [0, 3] rfl)
    · have h := h.2 c_36
      refine lv_aload_n hx hb dX5_add_131 rfl (lv_at hl 1 rfl) ?_
      refine va_get (D := D) (ci := 2) (C := RX2) (T := TX2) (N := 3) hx hb hts inn_X5_add_2 hown hAB.1 hP (2 + (i * 2 + 0)) (gD_0 hi2) rfl 2 (by decide) (hts (.fieldLink RX5 43 "BarnBench$Board" "numbers" "[J") (by decide +kernel)) (fun _ h9 => h9) rfl dX5_add_132 ?_
      refine lv_iload_n hx hb dX5_add_135 rfl (lv_at hl 2 rfl) ?_
      refine lv_iconst (v := 4) hx hb dX5_add_136 (by decide) ?_
      refine lv_iadd hx hb dX5_add_137 ?_
      refine va_lald hx hb hAB.1 hP (2 + (i * 2 + 1)) 1 (gD_1 hi2) rfl h.1 dX5_add_138 ?_
      have h := h.2
      refine lv_l2i hx hb dX5_add_139 rfl ?_
      refine lv_goto (tgt := 144) hx hb dX5_add_140 (by decide) ?_
      exact B144 x4_21 (Int64.toInt32 ((dN i) (Int32.toNatClampNeg (a3 + 4)))) x4_21 tC_25 tKi_26 tEa_27 tHa_28 tPr_29 tEx_34 tSt_31 tTo_32 tBe_33 h H locs ls hP hD hS (lv_sub hl [0, 3] rfl)
  have B92 : ∀ (y_39 : Int32) (y_40 : Int32) (x4_37 : Int32) (x5_38 : Int32) (tC_41 : Int32) (tKi_42 : Nat → Int32) (tEa_43 : Nat → Int32) (tHa_44 : Nat → Int32) (tPr_45 : Nat → Int32) (tEx_46 : Nat → Int32) (tSt_47 : Nat → Int32) (tTo_48 : Nat → Int32) (tBe_49 : Nat → Int32), wp_X5_add_b92 Qp a3 (dN i) y_39 y_40 x4_37 x5_38 tC_41 tKi_42 tEa_43 tHa_44 tPr_45 tEx_46 tSt_47 tTo_48 tBe_49 → ∀ (H : Heap) (locs : List Loc) (ls : Array Slot), va_P D vwCl (WC cI cJ cE cD ad bd dd bHK bHP bPF bWC bRi bBe bFi bWa dB dS dN tC_41 tKi_42 tEa_43 tHa_44 tPr_45 tEx_46 tSt_47 tTo_48 tBe_49 kC kKi kEa kHa kPr kEx kSt kTo kBe aC aWh aTa aWa iRo iEa iLa cC nC nFo nQd nRo nBe nEa nMi nHa nER nMR nTh nPa nOu nFr nQu eM eL eC eS eB eE eF eG) H → va_D A (WC cI cJ cE cD ad bd dd bHK bHP bPF bWC bRi bBe bFi bWa dB dS dN tC_41 tKi_42 tEa_43 tHa_44 tPr_45 tEx_46 tSt_47 tTo_48 tBe_49 kC kKi kEa kHa kPr kEx kSt kTo kBe aC aWh aTa aWa iRo iEa iLa cC nC nFo nQd nRo nBe nEa nMi nHa nER nMR nTh nPa nOu nFr nQu eM eL eC eS eB eE eF eG) → va_S A s.heap H locs → lv_has ls 6 [(0, .ref (ad 10)), (2, .ref (dd i 0)), (3, .int a3), (4, .int x4_37), (5, .int x5_38)] → W p l e (headSpec wsX5_add rm_X5_add).room s m args below meth c H locs 0 0 Q (F0 m 92 ls [.int y_40, .int y_39, .ref (ad 14)]) := by
    intro y_39 y_40 x4_37 x5_38 tC_41 tKi_42 tEa_43 tHa_44 tPr_45 tEx_46 tSt_47 tTo_48 tBe_49 h H locs ls hP hD hS hl
    refine sC_14 hx hb hAB hP hD hS h.1 dX5_add_92 (fun tPr_50 H locs e_51 hP hD hS => ?_)
    have h := h.2
    have h := h tPr_50 e_51
    refine lv_aload_n hx hb dX5_add_93 rfl (lv_at hl 0 rfl) ?_
    refine va_get (D := D) (ci := 5) (C := RX5) (T := TX5) (N := 9) hx hb hts inn_X5_add_5 hown hAB.1 hP 10 rfl rfl 5 (by decide) (hts (.fieldLink RX5 24 "BarnBench$Tasks" "extra" "[I") (by decide +kernel)) (fun _ h9 => h9) rfl dX5_add_94 ?_
    refine lv_iload hx hb dX5_add_97 (lv_at hl 3 rfl) ?_
    refine lv_iload hx hb dX5_add_99 (lv_at hl 4 rfl) ?_
    refine lv_iconst (v := 3) hx hb dX5_add_101 (by decide) ?_
    refine lv_icmp_le (tgt := 117) hx hb dX5_add_102 (by decide) (fun c_52 => ?_) (fun c_52 => ?_)
    · have h := h.1 c_52
      refine lv_iconst (v := 0) hx hb dX5_add_117 (by decide) ?_
      exact B118 x4_37 0 x4_37 x5_38 tC_41 tKi_42 tEa_43 tHa_44 tPr_50 tEx_46 tSt_47 tTo_48 tBe_49 h H locs ls hP hD hS (lv_sub hl [0, 1, 2, 3, 4] rfl)
    · have h := h.2 c_52
      refine lv_aload_n hx hb dX5_add_105 rfl (lv_at hl 1 rfl) ?_
      refine va_get (D := D) (ci := 2) (C := RX2) (T := TX2) (N := 3) hx hb hts inn_X5_add_2 hown hAB.1 hP (2 + (i * 2 + 0)) (gD_0 hi2) rfl 2 (by decide) (hts (.fieldLink RX5 43 "BarnBench$Board" "numbers" "[J") (by decide +kernel)) (fun _ h9 => h9) rfl dX5_add_106 ?_
      refine lv_iload_n hx hb dX5_add_109 rfl (lv_at hl 2 rfl) ?_
      refine lv_iconst (v := 3) hx hb dX5_add_110 (by decide) ?_
      refine lv_iadd hx hb dX5_add_111 ?_
      refine va_lald hx hb hAB.1 hP (2 + (i * 2 + 1)) 1 (gD_1 hi2) rfl h.1 dX5_add_112 ?_
      have h := h.2
      refine lv_l2i hx hb dX5_add_113 rfl ?_
      refine lv_goto (tgt := 118) hx hb dX5_add_114 (by decide) ?_
      exact B118 x4_37 (Int64.toInt32 ((dN i) (Int32.toNatClampNeg (a3 + 3)))) x4_37 x5_38 tC_41 tKi_42 tEa_43 tHa_44 tPr_50 tEx_46 tSt_47 tTo_48 tBe_49 h H locs ls hP hD hS (lv_sub hl [0, 1, 2, 3, 4] rfl)
  have B66 : ∀ (y_55 : Int32) (y_56 : Int32) (x4_53 : Int32) (x5_54 : Int32) (tC_57 : Int32) (tKi_58 : Nat → Int32) (tEa_59 : Nat → Int32) (tHa_60 : Nat → Int32) (tPr_61 : Nat → Int32) (tEx_62 : Nat → Int32) (tSt_63 : Nat → Int32) (tTo_64 : Nat → Int32) (tBe_65 : Nat → Int32), wp_X5_add_b66 Qp a3 (dN i) y_55 y_56 x4_53 x5_54 tC_57 tKi_58 tEa_59 tHa_60 tPr_61 tEx_62 tSt_63 tTo_64 tBe_65 → ∀ (H : Heap) (locs : List Loc) (ls : Array Slot), va_P D vwCl (WC cI cJ cE cD ad bd dd bHK bHP bPF bWC bRi bBe bFi bWa dB dS dN tC_57 tKi_58 tEa_59 tHa_60 tPr_61 tEx_62 tSt_63 tTo_64 tBe_65 kC kKi kEa kHa kPr kEx kSt kTo kBe aC aWh aTa aWa iRo iEa iLa cC nC nFo nQd nRo nBe nEa nMi nHa nER nMR nTh nPa nOu nFr nQu eM eL eC eS eB eE eF eG) H → va_D A (WC cI cJ cE cD ad bd dd bHK bHP bPF bWC bRi bBe bFi bWa dB dS dN tC_57 tKi_58 tEa_59 tHa_60 tPr_61 tEx_62 tSt_63 tTo_64 tBe_65 kC kKi kEa kHa kPr kEx kSt kTo kBe aC aWh aTa aWa iRo iEa iLa cC nC nFo nQd nRo nBe nEa nMi nHa nER nMR nTh nPa nOu nFr nQu eM eL eC eS eB eE eF eG) → va_S A s.heap H locs → lv_has ls 6 [(0, .ref (ad 10)), (2, .ref (dd i 0)), (3, .int a3), (4, .int x4_53), (5, .int x5_54)] → W p l e (headSpec wsX5_add rm_X5_add).room s m args below meth c H locs 0 0 Q (F0 m 66 ls [.int y_56, .int y_55, .ref (ad 13)]) := by
    intro y_55 y_56 x4_53 x5_54 tC_57 tKi_58 tEa_59 tHa_60 tPr_61 tEx_62 tSt_63 tTo_64 tBe_65 h H locs ls hP hD hS hl
    refine sC_13 hx hb hAB hP hD hS h.1 dX5_add_66 (fun tHa_66 H locs e_67 hP hD hS => ?_)
    have h := h.2
    have h := h tHa_66 e_67
    refine lv_aload_n hx hb dX5_add_67 rfl (lv_at hl 0 rfl) ?_
    refine va_get (D := D) (ci := 5) (C := RX5) (T := TX5) (N := 9) hx hb hts inn_X5_add_5 hown hAB.1 hP 10 rfl rfl 4 (by decide) (hts (.fieldLink RX5 21 "BarnBench$Tasks" "price" "[I") (by decide +kernel)) (fun _ h9 => h9) rfl dX5_add_68 ?_
    refine lv_iload hx hb dX5_add_71 (lv_at hl 3 rfl) ?_
    refine lv_iload hx hb dX5_add_73 (lv_at hl 4 rfl) ?_
    refine lv_iconst (v := 2) hx hb dX5_add_75 (by decide) ?_
    refine lv_icmp_le (tgt := 91) hx hb dX5_add_76 (by decide) (fun c_68 => ?_) (fun c_68 => ?_)
    · have h := h.1 c_68
      refine lv_iconst (v := 0) hx hb dX5_add_91 (by decide) ?_
      exact B92 x4_53 0 x4_53 x5_54 tC_57 tKi_58 tEa_59 tHa_66 tPr_61 tEx_62 tSt_63 tTo_64 tBe_65 h H locs ls hP hD hS (lv_sub hl [0, 1, 2, 3, 4] rfl)
    · have h := h.2 c_68
      refine lv_aload_n hx hb dX5_add_79 rfl (lv_at hl 1 rfl) ?_
      refine va_get (D := D) (ci := 2) (C := RX2) (T := TX2) (N := 3) hx hb hts inn_X5_add_2 hown hAB.1 hP (2 + (i * 2 + 0)) (gD_0 hi2) rfl 2 (by decide) (hts (.fieldLink RX5 43 "BarnBench$Board" "numbers" "[J") (by decide +kernel)) (fun _ h9 => h9) rfl dX5_add_80 ?_
      refine lv_iload_n hx hb dX5_add_83 rfl (lv_at hl 2 rfl) ?_
      refine lv_iconst (v := 2) hx hb dX5_add_84 (by decide) ?_
      refine lv_iadd hx hb dX5_add_85 ?_
      refine va_lald hx hb hAB.1 hP (2 + (i * 2 + 1)) 1 (gD_1 hi2) rfl h.1 dX5_add_86 ?_
      have h := h.2
      refine lv_l2i hx hb dX5_add_87 rfl ?_
      refine lv_goto (tgt := 92) hx hb dX5_add_88 (by decide) ?_
      exact B92 x4_53 (Int64.toInt32 ((dN i) (Int32.toNatClampNeg (a3 + 2)))) x4_53 x5_54 tC_57 tKi_58 tEa_59 tHa_66 tPr_61 tEx_62 tSt_63 tTo_64 tBe_65 h H locs ls hP hD hS (lv_sub hl [0, 1, 2, 3, 4] rfl)
  refine lv_aload_n hx hb dX5_add_0 rfl (lv_at hl 0 rfl) ?_
  refine va_get (D := D) (ci := 5) (C := RX5) (T := TX5) (N := 9) hx hb hts inn_X5_add_5 hown hAB.1 hP 10 rfl rfl 0 (by decide) (hts (.fieldLink RX5 36 "BarnBench$Tasks" "count" "I") (by decide +kernel)) (fun _ h9 => h9) rfl dX5_add_1 ?_
  refine lv_istore (lv' := [(4, .int tC), (0, .ref (ad 10)), (1, .int a1), (2, .ref (dd i 0)), (3, .int a3)]) hx hb dX5_add_4 hl (by decide) rfl (fun ls hl => ?_)
  obtain ⟨t_69, z_70, y_71⟩ := hAB.2.2.1
  refine va_getsN hx hb z_70 hS hown (va_Nw.use rfl (hAB.2.1 (.fieldLinkNest RX5 40 RX7 "TAKEN" "[I" RX7) (by decide +kernel))) (fun _ h9 => h9) dX5_add_6 ?_
  refine lv_iload_n hx hb dX5_add_9 rfl (lv_at hl 2 rfl) ?_
  refine va_ti hx hb y_71 hS h.1 rfl dX5_add_10 ?_
  have h := h.2
  refine lv_topi (fun x5_72 e_73 => ?_)
  have h := h x5_72 e_73
  refine lv_istore (lv' := [(5, .int x5_72), (4, .int tC), (0, .ref (ad 10)), (1, .int a1), (2, .ref (dd i 0)), (3, .int a3)]) hx hb dX5_add_11 hl (by decide) rfl (fun ls hl => ?_)
  refine lv_aload_n hx hb dX5_add_13 rfl (lv_at hl 2 rfl) ?_
  refine va_get (D := D) (ci := 5) (C := RX5) (T := TX5) (N := 9) hx hb hts inn_X5_add_5 hown hAB.1 hP 10 rfl rfl 1 (by decide) (hts (.fieldLink RX5 9 "BarnBench$Tasks" "kind" "[I") (by decide +kernel)) (fun _ h9 => h9) rfl dX5_add_14 ?_
  refine lv_iload hx hb dX5_add_17 (lv_at hl 1 rfl) ?_
  refine lv_iload_n hx hb dX5_add_19 rfl (lv_at hl 3 rfl) ?_
  refine sC_11 hx hb hAB hP hD hS h.1 dX5_add_20 (fun tKi_74 H locs e_75 hP hD hS => ?_)
  have h := h.2
  have h := h tKi_74 e_75
  refine lv_aload_n hx hb dX5_add_21 rfl (lv_at hl 2 rfl) ?_
  refine va_get (D := D) (ci := 5) (C := RX5) (T := TX5) (N := 9) hx hb hts inn_X5_add_5 hown hAB.1 hP 10 rfl rfl 2 (by decide) (hts (.fieldLink RX5 15 "BarnBench$Tasks" "easy" "[I") (by decide +kernel)) (fun _ h9 => h9) rfl dX5_add_22 ?_
  refine lv_iload hx hb dX5_add_25 (lv_at hl 1 rfl) ?_
  refine lv_aload_n hx hb dX5_add_27 rfl (lv_at hl 4 rfl) ?_
  refine va_get (D := D) (ci := 2) (C := RX2) (T := TX2) (N := 3) hx hb hts inn_X5_add_2 hown hAB.1 hP (2 + (i * 2 + 0)) (gD_0 hi2) rfl 2 (by decide) (hts (.fieldLink RX5 43 "BarnBench$Board" "numbers" "[J") (by decide +kernel)) (fun _ h9 => h9) rfl dX5_add_28 ?_
  refine lv_iload_n hx hb dX5_add_31 rfl (lv_at hl 5 rfl) ?_
  refine va_lald hx hb hAB.1 hP (2 + (i * 2 + 1)) 1 (gD_1 hi2) rfl h.1 dX5_add_32 ?_
  have h := h.2
  refine lv_l2i hx hb dX5_add_33 rfl ?_
  refine sC_12 hx hb hAB hP hD hS h.1 dX5_add_34 (fun tEa_76 H locs e_77 hP hD hS => ?_)
  have h := h.2
  have h := h tEa_76 e_77
  refine lv_aload_n hx hb dX5_add_35 rfl (lv_at hl 2 rfl) ?_
  refine va_get (D := D) (ci := 5) (C := RX5) (T := TX5) (N := 9) hx hb hts inn_X5_add_5 hown hAB.1 hP 10 rfl rfl 3 (by decide) (hts (.fieldLink RX5 18 "BarnBench$Tasks" "hard" "[I") (by decide +kernel)) (fun _ h9 => h9) rfl dX5_add_36 ?_
  refine lv_iload hx hb dX5_add_39 (lv_at hl 1 rfl) ?_
  refine lv_iload hx hb dX5_add_41 (lv_at hl 0 rfl) ?_
  refine lv_iconst (v := 1) hx hb dX5_add_43 (by decide) ?_
  refine lv_icmp_le (tgt := 59) hx hb dX5_add_44 (by decide) (fun c_78 => ?_) (fun c_78 => ?_)
  · have h := h.1 c_78
    refine lv_aload_n hx hb dX5_add_59 rfl (lv_at hl 2 rfl) ?_
    refine va_get (D := D) (ci := 5) (C := RX5) (T := TX5) (N := 9) hx hb hts inn_X5_add_5 hown hAB.1 hP 10 rfl rfl 2 (by decide) (hts (.fieldLink RX5 15 "BarnBench$Tasks" "easy" "[I") (by decide +kernel)) (fun _ h9 => h9) rfl dX5_add_60 ?_
    refine lv_iload hx hb dX5_add_63 (lv_at hl 1 rfl) ?_
    refine va_iald hx hb hAB.1 hP 12 0 rfl rfl h.1 dX5_add_65 ?_
    have h := h.2
    exact B66 tC (tEa_76 (Int32.toNatClampNeg tC)) tC x5_72 tC tKi_74 tEa_76 tHa tPr tEx tSt tTo tBe h H locs ls hP hD hS (lv_sub hl [2, 4, 5, 1, 0] rfl)
  · have h := h.2 c_78
    refine lv_aload_n hx hb dX5_add_47 rfl (lv_at hl 4 rfl) ?_
    refine va_get (D := D) (ci := 2) (C := RX2) (T := TX2) (N := 3) hx hb hts inn_X5_add_2 hown hAB.1 hP (2 + (i * 2 + 0)) (gD_0 hi2) rfl 2 (by decide) (hts (.fieldLink RX5 43 "BarnBench$Board" "numbers" "[J") (by decide +kernel)) (fun _ h9 => h9) rfl dX5_add_48 ?_
    refine lv_iload_n hx hb dX5_add_51 rfl (lv_at hl 5 rfl) ?_
    refine lv_iconst (v := 1) hx hb dX5_add_52 (by decide) ?_
    refine lv_iadd hx hb dX5_add_53 ?_
    refine va_lald hx hb hAB.1 hP (2 + (i * 2 + 1)) 1 (gD_1 hi2) rfl h.1 dX5_add_54 ?_
    have h := h.2
    refine lv_l2i hx hb dX5_add_55 rfl ?_
    refine lv_goto (tgt := 66) hx hb dX5_add_56 (by decide) ?_
    exact B66 tC (Int64.toInt32 ((dN i) (Int32.toNatClampNeg (a3 + 1)))) tC x5_72 tC tKi_74 tEa_76 tHa tPr tEx tSt tTo tBe h H locs ls hP hD hS (lv_sub hl [2, 4, 5, 1, 0] rfl)
def wp_X5_become (tC : Int32) (tKi : Nat → Int32) (tEa : Nat → Int32) (tHa : Nat → Int32) (tPr : Nat → Int32) (tEx : Nat → Int32) (tSt : Nat → Int32) (tTo : Nat → Int32) (tBe : Nat → Int32) (kC : Int32) (kKi : Nat → Int32) (kEa : Nat → Int32) (kHa : Nat → Int32) (kPr : Nat → Int32) (kEx : Nat → Int32) (kSt : Nat → Int32) (kTo : Nat → Int32) (kBe : Nat → Int32)  (Qp : (Int32) → (Nat → Int32) → (Nat → Int32) → (Nat → Int32) → (Nat → Int32) → (Nat → Int32) → (Nat → Int32) → (Nat → Int32) → (Nat → Int32) → Prop) : Prop :=
  ∀ kC_1 : Int32, kC_1 = tC → ¬ (0 : Int32) < 0 ∧ ¬ (0 : Int32) < 0 ∧ ¬ (12 : Int32) < 0 ∧ (Int32.toNatClampNeg 0) + (Int32.toNatClampNeg 12) ≤ 12 ∧ (Int32.toNatClampNeg 0) + (Int32.toNatClampNeg 12) ≤ 12 ∧ ∀ kKi_4 : Nat → Int32, kKi_4 = va_cpy tKi kKi (Int32.toNatClampNeg 0) (Int32.toNatClampNeg 0) (Int32.toNatClampNeg 12) → ¬ (0 : Int32) < 0 ∧ ¬ (0 : Int32) < 0 ∧ ¬ (12 : Int32) < 0 ∧ (Int32.toNatClampNeg 0) + (Int32.toNatClampNeg 12) ≤ 12 ∧ (Int32.toNatClampNeg 0) + (Int32.toNatClampNeg 12) ≤ 12 ∧ ∀ kEa_6 : Nat → Int32, kEa_6 = va_cpy tEa kEa (Int32.toNatClampNeg 0) (Int32.toNatClampNeg 0) (Int32.toNatClampNeg 12) → ¬ (0 : Int32) < 0 ∧ ¬ (0 : Int32) < 0 ∧ ¬ (12 : Int32) < 0 ∧ (Int32.toNatClampNeg 0) + (Int32.toNatClampNeg 12) ≤ 12 ∧ (Int32.toNatClampNeg 0) + (Int32.toNatClampNeg 12) ≤ 12 ∧ ∀ kHa_8 : Nat → Int32, kHa_8 = va_cpy tHa kHa (Int32.toNatClampNeg 0) (Int32.toNatClampNeg 0) (Int32.toNatClampNeg 12) → ¬ (0 : Int32) < 0 ∧ ¬ (0 : Int32) < 0 ∧ ¬ (12 : Int32) < 0 ∧ (Int32.toNatClampNeg 0) + (Int32.toNatClampNeg 12) ≤ 12 ∧ (Int32.toNatClampNeg 0) + (Int32.toNatClampNeg 12) ≤ 12 ∧ ∀ kPr_10 : Nat → Int32, kPr_10 = va_cpy tPr kPr (Int32.toNatClampNeg 0) (Int32.toNatClampNeg 0) (Int32.toNatClampNeg 12) → ¬ (0 : Int32) < 0 ∧ ¬ (0 : Int32) < 0 ∧ ¬ (12 : Int32) < 0 ∧ (Int32.toNatClampNeg 0) + (Int32.toNatClampNeg 12) ≤ 12 ∧ (Int32.toNatClampNeg 0) + (Int32.toNatClampNeg 12) ≤ 12 ∧ ∀ kEx_12 : Nat → Int32, kEx_12 = va_cpy tEx kEx (Int32.toNatClampNeg 0) (Int32.toNatClampNeg 0) (Int32.toNatClampNeg 12) → ¬ (0 : Int32) < 0 ∧ ¬ (0 : Int32) < 0 ∧ ¬ (12 : Int32) < 0 ∧ (Int32.toNatClampNeg 0) + (Int32.toNatClampNeg 12) ≤ 12 ∧ (Int32.toNatClampNeg 0) + (Int32.toNatClampNeg 12) ≤ 12 ∧ ∀ kSt_14 : Nat → Int32, kSt_14 = va_cpy tSt kSt (Int32.toNatClampNeg 0) (Int32.toNatClampNeg 0) (Int32.toNatClampNeg 12) → ¬ (0 : Int32) < 0 ∧ ¬ (0 : Int32) < 0 ∧ ¬ (12 : Int32) < 0 ∧ (Int32.toNatClampNeg 0) + (Int32.toNatClampNeg 12) ≤ 12 ∧ (Int32.toNatClampNeg 0) + (Int32.toNatClampNeg 12) ≤ 12 ∧ ∀ kTo_16 : Nat → Int32, kTo_16 = va_cpy tTo kTo (Int32.toNatClampNeg 0) (Int32.toNatClampNeg 0) (Int32.toNatClampNeg 12) → ¬ (0 : Int32) < 0 ∧ ¬ (0 : Int32) < 0 ∧ ¬ (12 : Int32) < 0 ∧ (Int32.toNatClampNeg 0) + (Int32.toNatClampNeg 12) ≤ 12 ∧ (Int32.toNatClampNeg 0) + (Int32.toNatClampNeg 12) ≤ 12 ∧ ∀ kBe_18 : Nat → Int32, kBe_18 = va_cpy tBe kBe (Int32.toNatClampNeg 0) (Int32.toNatClampNeg 0) (Int32.toNatClampNeg 12) → Qp kC_1 kKi_4 kEa_6 kHa_8 kPr_10 kEx_12 kSt_14 kTo_16 kBe_18
theorem inn_X5_become_5 : ∀ w ∈ u_ws RX5 TX5 9, w ∈ wsX5_become := fun _ h => List.mem_cons_of_mem _ (List.mem_append_right _ h)
def rm_X5_become : Room := { frames := 1, cells := 0, slots := 0, locals := 60 }
set_option maxHeartbeats 4000000 in
set_option maxRecDepth 100000 in
theorem ct_X5_become_1 {l : Launch} {D : va_G} {cI cJ cZ cE cD cK : ClassId} {ad : Nat → Nat} {bd dd : Nat → Nat → Nat} {bHK : Int32} {bHP : Int32} {bPF : Int32} {bWC : Int32} {bRi : Int32} {bBe : Int32} {bFi : Int32} {bWa : Nat → Int32} {dB : Nat → Int32} {dS : Nat → Int32} {dN : Nat → Nat → Int64} {tC : Int32} {tKi : Nat → Int32} {tEa : Nat → Int32} {tHa : Nat → Int32} {tPr : Nat → Int32} {tEx : Nat → Int32} {tSt : Nat → Int32} {tTo : Nat → Int32} {tBe : Nat → Int32} {kC : Int32} {kKi : Nat → Int32} {kEa : Nat → Int32} {kHa : Nat → Int32} {kPr : Nat → Int32} {kEx : Nat → Int32} {kSt : Nat → Int32} {kTo : Nat → Int32} {kBe : Nat → Int32} {aC : Int32} {aWh : Nat → Int32} {aTa : Nat → Int32} {aWa : Nat → Int32} {iRo : Nat → Int32} {iEa : Nat → Int32} {iLa : Nat → Int32} {cC : Int32} {nC : Int32} {nFo : Int32} {nQd : Int32} {nRo : Nat → Int32} {nBe : Nat → Int32} {nEa : Nat → Int32} {nMi : Nat → Int32} {nHa : Nat → Int32} {nER : Nat → Int32} {nMR : Nat → Int32} {nTh : Nat → Int32} {nPa : Nat → Int32} {nOu : Nat → Int32} {nFr : Nat → Int32} {nQu : Nat → Int32} {eM : Nat} {eL : Nat → Int32} {eC : Nat → Int64} {eS : Nat → Int64} {eB : Nat → Nat → Int32} {eE : Nat → Nat → Int32} {eF : Nat → Nat → Int32} {eG : Nat → Nat → Int32}    {Qp : (Int32) → (Nat → Int32) → (Nat → Int32) → (Nat → Int32) → (Nat → Int32) → (Nat → Int32) → (Nat → Int32) → (Nat → Int32) → (Nat → Int32) → Prop}   (h : wp_X5_become tC tKi tEa tHa tPr tEx tSt tTo tBe kC kKi kEa kHa kPr kEx kSt kTo kBe Qp) : CTv l yX5_become wsX5_become rm_X5_become D (tyL cI cJ cZ cE cD cK) [.ref (ad 19), .ref (ad 10)] (WC cI cJ cE cD ad bd dd bHK bHP bPF bWC bRi bBe bFi bWa dB dS dN tC tKi tEa tHa tPr tEx tSt tTo tBe kC kKi kEa kHa kPr kEx kSt kTo kBe aC aWh aTa aWa iRo iEa iLa cC nC nFo nQd nRo nBe nEa nMi nHa nER nMR nTh nPa nOu nFr nQu eM eL eC eS eB eE eF eG) (fun u : (Int32) × (Nat → Int32) × (Nat → Int32) × (Nat → Int32) × (Nat → Int32) × (Nat → Int32) × (Nat → Int32) × (Nat → Int32) × (Nat → Int32) => Qp u.1 u.2.1 u.2.2.1 u.2.2.2.1 u.2.2.2.2.1 u.2.2.2.2.2.1 u.2.2.2.2.2.2.1 u.2.2.2.2.2.2.2.1 u.2.2.2.2.2.2.2.2) (fun u : (Int32) × (Nat → Int32) × (Nat → Int32) × (Nat → Int32) × (Nat → Int32) × (Nat → Int32) × (Nat → Int32) × (Nat → Int32) × (Nat → Int32) => (WC cI cJ cE cD ad bd dd bHK bHP bPF bWC bRi bBe bFi bWa dB dS dN tC tKi tEa tHa tPr tEx tSt tTo tBe u.1 u.2.1 u.2.2.1 u.2.2.2.1 u.2.2.2.2.1 u.2.2.2.2.2.1 u.2.2.2.2.2.2.1 u.2.2.2.2.2.2.2.1 u.2.2.2.2.2.2.2.2 aC aWh aTa aWa iRo iEa iLa cC nC nFo nQd nRo nBe nEa nMi nHa nER nMR nTh nPa nOu nFr nQu eM eL eC eS eB eE eF eG)) 0 0 := by
  refine ent_v (cc := cX5_become) (maxL := 2) (ret := none) (by decide) rfl (Nat.le_of_ble_eq_true rfl) ?_
  intro p e s m args below meth c A Q hQ hx hb hr hml hown hts hlk hA hAB hP hD hS ls hl
  have hown : s.vm.findClass RX5 = some m.cls := hown
  have hl : lv_has ls 2 [(0, .ref (ad 19)), (1, .ref (ad 10))] := hl
  generalize hH : s.heap = H at hP ⊢
  have hS : va_S A s.heap H [] := by rw [← hH]; exact hS
  clear hH
  generalize ([] : List Loc) = locs at hS ⊢
  refine lv_aload_n hx hb dX5_become_0 rfl (lv_at hl 0 rfl) ?_
  refine lv_aload_n hx hb dX5_become_1 rfl (lv_at hl 1 rfl) ?_
  refine va_get (D := D) (ci := 5) (C := RX5) (T := TX5) (N := 9) hx hb hts inn_X5_become_5 hown hAB.1 hP 10 rfl rfl 0 (by decide) (hts (.fieldLink RX5 36 "BarnBench$Tasks" "count" "I") (by decide +kernel)) (fun _ h9 => h9) rfl dX5_become_2 ?_
  refine fC_19_count hx hb hAB hP hD hS hts inn_X5_become_5 hown (hts (.fieldLink RX5 36 "BarnBench$Tasks" "count" "I") (by decide +kernel)) dX5_become_5 (fun kC_1 H locs e_2 hP hD hS => ?_)
  have h := h kC_1 e_2
  refine lv_aload_n hx hb dX5_become_8 rfl (lv_at hl 1 rfl) ?_
  refine va_get (D := D) (ci := 5) (C := RX5) (T := TX5) (N := 9) hx hb hts inn_X5_become_5 hown hAB.1 hP 10 rfl rfl 1 (by decide) (hts (.fieldLink RX5 9 "BarnBench$Tasks" "kind" "[I") (by decide +kernel)) (fun _ h9 => h9) rfl dX5_become_9 ?_
  refine lv_iconst (v := 0) hx hb dX5_become_12 (by decide) ?_
  refine lv_aload_n hx hb dX5_become_13 rfl (lv_at hl 0 rfl) ?_
  refine va_get (D := D) (ci := 5) (C := RX5) (T := TX5) (N := 9) hx hb hts inn_X5_become_5 hown hAB.1 hP 19 rfl rfl 1 (by decide) (hts (.fieldLink RX5 9 "BarnBench$Tasks" "kind" "[I") (by decide +kernel)) (fun _ h9 => h9) rfl dX5_become_14 ?_
  refine lv_iconst (v := 0) hx hb dX5_become_17 (by decide) ?_
  refine lv_bipush (v := 12) hx hb dX5_become_18 (by decide) ?_
  refine va_copyi (rest := []) hx hb (by rw [hml]; exact hl.1.symm) hown (hts (.methodLink RX5 49 arraycopyName) (by decide +kernel)) (hts (.native arraycopyName) (by decide +kernel)) (hts (.static arraycopyName) (by decide +kernel)) (hts (.initialized "java/lang/System") (by decide +kernel)) hAB.1 hP hD hS 11 20 0 0 rfl rfl rfl rfl rfl h.1 h.2.1 h.2.2.1 h.2.2.2.1 h.2.2.2.2.1 (fun _ _ => rfl) (Nat.le_of_ble_eq_true rfl) (Nat.le_of_ble_eq_true rfl) dX5_become_20 (fun H locs hP hD hS => ?_)
  have h := h.2.2.2.2.2
  obtain ⟨kKi_4, e_3⟩ : ∃ z, z = va_cpy tKi kKi (Int32.toNatClampNeg 0) (Int32.toNatClampNeg 0) (Int32.toNatClampNeg 12) := ⟨_, rfl⟩
  have hP : va_P D vwCl (WC cI cJ cE cD ad bd dd bHK bHP bPF bWC bRi bBe bFi bWa dB dS dN tC tKi tEa tHa tPr tEx tSt tTo tBe kC_1 kKi_4 kEa kHa kPr kEx kSt kTo kBe aC aWh aTa aWa iRo iEa iLa cC nC nFo nQd nRo nBe nEa nMi nHa nER nMR nTh nPa nOu nFr nQu eM eL eC eS eB eE eF eG) H := by rw [e_3]; exact hP
  have hD : va_D A (WC cI cJ cE cD ad bd dd bHK bHP bPF bWC bRi bBe bFi bWa dB dS dN tC tKi tEa tHa tPr tEx tSt tTo tBe kC_1 kKi_4 kEa kHa kPr kEx kSt kTo kBe aC aWh aTa aWa iRo iEa iLa cC nC nFo nQd nRo nBe nEa nMi nHa nER nMR nTh nPa nOu nFr nQu eM eL eC eS eB eE eF eG) := by rw [e_3]; exact hD
  have h := h kKi_4 e_3
  refine lv_aload_n hx hb dX5_become_23 rfl (lv_at hl 1 rfl) ?_
  refine va_get (D := D) (ci := 5) (C := RX5) (T := TX5) (N := 9) hx hb hts inn_X5_become_5 hown hAB.1 hP 10 rfl rfl 2 (by decide) (hts (.fieldLink RX5 15 "BarnBench$Tasks" "easy" "[I") (by decide +kernel)) (fun _ h9 => h9) rfl dX5_become_24 ?_
  refine lv_iconst (v := 0) hx hb dX5_become_27 (by decide) ?_
  refine lv_aload_n hx hb dX5_become_28 rfl (lv_at hl 0 rfl) ?_
  refine va_get (D := D) (ci := 5) (C := RX5) (T := TX5) (N := 9) hx hb hts inn_X5_become_5 hown hAB.1 hP 19 rfl rfl 2 (by decide) (hts (.fieldLink RX5 15 "BarnBench$Tasks" "easy" "[I") (by decide +kernel)) (fun _ h9 => h9) rfl dX5_become_29 ?_
  refine lv_iconst (v := 0) hx hb dX5_become_32 (by decide) ?_
  refine lv_bipush (v := 12) hx hb dX5_become_33 (by decide) ?_
  refine va_copyi (rest := []) hx hb (by rw [hml]; exact hl.1.symm) hown (hts (.methodLink RX5 49 arraycopyName) (by decide +kernel)) (hts (.native arraycopyName) (by decide +kernel)) (hts (.static arraycopyName) (by decide +kernel)) (hts (.initialized "java/lang/System") (by decide +kernel)) hAB.1 hP hD hS 12 21 0 0 rfl rfl rfl rfl rfl h.1 h.2.1 h.2.2.1 h.2.2.2.1 h.2.2.2.2.1 (fun _ _ => rfl) (Nat.le_of_ble_eq_true rfl) (Nat.le_of_ble_eq_true rfl) dX5_become_35 (fun H locs hP hD hS => ?_)
  have h := h.2.2.2.2.2
  obtain ⟨kEa_6, e_5⟩ : ∃ z, z = va_cpy tEa kEa (Int32.toNatClampNeg 0) (Int32.toNatClampNeg 0) (Int32.toNatClampNeg 12) := ⟨_, rfl⟩
  have hP : va_P D vwCl (WC cI cJ cE cD ad bd dd bHK bHP bPF bWC bRi bBe bFi bWa dB dS dN tC tKi tEa tHa tPr tEx tSt tTo tBe kC_1 kKi_4 kEa_6 kHa kPr kEx kSt kTo kBe aC aWh aTa aWa iRo iEa iLa cC nC nFo nQd nRo nBe nEa nMi nHa nER nMR nTh nPa nOu nFr nQu eM eL eC eS eB eE eF eG) H := by rw [e_5]; exact hP
  have hD : va_D A (WC cI cJ cE cD ad bd dd bHK bHP bPF bWC bRi bBe bFi bWa dB dS dN tC tKi tEa tHa tPr tEx tSt tTo tBe kC_1 kKi_4 kEa_6 kHa kPr kEx kSt kTo kBe aC aWh aTa aWa iRo iEa iLa cC nC nFo nQd nRo nBe nEa nMi nHa nER nMR nTh nPa nOu nFr nQu eM eL eC eS eB eE eF eG) := by rw [e_5]; exact hD
  have h := h kEa_6 e_5
  refine lv_aload_n hx hb dX5_become_38 rfl (lv_at hl 1 rfl) ?_
  refine va_get (D := D) (ci := 5) (C := RX5) (T := TX5) (N := 9) hx hb hts inn_X5_become_5 hown hAB.1 hP 10 rfl rfl 3 (by decide) (hts (.fieldLink RX5 18 "BarnBench$Tasks" "hard" "[I") (by decide +kernel)) (fun _ h9 => h9) rfl dX5_become_39 ?_
  refine lv_iconst (v := 0) hx hb dX5_become_42 (by decide) ?_
  refine lv_aload_n hx hb dX5_become_43 rfl (lv_at hl 0 rfl) ?_
  refine va_get (D := D) (ci := 5) (C := RX5) (T := TX5) (N := 9) hx hb hts inn_X5_become_5 hown hAB.1 hP 19 rfl rfl 3 (by decide) (hts (.fieldLink RX5 18 "BarnBench$Tasks" "hard" "[I") (by decide +kernel)) (fun _ h9 => h9) rfl dX5_become_44 ?_
  refine lv_iconst (v := 0) hx hb dX5_become_47 (by decide) ?_
  refine lv_bipush (v := 12) hx hb dX5_become_48 (by decide) ?_
  refine va_copyi (rest := []) hx hb (by rw [hml]; exact hl.1.symm) hown (hts (.methodLink RX5 49 arraycopyName) (by decide +kernel)) (hts (.native arraycopyName) (by decide +kernel)) (hts (.static arraycopyName) (by decide +kernel)) (hts (.initialized "java/lang/System") (by decide +kernel)) hAB.1 hP hD hS 13 22 0 0 rfl rfl rfl rfl rfl h.1 h.2.1 h.2.2.1 h.2.2.2.1 h.2.2.2.2.1 (fun _ _ => rfl) (Nat.le_of_ble_eq_true rfl) (Nat.le_of_ble_eq_true rfl) dX5_become_50 (fun H locs hP hD hS => ?_)
  have h := h.2.2.2.2.2
  obtain ⟨kHa_8, e_7⟩ : ∃ z, z = va_cpy tHa kHa (Int32.toNatClampNeg 0) (Int32.toNatClampNeg 0) (Int32.toNatClampNeg 12) := ⟨_, rfl⟩
  have hP : va_P D vwCl (WC cI cJ cE cD ad bd dd bHK bHP bPF bWC bRi bBe bFi bWa dB dS dN tC tKi tEa tHa tPr tEx tSt tTo tBe kC_1 kKi_4 kEa_6 kHa_8 kPr kEx kSt kTo kBe aC aWh aTa aWa iRo iEa iLa cC nC nFo nQd nRo nBe nEa nMi nHa nER nMR nTh nPa nOu nFr nQu eM eL eC eS eB eE eF eG) H := by rw [e_7]; exact hP
  have hD : va_D A (WC cI cJ cE cD ad bd dd bHK bHP bPF bWC bRi bBe bFi bWa dB dS dN tC tKi tEa tHa tPr tEx tSt tTo tBe kC_1 kKi_4 kEa_6 kHa_8 kPr kEx kSt kTo kBe aC aWh aTa aWa iRo iEa iLa cC nC nFo nQd nRo nBe nEa nMi nHa nER nMR nTh nPa nOu nFr nQu eM eL eC eS eB eE eF eG) := by rw [e_7]; exact hD
  have h := h kHa_8 e_7
  refine lv_aload_n hx hb dX5_become_53 rfl (lv_at hl 1 rfl) ?_
  refine va_get (D := D) (ci := 5) (C := RX5) (T := TX5) (N := 9) hx hb hts inn_X5_become_5 hown hAB.1 hP 10 rfl rfl 4 (by decide) (hts (.fieldLink RX5 21 "BarnBench$Tasks" "price" "[I") (by decide +kernel)) (fun _ h9 => h9) rfl dX5_become_54 ?_
  refine lv_iconst (v := 0) hx hb dX5_become_57 (by decide) ?_
  refine lv_aload_n hx hb dX5_become_58 rfl (lv_at hl 0 rfl) ?_
  refine va_get (D := D) (ci := 5) (C := RX5) (T := TX5) (N := 9) hx hb hts inn_X5_become_5 hown hAB.1 hP 19 rfl rfl 4 (by decide) (hts (.fieldLink RX5 21 "BarnBench$Tasks" "price" "[I") (by decide +kernel)) (fun _ h9 => h9) rfl dX5_become_59 ?_
  refine lv_iconst (v := 0) hx hb dX5_become_62 (by decide) ?_
  refine lv_bipush (v := 12) hx hb dX5_become_63 (by decide) ?_
  refine va_copyi (rest := []) hx hb (by rw [hml]; exact hl.1.symm) hown (hts (.methodLink RX5 49 arraycopyName) (by decide +kernel)) (hts (.native arraycopyName) (by decide +kernel)) (hts (.static arraycopyName) (by decide +kernel)) (hts (.initialized "java/lang/System") (by decide +kernel)) hAB.1 hP hD hS 14 23 0 0 rfl rfl rfl rfl rfl h.1 h.2.1 h.2.2.1 h.2.2.2.1 h.2.2.2.2.1 (fun _ _ => rfl) (Nat.le_of_ble_eq_true rfl) (Nat.le_of_ble_eq_true rfl) dX5_become_65 (fun H locs hP hD hS => ?_)
  have h := h.2.2.2.2.2
  obtain ⟨kPr_10, e_9⟩ : ∃ z, z = va_cpy tPr kPr (Int32.toNatClampNeg 0) (Int32.toNatClampNeg 0) (Int32.toNatClampNeg 12) := ⟨_, rfl⟩
  have hP : va_P D vwCl (WC cI cJ cE cD ad bd dd bHK bHP bPF bWC bRi bBe bFi bWa dB dS dN tC tKi tEa tHa tPr tEx tSt tTo tBe kC_1 kKi_4 kEa_6 kHa_8 kPr_10 kEx kSt kTo kBe aC aWh aTa aWa iRo iEa iLa cC nC nFo nQd nRo nBe nEa nMi nHa nER nMR nTh nPa nOu nFr nQu eM eL eC eS eB eE eF eG) H := by rw [e_9]; exact hP
  have hD : va_D A (WC cI cJ cE cD ad bd dd bHK bHP bPF bWC bRi bBe bFi bWa dB dS dN tC tKi tEa tHa tPr tEx tSt tTo tBe kC_1 kKi_4 kEa_6 kHa_8 kPr_10 kEx kSt kTo kBe aC aWh aTa aWa iRo iEa iLa cC nC nFo nQd nRo nBe nEa nMi nHa nER nMR nTh nPa nOu nFr nQu eM eL eC eS eB eE eF eG) := by rw [e_9]; exact hD
  have h := h kPr_10 e_9
  refine lv_aload_n hx hb dX5_become_68 rfl (lv_at hl 1 rfl) ?_
  refine va_get (D := D) (ci := 5) (C := RX5) (T := TX5) (N := 9) hx hb hts inn_X5_become_5 hown hAB.1 hP 10 rfl rfl 5 (by decide) (hts (.fieldLink RX5 24 "BarnBench$Tasks" "extra" "[I") (by decide +kernel)) (fun _ h9 => h9) rfl dX5_become_69 ?_
  refine lv_iconst (v := 0) hx hb dX5_become_72 (by decide) ?_
  refine lv_aload_n hx hb dX5_become_73 rfl (lv_at hl 0 rfl) ?_
  refine va_get (D := D) (ci := 5) (C := RX5) (T := TX5) (N := 9) hx hb hts inn_X5_become_5 hown hAB.1 hP 19 rfl rfl 5 (by decide) (hts (.fieldLink RX5 24 "BarnBench$Tasks" "extra" "[I") (by decide +kernel)) (fun _ h9 => h9) rfl dX5_become_74 ?_
  refine lv_iconst (v := 0) hx hb dX5_become_77 (by decide) ?_
  refine lv_bipush (v := 12) hx hb dX5_become_78 (by decide) ?_
  refine va_copyi (rest := []) hx hb (by rw [hml]; exact hl.1.symm) hown (hts (.methodLink RX5 49 arraycopyName) (by decide +kernel)) (hts (.native arraycopyName) (by decide +kernel)) (hts (.static arraycopyName) (by decide +kernel)) (hts (.initialized "java/lang/System") (by decide +kernel)) hAB.1 hP hD hS 15 24 0 0 rfl rfl rfl rfl rfl h.1 h.2.1 h.2.2.1 h.2.2.2.1 h.2.2.2.2.1 (fun _ _ => rfl) (Nat.le_of_ble_eq_true rfl) (Nat.le_of_ble_eq_true rfl) dX5_become_80 (fun H locs hP hD hS => ?_)
  have h := h.2.2.2.2.2
  obtain ⟨kEx_12, e_11⟩ : ∃ z, z = va_cpy tEx kEx (Int32.toNatClampNeg 0) (Int32.toNatClampNeg 0) (Int32.toNatClampNeg 12) := ⟨_, rfl⟩
  have hP : va_P D vwCl (WC cI cJ cE cD ad bd dd bHK bHP bPF bWC bRi bBe bFi bWa dB dS dN tC tKi tEa tHa tPr tEx tSt tTo tBe kC_1 kKi_4 kEa_6 kHa_8 kPr_10 kEx_12 kSt kTo kBe aC aWh aTa aWa iRo iEa iLa cC nC nFo nQd nRo nBe nEa nMi nHa nER nMR nTh nPa nOu nFr nQu eM eL eC eS eB eE eF eG) H := by rw [e_11]; exact hP
  have hD : va_D A (WC cI cJ cE cD ad bd dd bHK bHP bPF bWC bRi bBe bFi bWa dB dS dN tC tKi tEa tHa tPr tEx tSt tTo tBe kC_1 kKi_4 kEa_6 kHa_8 kPr_10 kEx_12 kSt kTo kBe aC aWh aTa aWa iRo iEa iLa cC nC nFo nQd nRo nBe nEa nMi nHa nER nMR nTh nPa nOu nFr nQu eM eL eC eS eB eE eF eG) := by rw [e_11]; exact hD
  have h := h kEx_12 e_11
  refine lv_aload_n hx hb dX5_become_83 rfl (lv_at hl 1 rfl) ?_
  refine va_get (D := D) (ci := 5) (C := RX5) (T := TX5) (N := 9) hx hb hts inn_X5_become_5 hown hAB.1 hP 10 rfl rfl 6 (by decide) (hts (.fieldLink RX5 27 "BarnBench$Tasks" "step" "[I") (by decide +kernel)) (fun _ h9 => h9) rfl dX5_become_84 ?_
  refine lv_iconst (v := 0) hx hb dX5_become_87 (by decide) ?_
  refine lv_aload_n hx hb dX5_become_88 rfl (lv_at hl 0 rfl) ?_
  refine va_get (D := D) (ci := 5) (C := RX5) (T := TX5) (N := 9) hx hb hts inn_X5_become_5 hown hAB.1 hP 19 rfl rfl 6 (by decide) (hts (.fieldLink RX5 27 "BarnBench$Tasks" "step" "[I") (by decide +kernel)) (fun _ h9 => h9) rfl dX5_become_89 ?_
  refine lv_iconst (v := 0) hx hb dX5_become_92 (by decide) ?_
  refine lv_bipush (v := 12) hx hb dX5_become_93 (by decide) ?_
  refine va_copyi (rest := []) hx hb (by rw [hml]; exact hl.1.symm) hown (hts (.methodLink RX5 49 arraycopyName) (by decide +kernel)) (hts (.native arraycopyName) (by decide +kernel)) (hts (.static arraycopyName) (by decide +kernel)) (hts (.initialized "java/lang/System") (by decide +kernel)) hAB.1 hP hD hS 16 25 0 0 rfl rfl rfl rfl rfl h.1 h.2.1 h.2.2.1 h.2.2.2.1 h.2.2.2.2.1 (fun _ _ => rfl) (Nat.le_of_ble_eq_true rfl) (Nat.le_of_ble_eq_true rfl) dX5_become_95 (fun H locs hP hD hS => ?_)
  have h := h.2.2.2.2.2
  obtain ⟨kSt_14, e_13⟩ : ∃ z, z = va_cpy tSt kSt (Int32.toNatClampNeg 0) (Int32.toNatClampNeg 0) (Int32.toNatClampNeg 12) := ⟨_, rfl⟩
  have hP : va_P D vwCl (WC cI cJ cE cD ad bd dd bHK bHP bPF bWC bRi bBe bFi bWa dB dS dN tC tKi tEa tHa tPr tEx tSt tTo tBe kC_1 kKi_4 kEa_6 kHa_8 kPr_10 kEx_12 kSt_14 kTo kBe aC aWh aTa aWa iRo iEa iLa cC nC nFo nQd nRo nBe nEa nMi nHa nER nMR nTh nPa nOu nFr nQu eM eL eC eS eB eE eF eG) H := by rw [e_13]; exact hP
  have hD : va_D A (WC cI cJ cE cD ad bd dd bHK bHP bPF bWC bRi bBe bFi bWa dB dS dN tC tKi tEa tHa tPr tEx tSt tTo tBe kC_1 kKi_4 kEa_6 kHa_8 kPr_10 kEx_12 kSt_14 kTo kBe aC aWh aTa aWa iRo iEa iLa cC nC nFo nQd nRo nBe nEa nMi nHa nER nMR nTh nPa nOu nFr nQu eM eL eC eS eB eE eF eG) := by rw [e_13]; exact hD
  have h := h kSt_14 e_13
  refine lv_aload_n hx hb dX5_become_98 rfl (lv_at hl 1 rfl) ?_
  refine va_get (D := D) (ci := 5) (C := RX5) (T := TX5) (N := 9) hx hb hts inn_X5_become_5 hown hAB.1 hP 10 rfl rfl 7 (by decide) (hts (.fieldLink RX5 30 "BarnBench$Tasks" "told" "[I") (by decide +kernel)) (fun _ h9 => h9) rfl dX5_become_99 ?_
  refine lv_iconst (v := 0) hx hb dX5_become_102 (by decide) ?_
  refine lv_aload_n hx hb dX5_become_103 rfl (lv_at hl 0 rfl) ?_
  refine va_get (D := D) (ci := 5) (C := RX5) (T := TX5) (N := 9) hx hb hts inn_X5_become_5 hown hAB.1 hP 19 rfl rfl 7 (by decide) (hts (.fieldLink RX5 30 "BarnBench$Tasks" "told" "[I") (by decide +kernel)) (fun _ h9 => h9) rfl dX5_become_104 ?_
  refine lv_iconst (v := 0) hx hb dX5_become_107 (by decide) ?_
  refine lv_bipush (v := 12) hx hb dX5_become_108 (by decide) ?_
  refine va_copyi (rest := []) hx hb (by rw [hml]; exact hl.1.symm) hown (hts (.methodLink RX5 49 arraycopyName) (by decide +kernel)) (hts (.native arraycopyName) (by decide +kernel)) (hts (.static arraycopyName) (by decide +kernel)) (hts (.initialized "java/lang/System") (by decide +kernel)) hAB.1 hP hD hS 17 26 0 0 rfl rfl rfl rfl rfl h.1 h.2.1 h.2.2.1 h.2.2.2.1 h.2.2.2.2.1 (fun _ _ => rfl) (Nat.le_of_ble_eq_true rfl) (Nat.le_of_ble_eq_true rfl) dX5_become_110 (fun H locs hP hD hS => ?_)
  have h := h.2.2.2.2.2
  obtain ⟨kTo_16, e_15⟩ : ∃ z, z = va_cpy tTo kTo (Int32.toNatClampNeg 0) (Int32.toNatClampNeg 0) (Int32.toNatClampNeg 12) := ⟨_, rfl⟩
  have hP : va_P D vwCl (WC cI cJ cE cD ad bd dd bHK bHP bPF bWC bRi bBe bFi bWa dB dS dN tC tKi tEa tHa tPr tEx tSt tTo tBe kC_1 kKi_4 kEa_6 kHa_8 kPr_10 kEx_12 kSt_14 kTo_16 kBe aC aWh aTa aWa iRo iEa iLa cC nC nFo nQd nRo nBe nEa nMi nHa nER nMR nTh nPa nOu nFr nQu eM eL eC eS eB eE eF eG) H := by rw [e_15]; exact hP
  have hD : va_D A (WC cI cJ cE cD ad bd dd bHK bHP bPF bWC bRi bBe bFi bWa dB dS dN tC tKi tEa tHa tPr tEx tSt tTo tBe kC_1 kKi_4 kEa_6 kHa_8 kPr_10 kEx_12 kSt_14 kTo_16 kBe aC aWh aTa aWa iRo iEa iLa cC nC nFo nQd nRo nBe nEa nMi nHa nER nMR nTh nPa nOu nFr nQu eM eL eC eS eB eE eF eG) := by rw [e_15]; exact hD
  have h := h kTo_16 e_15
  refine lv_aload_n hx hb dX5_become_113 rfl (lv_at hl 1 rfl) ?_
  refine va_get (D := D) (ci := 5) (C := RX5) (T := TX5) (N := 9) hx hb hts inn_X5_become_5 hown hAB.1 hP 10 rfl rfl 8 (by decide) (hts (.fieldLink RX5 33 "BarnBench$Tasks" "before" "[I") (by decide +kernel)) (fun _ h9 => h9) rfl dX5_become_114 ?_
  refine lv_iconst (v := 0) hx hb dX5_become_117 (by decide) ?_
  refine lv_aload_n hx hb dX5_become_118 rfl (lv_at hl 0 rfl) ?_
  refine va_get (D := D) (ci := 5) (C := RX5) (T := TX5) (N := 9) hx hb hts inn_X5_become_5 hown hAB.1 hP 19 rfl rfl 8 (by decide) (hts (.fieldLink RX5 33 "BarnBench$Tasks" "before" "[I") (by decide +kernel)) (fun _ h9 => h9) rfl dX5_become_119 ?_
  refine lv_iconst (v := 0) hx hb dX5_become_122 (by decide) ?_
  refine lv_bipush (v := 12) hx hb dX5_become_123 (by decide) ?_
  refine va_copyi (rest := []) hx hb (by rw [hml]; exact hl.1.symm) hown (hts (.methodLink RX5 49 arraycopyName) (by decide +kernel)) (hts (.native arraycopyName) (by decide +kernel)) (hts (.static arraycopyName) (by decide +kernel)) (hts (.initialized "java/lang/System") (by decide +kernel)) hAB.1 hP hD hS 18 27 0 0 rfl rfl rfl rfl rfl h.1 h.2.1 h.2.2.1 h.2.2.2.1 h.2.2.2.2.1 (fun _ _ => rfl) (Nat.le_of_ble_eq_true rfl) (Nat.le_of_ble_eq_true rfl) dX5_become_125 (fun H locs hP hD hS => ?_)
  have h := h.2.2.2.2.2
  obtain ⟨kBe_18, e_17⟩ : ∃ z, z = va_cpy tBe kBe (Int32.toNatClampNeg 0) (Int32.toNatClampNeg 0) (Int32.toNatClampNeg 12) := ⟨_, rfl⟩
  have hP : va_P D vwCl (WC cI cJ cE cD ad bd dd bHK bHP bPF bWC bRi bBe bFi bWa dB dS dN tC tKi tEa tHa tPr tEx tSt tTo tBe kC_1 kKi_4 kEa_6 kHa_8 kPr_10 kEx_12 kSt_14 kTo_16 kBe_18 aC aWh aTa aWa iRo iEa iLa cC nC nFo nQd nRo nBe nEa nMi nHa nER nMR nTh nPa nOu nFr nQu eM eL eC eS eB eE eF eG) H := by rw [e_17]; exact hP
  have hD : va_D A (WC cI cJ cE cD ad bd dd bHK bHP bPF bWC bRi bBe bFi bWa dB dS dN tC tKi tEa tHa tPr tEx tSt tTo tBe kC_1 kKi_4 kEa_6 kHa_8 kPr_10 kEx_12 kSt_14 kTo_16 kBe_18 aC aWh aTa aWa iRo iEa iLa cC nC nFo nQd nRo nBe nEa nMi nHa nER nMR nTh nPa nOu nFr nQu eM eL eC eS eB eE eF eG) := by rw [e_17]; exact hD
  have h := h kBe_18 e_17
  exact rt_v (kC_1, kKi_4, kEa_6, kHa_8, kPr_10, kEx_12, kSt_14, kTo_16, kBe_18) hQ hx hb hr hlk hP hD hS ⟨Nat.zero_le _, Nat.zero_le _⟩ dX5_become_128 h
def wp_X5_become_2 (tC : Int32) (tKi : Nat → Int32) (tEa : Nat → Int32) (tHa : Nat → Int32) (tPr : Nat → Int32) (tEx : Nat → Int32) (tSt : Nat → Int32) (tTo : Nat → Int32) (tBe : Nat → Int32) (kC : Int32) (kKi : Nat → Int32) (kEa : Nat → Int32) (kHa : Nat → Int32) (kPr : Nat → Int32) (kEx : Nat → Int32) (kSt : Nat → Int32) (kTo : Nat → Int32) (kBe : Nat → Int32)  (Qp : (Int32) → (Nat → Int32) → (Nat → Int32) → (Nat → Int32) → (Nat → Int32) → (Nat → Int32) → (Nat → Int32) → (Nat → Int32) → (Nat → Int32) → Prop) : Prop :=
  ∀ tC_1 : Int32, tC_1 = kC → ¬ (0 : Int32) < 0 ∧ ¬ (0 : Int32) < 0 ∧ ¬ (12 : Int32) < 0 ∧ (Int32.toNatClampNeg 0) + (Int32.toNatClampNeg 12) ≤ 12 ∧ (Int32.toNatClampNeg 0) + (Int32.toNatClampNeg 12) ≤ 12 ∧ ∀ tKi_4 : Nat → Int32, tKi_4 = va_cpy kKi tKi (Int32.toNatClampNeg 0) (Int32.toNatClampNeg 0) (Int32.toNatClampNeg 12) → ¬ (0 : Int32) < 0 ∧ ¬ (0 : Int32) < 0 ∧ ¬ (12 : Int32) < 0 ∧ (Int32.toNatClampNeg 0) + (Int32.toNatClampNeg 12) ≤ 12 ∧ (Int32.toNatClampNeg 0) + (Int32.toNatClampNeg 12) ≤ 12 ∧ ∀ tEa_6 : Nat → Int32, tEa_6 = va_cpy kEa tEa (Int32.toNatClampNeg 0) (Int32.toNatClampNeg 0) (Int32.toNatClampNeg 12) → ¬ (0 : Int32) < 0 ∧ ¬ (0 : Int32) < 0 ∧ ¬ (12 : Int32) < 0 ∧ (Int32.toNatClampNeg 0) + (Int32.toNatClampNeg 12) ≤ 12 ∧ (Int32.toNatClampNeg 0) + (Int32.toNatClampNeg 12) ≤ 12 ∧ ∀ tHa_8 : Nat → Int32, tHa_8 = va_cpy kHa tHa (Int32.toNatClampNeg 0) (Int32.toNatClampNeg 0) (Int32.toNatClampNeg 12) → ¬ (0 : Int32) < 0 ∧ ¬ (0 : Int32) < 0 ∧ ¬ (12 : Int32) < 0 ∧ (Int32.toNatClampNeg 0) + (Int32.toNatClampNeg 12) ≤ 12 ∧ (Int32.toNatClampNeg 0) + (Int32.toNatClampNeg 12) ≤ 12 ∧ ∀ tPr_10 : Nat → Int32, tPr_10 = va_cpy kPr tPr (Int32.toNatClampNeg 0) (Int32.toNatClampNeg 0) (Int32.toNatClampNeg 12) → ¬ (0 : Int32) < 0 ∧ ¬ (0 : Int32) < 0 ∧ ¬ (12 : Int32) < 0 ∧ (Int32.toNatClampNeg 0) + (Int32.toNatClampNeg 12) ≤ 12 ∧ (Int32.toNatClampNeg 0) + (Int32.toNatClampNeg 12) ≤ 12 ∧ ∀ tEx_12 : Nat → Int32, tEx_12 = va_cpy kEx tEx (Int32.toNatClampNeg 0) (Int32.toNatClampNeg 0) (Int32.toNatClampNeg 12) → ¬ (0 : Int32) < 0 ∧ ¬ (0 : Int32) < 0 ∧ ¬ (12 : Int32) < 0 ∧ (Int32.toNatClampNeg 0) + (Int32.toNatClampNeg 12) ≤ 12 ∧ (Int32.toNatClampNeg 0) + (Int32.toNatClampNeg 12) ≤ 12 ∧ ∀ tSt_14 : Nat → Int32, tSt_14 = va_cpy kSt tSt (Int32.toNatClampNeg 0) (Int32.toNatClampNeg 0) (Int32.toNatClampNeg 12) → ¬ (0 : Int32) < 0 ∧ ¬ (0 : Int32) < 0 ∧ ¬ (12 : Int32) < 0 ∧ (Int32.toNatClampNeg 0) + (Int32.toNatClampNeg 12) ≤ 12 ∧ (Int32.toNatClampNeg 0) + (Int32.toNatClampNeg 12) ≤ 12 ∧ ∀ tTo_16 : Nat → Int32, tTo_16 = va_cpy kTo tTo (Int32.toNatClampNeg 0) (Int32.toNatClampNeg 0) (Int32.toNatClampNeg 12) → ¬ (0 : Int32) < 0 ∧ ¬ (0 : Int32) < 0 ∧ ¬ (12 : Int32) < 0 ∧ (Int32.toNatClampNeg 0) + (Int32.toNatClampNeg 12) ≤ 12 ∧ (Int32.toNatClampNeg 0) + (Int32.toNatClampNeg 12) ≤ 12 ∧ ∀ tBe_18 : Nat → Int32, tBe_18 = va_cpy kBe tBe (Int32.toNatClampNeg 0) (Int32.toNatClampNeg 0) (Int32.toNatClampNeg 12) → Qp tC_1 tKi_4 tEa_6 tHa_8 tPr_10 tEx_12 tSt_14 tTo_16 tBe_18
set_option maxHeartbeats 4000000 in
set_option maxRecDepth 100000 in
theorem ct_X5_become_2 {l : Launch} {D : va_G} {cI cJ cZ cE cD cK : ClassId} {ad : Nat → Nat} {bd dd : Nat → Nat → Nat} {bHK : Int32} {bHP : Int32} {bPF : Int32} {bWC : Int32} {bRi : Int32} {bBe : Int32} {bFi : Int32} {bWa : Nat → Int32} {dB : Nat → Int32} {dS : Nat → Int32} {dN : Nat → Nat → Int64} {tC : Int32} {tKi : Nat → Int32} {tEa : Nat → Int32} {tHa : Nat → Int32} {tPr : Nat → Int32} {tEx : Nat → Int32} {tSt : Nat → Int32} {tTo : Nat → Int32} {tBe : Nat → Int32} {kC : Int32} {kKi : Nat → Int32} {kEa : Nat → Int32} {kHa : Nat → Int32} {kPr : Nat → Int32} {kEx : Nat → Int32} {kSt : Nat → Int32} {kTo : Nat → Int32} {kBe : Nat → Int32} {aC : Int32} {aWh : Nat → Int32} {aTa : Nat → Int32} {aWa : Nat → Int32} {iRo : Nat → Int32} {iEa : Nat → Int32} {iLa : Nat → Int32} {cC : Int32} {nC : Int32} {nFo : Int32} {nQd : Int32} {nRo : Nat → Int32} {nBe : Nat → Int32} {nEa : Nat → Int32} {nMi : Nat → Int32} {nHa : Nat → Int32} {nER : Nat → Int32} {nMR : Nat → Int32} {nTh : Nat → Int32} {nPa : Nat → Int32} {nOu : Nat → Int32} {nFr : Nat → Int32} {nQu : Nat → Int32} {eM : Nat} {eL : Nat → Int32} {eC : Nat → Int64} {eS : Nat → Int64} {eB : Nat → Nat → Int32} {eE : Nat → Nat → Int32} {eF : Nat → Nat → Int32} {eG : Nat → Nat → Int32}    {Qp : (Int32) → (Nat → Int32) → (Nat → Int32) → (Nat → Int32) → (Nat → Int32) → (Nat → Int32) → (Nat → Int32) → (Nat → Int32) → (Nat → Int32) → Prop}   (h : wp_X5_become_2 tC tKi tEa tHa tPr tEx tSt tTo tBe kC kKi kEa kHa kPr kEx kSt kTo kBe Qp) : CTv l yX5_become wsX5_become rm_X5_become D (tyL cI cJ cZ cE cD cK) [.ref (ad 10), .ref (ad 19)] (WC cI cJ cE cD ad bd dd bHK bHP bPF bWC bRi bBe bFi bWa dB dS dN tC tKi tEa tHa tPr tEx tSt tTo tBe kC kKi kEa kHa kPr kEx kSt kTo kBe aC aWh aTa aWa iRo iEa iLa cC nC nFo nQd nRo nBe nEa nMi nHa nER nMR nTh nPa nOu nFr nQu eM eL eC eS eB eE eF eG) (fun u : (Int32) × (Nat → Int32) × (Nat → Int32) × (Nat → Int32) × (Nat → Int32) × (Nat → Int32) × (Nat → Int32) × (Nat → Int32) × (Nat → Int32) => Qp u.1 u.2.1 u.2.2.1 u.2.2.2.1 u.2.2.2.2.1 u.2.2.2.2.2.1 u.2.2.2.2.2.2.1 u.2.2.2.2.2.2.2.1 u.2.2.2.2.2.2.2.2) (fun u : (Int32) × (Nat → Int32) × (Nat → Int32) × (Nat → Int32) × (Nat → Int32) × (Nat → Int32) × (Nat → Int32) × (Nat → Int32) × (Nat → Int32) => (WC cI cJ cE cD ad bd dd bHK bHP bPF bWC bRi bBe bFi bWa dB dS dN u.1 u.2.1 u.2.2.1 u.2.2.2.1 u.2.2.2.2.1 u.2.2.2.2.2.1 u.2.2.2.2.2.2.1 u.2.2.2.2.2.2.2.1 u.2.2.2.2.2.2.2.2 kC kKi kEa kHa kPr kEx kSt kTo kBe aC aWh aTa aWa iRo iEa iLa cC nC nFo nQd nRo nBe nEa nMi nHa nER nMR nTh nPa nOu nFr nQu eM eL eC eS eB eE eF eG)) 0 0 := by
  refine ent_v (cc := cX5_become) (maxL := 2) (ret := none) (by decide) rfl (Nat.le_of_ble_eq_true rfl) ?_
  intro p e s m args below meth c A Q hQ hx hb hr hml hown hts hlk hA hAB hP hD hS ls hl
  have hown : s.vm.findClass RX5 = some m.cls := hown
  have hl : lv_has ls 2 [(0, .ref (ad 10)), (1, .ref (ad 19))] := hl
  generalize hH : s.heap = H at hP ⊢
  have hS : va_S A s.heap H [] := by rw [← hH]; exact hS
  clear hH
  generalize ([] : List Loc) = locs at hS ⊢
  refine lv_aload_n hx hb dX5_become_0 rfl (lv_at hl 0 rfl) ?_
  refine lv_aload_n hx hb dX5_become_1 rfl (lv_at hl 1 rfl) ?_
  refine va_get (D := D) (ci := 5) (C := RX5) (T := TX5) (N := 9) hx hb hts inn_X5_become_5 hown hAB.1 hP 19 rfl rfl 0 (by decide) (hts (.fieldLink RX5 36 "BarnBench$Tasks" "count" "I") (by decide +kernel)) (fun _ h9 => h9) rfl dX5_become_2 ?_
  refine fC_10_count hx hb hAB hP hD hS hts inn_X5_become_5 hown (hts (.fieldLink RX5 36 "BarnBench$Tasks" "count" "I") (by decide +kernel)) dX5_become_5 (fun tC_1 H locs e_2 hP hD hS => ?_)
  have h := h tC_1 e_2
  refine lv_aload_n hx hb dX5_become_8 rfl (lv_at hl 1 rfl) ?_
  refine va_get (D := D) (ci := 5) (C := RX5) (T := TX5) (N := 9) hx hb hts inn_X5_become_5 hown hAB.1 hP 19 rfl rfl 1 (by decide) (hts (.fieldLink RX5 9 "BarnBench$Tasks" "kind" "[I") (by decide +kernel)) (fun _ h9 => h9) rfl dX5_become_9 ?_
  refine lv_iconst (v := 0) hx hb dX5_become_12 (by decide) ?_
  refine lv_aload_n hx hb dX5_become_13 rfl (lv_at hl 0 rfl) ?_
  refine va_get (D := D) (ci := 5) (C := RX5) (T := TX5) (N := 9) hx hb hts inn_X5_become_5 hown hAB.1 hP 10 rfl rfl 1 (by decide) (hts (.fieldLink RX5 9 "BarnBench$Tasks" "kind" "[I") (by decide +kernel)) (fun _ h9 => h9) rfl dX5_become_14 ?_
  refine lv_iconst (v := 0) hx hb dX5_become_17 (by decide) ?_
  refine lv_bipush (v := 12) hx hb dX5_become_18 (by decide) ?_
  refine va_copyi (rest := []) hx hb (by rw [hml]; exact hl.1.symm) hown (hts (.methodLink RX5 49 arraycopyName) (by decide +kernel)) (hts (.native arraycopyName) (by decide +kernel)) (hts (.static arraycopyName) (by decide +kernel)) (hts (.initialized "java/lang/System") (by decide +kernel)) hAB.1 hP hD hS 20 11 0 0 rfl rfl rfl rfl rfl h.1 h.2.1 h.2.2.1 h.2.2.2.1 h.2.2.2.2.1 (fun _ _ => rfl) (Nat.le_of_ble_eq_true rfl) (Nat.le_of_ble_eq_true rfl) dX5_become_20 (fun H locs hP hD hS => ?_)
  have h := h.2.2.2.2.2
  obtain ⟨tKi_4, e_3⟩ : ∃ z, z = va_cpy kKi tKi (Int32.toNatClampNeg 0) (Int32.toNatClampNeg 0) (Int32.toNatClampNeg 12) := ⟨_, rfl⟩
  have hP : va_P D vwCl (WC cI cJ cE cD ad bd dd bHK bHP bPF bWC bRi bBe bFi bWa dB dS dN tC_1 tKi_4 tEa tHa tPr tEx tSt tTo tBe kC kKi kEa kHa kPr kEx kSt kTo kBe aC aWh aTa aWa iRo iEa iLa cC nC nFo nQd nRo nBe nEa nMi nHa nER nMR nTh nPa nOu nFr nQu eM eL eC eS eB eE eF eG) H := by rw [e_3]; exact hP
  have hD : va_D A (WC cI cJ cE cD ad bd dd bHK bHP bPF bWC bRi bBe bFi bWa dB dS dN tC_1 tKi_4 tEa tHa tPr tEx tSt tTo tBe kC kKi kEa kHa kPr kEx kSt kTo kBe aC aWh aTa aWa iRo iEa iLa cC nC nFo nQd nRo nBe nEa nMi nHa nER nMR nTh nPa nOu nFr nQu eM eL eC eS eB eE eF eG) := by rw [e_3]; exact hD
  have h := h tKi_4 e_3
  refine lv_aload_n hx hb dX5_become_23 rfl (lv_at hl 1 rfl) ?_
  refine va_get (D := D) (ci := 5) (C := RX5) (T := TX5) (N := 9) hx hb hts inn_X5_become_5 hown hAB.1 hP 19 rfl rfl 2 (by decide) (hts (.fieldLink RX5 15 "BarnBench$Tasks" "easy" "[I") (by decide +kernel)) (fun _ h9 => h9) rfl dX5_become_24 ?_
  refine lv_iconst (v := 0) hx hb dX5_become_27 (by decide) ?_
  refine lv_aload_n hx hb dX5_become_28 rfl (lv_at hl 0 rfl) ?_
  refine va_get (D := D) (ci := 5) (C := RX5) (T := TX5) (N := 9) hx hb hts inn_X5_become_5 hown hAB.1 hP 10 rfl rfl 2 (by decide) (hts (.fieldLink RX5 15 "BarnBench$Tasks" "easy" "[I") (by decide +kernel)) (fun _ h9 => h9) rfl dX5_become_29 ?_
  refine lv_iconst (v := 0) hx hb dX5_become_32 (by decide) ?_
  refine lv_bipush (v := 12) hx hb dX5_become_33 (by decide) ?_
  refine va_copyi (rest := []) hx hb (by rw [hml]; exact hl.1.symm) hown (hts (.methodLink RX5 49 arraycopyName) (by decide +kernel)) (hts (.native arraycopyName) (by decide +kernel)) (hts (.static arraycopyName) (by decide +kernel)) (hts (.initialized "java/lang/System") (by decide +kernel)) hAB.1 hP hD hS 21 12 0 0 rfl rfl rfl rfl rfl h.1 h.2.1 h.2.2.1 h.2.2.2.1 h.2.2.2.2.1 (fun _ _ => rfl) (Nat.le_of_ble_eq_true rfl) (Nat.le_of_ble_eq_true rfl) dX5_become_35 (fun H locs hP hD hS => ?_)
  have h := h.2.2.2.2.2
  obtain ⟨tEa_6, e_5⟩ : ∃ z, z = va_cpy kEa tEa (Int32.toNatClampNeg 0) (Int32.toNatClampNeg 0) (Int32.toNatClampNeg 12) := ⟨_, rfl⟩
  have hP : va_P D vwCl (WC cI cJ cE cD ad bd dd bHK bHP bPF bWC bRi bBe bFi bWa dB dS dN tC_1 tKi_4 tEa_6 tHa tPr tEx tSt tTo tBe kC kKi kEa kHa kPr kEx kSt kTo kBe aC aWh aTa aWa iRo iEa iLa cC nC nFo nQd nRo nBe nEa nMi nHa nER nMR nTh nPa nOu nFr nQu eM eL eC eS eB eE eF eG) H := by rw [e_5]; exact hP
  have hD : va_D A (WC cI cJ cE cD ad bd dd bHK bHP bPF bWC bRi bBe bFi bWa dB dS dN tC_1 tKi_4 tEa_6 tHa tPr tEx tSt tTo tBe kC kKi kEa kHa kPr kEx kSt kTo kBe aC aWh aTa aWa iRo iEa iLa cC nC nFo nQd nRo nBe nEa nMi nHa nER nMR nTh nPa nOu nFr nQu eM eL eC eS eB eE eF eG) := by rw [e_5]; exact hD
  have h := h tEa_6 e_5
  refine lv_aload_n hx hb dX5_become_38 rfl (lv_at hl 1 rfl) ?_
  refine va_get (D := D) (ci := 5) (C := RX5) (T := TX5) (N := 9) hx hb hts inn_X5_become_5 hown hAB.1 hP 19 rfl rfl 3 (by decide) (hts (.fieldLink RX5 18 "BarnBench$Tasks" "hard" "[I") (by decide +kernel)) (fun _ h9 => h9) rfl dX5_become_39 ?_
  refine lv_iconst (v := 0) hx hb dX5_become_42 (by decide) ?_
  refine lv_aload_n hx hb dX5_become_43 rfl (lv_at hl 0 rfl) ?_
  refine va_get (D := D) (ci := 5) (C := RX5) (T := TX5) (N := 9) hx hb hts inn_X5_become_5 hown hAB.1 hP 10 rfl rfl 3 (by decide) (hts (.fieldLink RX5 18 "BarnBench$Tasks" "hard" "[I") (by decide +kernel)) (fun _ h9 => h9) rfl dX5_become_44 ?_
  refine lv_iconst (v := 0) hx hb dX5_become_47 (by decide) ?_
  refine lv_bipush (v := 12) hx hb dX5_become_48 (by decide) ?_
  refine va_copyi (rest := []) hx hb (by rw [hml]; exact hl.1.symm) hown (hts (.methodLink RX5 49 arraycopyName) (by decide +kernel)) (hts (.native arraycopyName) (by decide +kernel)) (hts (.static arraycopyName) (by decide +kernel)) (hts (.initialized "java/lang/System") (by decide +kernel)) hAB.1 hP hD hS 22 13 0 0 rfl rfl rfl rfl rfl h.1 h.2.1 h.2.2.1 h.2.2.2.1 h.2.2.2.2.1 (fun _ _ => rfl) (Nat.le_of_ble_eq_true rfl) (Nat.le_of_ble_eq_true rfl) dX5_become_50 (fun H locs hP hD hS => ?_)
  have h := h.2.2.2.2.2
  obtain ⟨tHa_8, e_7⟩ : ∃ z, z = va_cpy kHa tHa (Int32.toNatClampNeg 0) (Int32.toNatClampNeg 0) (Int32.toNatClampNeg 12) := ⟨_, rfl⟩
  have hP : va_P D vwCl (WC cI cJ cE cD ad bd dd bHK bHP bPF bWC bRi bBe bFi bWa dB dS dN tC_1 tKi_4 tEa_6 tHa_8 tPr tEx tSt tTo tBe kC kKi kEa kHa kPr kEx kSt kTo kBe aC aWh aTa aWa iRo iEa iLa cC nC nFo nQd nRo nBe nEa nMi nHa nER nMR nTh nPa nOu nFr nQu eM eL eC eS eB eE eF eG) H := by rw [e_7]; exact hP
  have hD : va_D A (WC cI cJ cE cD ad bd dd bHK bHP bPF bWC bRi bBe bFi bWa dB dS dN tC_1 tKi_4 tEa_6 tHa_8 tPr tEx tSt tTo tBe kC kKi kEa kHa kPr kEx kSt kTo kBe aC aWh aTa aWa iRo iEa iLa cC nC nFo nQd nRo nBe nEa nMi nHa nER nMR nTh nPa nOu nFr nQu eM eL eC eS eB eE eF eG) := by rw [e_7]; exact hD
  have h := h tHa_8 e_7
  refine lv_aload_n hx hb dX5_become_53 rfl (lv_at hl 1 rfl) ?_
  refine va_get (D := D) (ci := 5) (C := RX5) (T := TX5) (N := 9) hx hb hts inn_X5_become_5 hown hAB.1 hP 19 rfl rfl 4 (by decide) (hts (.fieldLink RX5 21 "BarnBench$Tasks" "price" "[I") (by decide +kernel)) (fun _ h9 => h9) rfl dX5_become_54 ?_
  refine lv_iconst (v := 0) hx hb dX5_become_57 (by decide) ?_
  refine lv_aload_n hx hb dX5_become_58 rfl (lv_at hl 0 rfl) ?_
  refine va_get (D := D) (ci := 5) (C := RX5) (T := TX5) (N := 9) hx hb hts inn_X5_become_5 hown hAB.1 hP 10 rfl rfl 4 (by decide) (hts (.fieldLink RX5 21 "BarnBench$Tasks" "price" "[I") (by decide +kernel)) (fun _ h9 => h9) rfl dX5_become_59 ?_
  refine lv_iconst (v := 0) hx hb dX5_become_62 (by decide) ?_
  refine lv_bipush (v := 12) hx hb dX5_become_63 (by decide) ?_
  refine va_copyi (rest := []) hx hb (by rw [hml]; exact hl.1.symm) hown (hts (.methodLink RX5 49 arraycopyName) (by decide +kernel)) (hts (.native arraycopyName) (by decide +kernel)) (hts (.static arraycopyName) (by decide +kernel)) (hts (.initialized "java/lang/System") (by decide +kernel)) hAB.1 hP hD hS 23 14 0 0 rfl rfl rfl rfl rfl h.1 h.2.1 h.2.2.1 h.2.2.2.1 h.2.2.2.2.1 (fun _ _ => rfl) (Nat.le_of_ble_eq_true rfl) (Nat.le_of_ble_eq_true rfl) dX5_become_65 (fun H locs hP hD hS => ?_)
  have h := h.2.2.2.2.2
  obtain ⟨tPr_10, e_9⟩ : ∃ z, z = va_cpy kPr tPr (Int32.toNatClampNeg 0) (Int32.toNatClampNeg 0) (Int32.toNatClampNeg 12) := ⟨_, rfl⟩
  have hP : va_P D vwCl (WC cI cJ cE cD ad bd dd bHK bHP bPF bWC bRi bBe bFi bWa dB dS dN tC_1 tKi_4 tEa_6 tHa_8 tPr_10 tEx tSt tTo tBe kC kKi kEa kHa kPr kEx kSt kTo kBe aC aWh aTa aWa iRo iEa iLa cC nC nFo nQd nRo nBe nEa nMi nHa nER nMR nTh nPa nOu nFr nQu eM eL eC eS eB eE eF eG) H := by rw [e_9]; exact hP
  have hD : va_D A (WC cI cJ cE cD ad bd dd bHK bHP bPF bWC bRi bBe bFi bWa dB dS dN tC_1 tKi_4 tEa_6 tHa_8 tPr_10 tEx tSt tTo tBe kC kKi kEa kHa kPr kEx kSt kTo kBe aC aWh aTa aWa iRo iEa iLa cC nC nFo nQd nRo nBe nEa nMi nHa nER nMR nTh nPa nOu nFr nQu eM eL eC eS eB eE eF eG) := by rw [e_9]; exact hD
  have h := h tPr_10 e_9
  refine lv_aload_n hx hb dX5_become_68 rfl (lv_at hl 1 rfl) ?_
  refine va_get (D := D) (ci := 5) (C := RX5) (T := TX5) (N := 9) hx hb hts inn_X5_become_5 hown hAB.1 hP 19 rfl rfl 5 (by decide) (hts (.fieldLink RX5 24 "BarnBench$Tasks" "extra" "[I") (by decide +kernel)) (fun _ h9 => h9) rfl dX5_become_69 ?_
  refine lv_iconst (v := 0) hx hb dX5_become_72 (by decide) ?_
  refine lv_aload_n hx hb dX5_become_73 rfl (lv_at hl 0 rfl) ?_
  refine va_get (D := D) (ci := 5) (C := RX5) (T := TX5) (N := 9) hx hb hts inn_X5_become_5 hown hAB.1 hP 10 rfl rfl 5 (by decide) (hts (.fieldLink RX5 24 "BarnBench$Tasks" "extra" "[I") (by decide +kernel)) (fun _ h9 => h9) rfl dX5_become_74 ?_
  refine lv_iconst (v := 0) hx hb dX5_become_77 (by decide) ?_
  refine lv_bipush (v := 12) hx hb dX5_become_78 (by decide) ?_
  refine va_copyi (rest := []) hx hb (by rw [hml]; exact hl.1.symm) hown (hts (.methodLink RX5 49 arraycopyName) (by decide +kernel)) (hts (.native arraycopyName) (by decide +kernel)) (hts (.static arraycopyName) (by decide +kernel)) (hts (.initialized "java/lang/System") (by decide +kernel)) hAB.1 hP hD hS 24 15 0 0 rfl rfl rfl rfl rfl h.1 h.2.1 h.2.2.1 h.2.2.2.1 h.2.2.2.2.1 (fun _ _ => rfl) (Nat.le_of_ble_eq_true rfl) (Nat.le_of_ble_eq_true rfl) dX5_become_80 (fun H locs hP hD hS => ?_)
  have h := h.2.2.2.2.2
  obtain ⟨tEx_12, e_11⟩ : ∃ z, z = va_cpy kEx tEx (Int32.toNatClampNeg 0) (Int32.toNatClampNeg 0) (Int32.toNatClampNeg 12) := ⟨_, rfl⟩
  have hP : va_P D vwCl (WC cI cJ cE cD ad bd dd bHK bHP bPF bWC bRi bBe bFi bWa dB dS dN tC_1 tKi_4 tEa_6 tHa_8 tPr_10 tEx_12 tSt tTo tBe kC kKi kEa kHa kPr kEx kSt kTo kBe aC aWh aTa aWa iRo iEa iLa cC nC nFo nQd nRo nBe nEa nMi nHa nER nMR nTh nPa nOu nFr nQu eM eL eC eS eB eE eF eG) H := by rw [e_11]; exact hP
  have hD : va_D A (WC cI cJ cE cD ad bd dd bHK bHP bPF bWC bRi bBe bFi bWa dB dS dN tC_1 tKi_4 tEa_6 tHa_8 tPr_10 tEx_12 tSt tTo tBe kC kKi kEa kHa kPr kEx kSt kTo kBe aC aWh aTa aWa iRo iEa iLa cC nC nFo nQd nRo nBe nEa nMi nHa nER nMR nTh nPa nOu nFr nQu eM eL eC eS eB eE eF eG) := by rw [e_11]; exact hD
  have h := h tEx_12 e_11
  refine lv_aload_n hx hb dX5_become_83 rfl (lv_at hl 1 rfl) ?_
  refine va_get (D := D) (ci := 5) (C := RX5) (T := TX5) (N := 9) hx hb hts inn_X5_become_5 hown hAB.1 hP 19 rfl rfl 6 (by decide) (hts (.fieldLink RX5 27 "BarnBench$Tasks" "step" "[I") (by decide +kernel)) (fun _ h9 => h9) rfl dX5_become_84 ?_
  refine lv_iconst (v := 0) hx hb dX5_become_87 (by decide) ?_
  refine lv_aload_n hx hb dX5_become_88 rfl (lv_at hl 0 rfl) ?_
  refine va_get (D := D) (ci := 5) (C := RX5) (T := TX5) (N := 9) hx hb hts inn_X5_become_5 hown hAB.1 hP 10 rfl rfl 6 (by decide) (hts (.fieldLink RX5 27 "BarnBench$Tasks" "step" "[I") (by decide +kernel)) (fun _ h9 => h9) rfl dX5_become_89 ?_
  refine lv_iconst (v := 0) hx hb dX5_become_92 (by decide) ?_
  refine lv_bipush (v := 12) hx hb dX5_become_93 (by decide) ?_
  refine va_copyi (rest := []) hx hb (by rw [hml]; exact hl.1.symm) hown (hts (.methodLink RX5 49 arraycopyName) (by decide +kernel)) (hts (.native arraycopyName) (by decide +kernel)) (hts (.static arraycopyName) (by decide +kernel)) (hts (.initialized "java/lang/System") (by decide +kernel)) hAB.1 hP hD hS 25 16 0 0 rfl rfl rfl rfl rfl h.1 h.2.1 h.2.2.1 h.2.2.2.1 h.2.2.2.2.1 (fun _ _ => rfl) (Nat.le_of_ble_eq_true rfl) (Nat.le_of_ble_eq_true rfl) dX5_become_95 (fun H locs hP hD hS => ?_)
  have h := h.2.2.2.2.2
  obtain ⟨tSt_14, e_13⟩ : ∃ z, z = va_cpy kSt tSt (Int32.toNatClampNeg 0) (Int32.toNatClampNeg 0) (Int32.toNatClampNeg 12) := ⟨_, rfl⟩
  have hP : va_P D vwCl (WC cI cJ cE cD ad bd dd bHK bHP bPF bWC bRi bBe bFi bWa dB dS dN tC_1 tKi_4 tEa_6 tHa_8 tPr_10 tEx_12 tSt_14 tTo tBe kC kKi kEa kHa kPr kEx kSt kTo kBe aC aWh aTa aWa iRo iEa iLa cC nC nFo nQd nRo nBe nEa nMi nHa nER nMR nTh nPa nOu nFr nQu eM eL eC eS eB eE eF eG) H := by rw [e_13]; exact hP
  have hD : va_D A (WC cI cJ cE cD ad bd dd bHK bHP bPF bWC bRi bBe bFi bWa dB dS dN tC_1 tKi_4 tEa_6 tHa_8 tPr_10 tEx_12 tSt_14 tTo tBe kC kKi kEa kHa kPr kEx kSt kTo kBe aC aWh aTa aWa iRo iEa iLa cC nC nFo nQd nRo nBe nEa nMi nHa nER nMR nTh nPa nOu nFr nQu eM eL eC eS eB eE eF eG) := by rw [e_13]; exact hD
  have h := h tSt_14 e_13
  refine lv_aload_n hx hb dX5_become_98 rfl (lv_at hl 1 rfl) ?_
  refine va_get (D := D) (ci := 5) (C := RX5) (T := TX5) (N := 9) hx hb hts inn_X5_become_5 hown hAB.1 hP 19 rfl rfl 7 (by decide) (hts (.fieldLink RX5 30 "BarnBench$Tasks" "told" "[I") (by decide +kernel)) (fun _ h9 => h9) rfl dX5_become_99 ?_
  refine lv_iconst (v := 0) hx hb dX5_become_102 (by decide) ?_
  refine lv_aload_n hx hb dX5_become_103 rfl (lv_at hl 0 rfl) ?_
  refine va_get (D := D) (ci := 5) (C := RX5) (T := TX5) (N := 9) hx hb hts inn_X5_become_5 hown hAB.1 hP 10 rfl rfl 7 (by decide) (hts (.fieldLink RX5 30 "BarnBench$Tasks" "told" "[I") (by decide +kernel)) (fun _ h9 => h9) rfl dX5_become_104 ?_
  refine lv_iconst (v := 0) hx hb dX5_become_107 (by decide) ?_
  refine lv_bipush (v := 12) hx hb dX5_become_108 (by decide) ?_
  refine va_copyi (rest := []) hx hb (by rw [hml]; exact hl.1.symm) hown (hts (.methodLink RX5 49 arraycopyName) (by decide +kernel)) (hts (.native arraycopyName) (by decide +kernel)) (hts (.static arraycopyName) (by decide +kernel)) (hts (.initialized "java/lang/System") (by decide +kernel)) hAB.1 hP hD hS 26 17 0 0 rfl rfl rfl rfl rfl h.1 h.2.1 h.2.2.1 h.2.2.2.1 h.2.2.2.2.1 (fun _ _ => rfl) (Nat.le_of_ble_eq_true rfl) (Nat.le_of_ble_eq_true rfl) dX5_become_110 (fun H locs hP hD hS => ?_)
  have h := h.2.2.2.2.2
  obtain ⟨tTo_16, e_15⟩ : ∃ z, z = va_cpy kTo tTo (Int32.toNatClampNeg 0) (Int32.toNatClampNeg 0) (Int32.toNatClampNeg 12) := ⟨_, rfl⟩
  have hP : va_P D vwCl (WC cI cJ cE cD ad bd dd bHK bHP bPF bWC bRi bBe bFi bWa dB dS dN tC_1 tKi_4 tEa_6 tHa_8 tPr_10 tEx_12 tSt_14 tTo_16 tBe kC kKi kEa kHa kPr kEx kSt kTo kBe aC aWh aTa aWa iRo iEa iLa cC nC nFo nQd nRo nBe nEa nMi nHa nER nMR nTh nPa nOu nFr nQu eM eL eC eS eB eE eF eG) H := by rw [e_15]; exact hP
  have hD : va_D A (WC cI cJ cE cD ad bd dd bHK bHP bPF bWC bRi bBe bFi bWa dB dS dN tC_1 tKi_4 tEa_6 tHa_8 tPr_10 tEx_12 tSt_14 tTo_16 tBe kC kKi kEa kHa kPr kEx kSt kTo kBe aC aWh aTa aWa iRo iEa iLa cC nC nFo nQd nRo nBe nEa nMi nHa nER nMR nTh nPa nOu nFr nQu eM eL eC eS eB eE eF eG) := by rw [e_15]; exact hD
  have h := h tTo_16 e_15
  refine lv_aload_n hx hb dX5_become_113 rfl (lv_at hl 1 rfl) ?_
  refine va_get (D := D) (ci := 5) (C := RX5) (T := TX5) (N := 9) hx hb hts inn_X5_become_5 hown hAB.1 hP 19 rfl rfl 8 (by decide) (hts (.fieldLink RX5 33 "BarnBench$Tasks" "before" "[I") (by decide +kernel)) (fun _ h9 => h9) rfl dX5_become_114 ?_
  refine lv_iconst (v := 0) hx hb dX5_become_117 (by decide) ?_
  refine lv_aload_n hx hb dX5_become_118 rfl (lv_at hl 0 rfl) ?_
  refine va_get (D := D) (ci := 5) (C := RX5) (T := TX5) (N := 9) hx hb hts inn_X5_become_5 hown hAB.1 hP 10 rfl rfl 8 (by decide) (hts (.fieldLink RX5 33 "BarnBench$Tasks" "before" "[I") (by decide +kernel)) (fun _ h9 => h9) rfl dX5_become_119 ?_
  refine lv_iconst (v := 0) hx hb dX5_become_122 (by decide) ?_
  refine lv_bipush (v := 12) hx hb dX5_become_123 (by decide) ?_
  refine va_copyi (rest := []) hx hb (by rw [hml]; exact hl.1.symm) hown (hts (.methodLink RX5 49 arraycopyName) (by decide +kernel)) (hts (.native arraycopyName) (by decide +kernel)) (hts (.static arraycopyName) (by decide +kernel)) (hts (.initialized "java/lang/System") (by decide +kernel)) hAB.1 hP hD hS 27 18 0 0 rfl rfl rfl rfl rfl h.1 h.2.1 h.2.2.1 h.2.2.2.1 h.2.2.2.2.1 (fun _ _ => rfl) (Nat.le_of_ble_eq_true rfl) (Nat.le_of_ble_eq_true rfl) dX5_become_125 (fun H locs hP hD hS => ?_)
  have h := h.2.2.2.2.2
  obtain ⟨tBe_18, e_17⟩ : ∃ z, z = va_cpy kBe tBe (Int32.toNatClampNeg 0) (Int32.toNatClampNeg 0) (Int32.toNatClampNeg 12) := ⟨_, rfl⟩
  have hP : va_P D vwCl (WC cI cJ cE cD ad bd dd bHK bHP bPF bWC bRi bBe bFi bWa dB dS dN tC_1 tKi_4 tEa_6 tHa_8 tPr_10 tEx_12 tSt_14 tTo_16 tBe_18 kC kKi kEa kHa kPr kEx kSt kTo kBe aC aWh aTa aWa iRo iEa iLa cC nC nFo nQd nRo nBe nEa nMi nHa nER nMR nTh nPa nOu nFr nQu eM eL eC eS eB eE eF eG) H := by rw [e_17]; exact hP
  have hD : va_D A (WC cI cJ cE cD ad bd dd bHK bHP bPF bWC bRi bBe bFi bWa dB dS dN tC_1 tKi_4 tEa_6 tHa_8 tPr_10 tEx_12 tSt_14 tTo_16 tBe_18 kC kKi kEa kHa kPr kEx kSt kTo kBe aC aWh aTa aWa iRo iEa iLa cC nC nFo nQd nRo nBe nEa nMi nHa nER nMR nTh nPa nOu nFr nQu eM eL eC eS eB eE eF eG) := by rw [e_17]; exact hD
  have h := h tBe_18 e_17
  exact rt_v (tC_1, tKi_4, tEa_6, tHa_8, tPr_10, tEx_12, tSt_14, tTo_16, tBe_18) hQ hx hb hr hlk hP hD hS ⟨Nat.zero_le _, Nat.zero_le _⟩ dX5_become_128 h
def wp_X0_add_b66 (Qp : (Int32) → (Nat → Int32) → (Nat → Int32) → (Nat → Int32) → Prop) (a1 : Int32) (a2 : Int32) (a3 : Int32) (aC_1 : Int32) (aWh_2 : Nat → Int32) (aTa_3 : Nat → Int32) (aWa_4 : Nat → Int32) : Prop :=
  vp_in aC_1 30 ∧ ∀ aWh_5 : Nat → Int32, aWh_5 = upd aWh_2 (Int32.toNatClampNeg aC_1) a1 → vp_in aC_1 30 ∧ ∀ aTa_7 : Nat → Int32, aTa_7 = upd aTa_3 (Int32.toNatClampNeg aC_1) a2 → vp_in aC_1 30 ∧ ∀ aWa_9 : Nat → Int32, aWa_9 = upd aWa_4 (Int32.toNatClampNeg aC_1) a3 → ∀ aC_11 : Int32, aC_11 = (aC_1 + 1) → Qp aC_11 aWh_5 aTa_7 aWa_9
def wp_X0_add (aC : Int32) (aWh : Nat → Int32) (aTa : Nat → Int32) (aWa : Nat → Int32) (a1 : Int32) (a2 : Int32) (a3 : Int32) (Qp : (Int32) → (Nat → Int32) → (Nat → Int32) → (Nat → Int32) → Prop) : Prop :=
  ((aC < 30 → wp_X0_add_b66 Qp a1 a2 a3 aC aWh aTa aWa) ∧
   (¬ aC < 30 → ∀ aC_14 : Int32, aC_14 = 29 → ¬ (1 : Int32) < 0 ∧ ¬ (0 : Int32) < 0 ∧ ¬ (aC_14 : Int32) < 0 ∧ (Int32.toNatClampNeg 1) + (Int32.toNatClampNeg aC_14) ≤ 30 ∧ (Int32.toNatClampNeg 0) + (Int32.toNatClampNeg aC_14) ≤ 30 ∧ ∀ aWh_17 : Nat → Int32, aWh_17 = va_cpy aWh aWh (Int32.toNatClampNeg 1) (Int32.toNatClampNeg 0) (Int32.toNatClampNeg aC_14) → ¬ (1 : Int32) < 0 ∧ ¬ (0 : Int32) < 0 ∧ ¬ (aC_14 : Int32) < 0 ∧ (Int32.toNatClampNeg 1) + (Int32.toNatClampNeg aC_14) ≤ 30 ∧ (Int32.toNatClampNeg 0) + (Int32.toNatClampNeg aC_14) ≤ 30 ∧ ∀ aTa_19 : Nat → Int32, aTa_19 = va_cpy aTa aTa (Int32.toNatClampNeg 1) (Int32.toNatClampNeg 0) (Int32.toNatClampNeg aC_14) → ¬ (1 : Int32) < 0 ∧ ¬ (0 : Int32) < 0 ∧ ¬ (aC_14 : Int32) < 0 ∧ (Int32.toNatClampNeg 1) + (Int32.toNatClampNeg aC_14) ≤ 30 ∧ (Int32.toNatClampNeg 0) + (Int32.toNatClampNeg aC_14) ≤ 30 ∧ ∀ aWa_21 : Nat → Int32, aWa_21 = va_cpy aWa aWa (Int32.toNatClampNeg 1) (Int32.toNatClampNeg 0) (Int32.toNatClampNeg aC_14) → wp_X0_add_b66 Qp a1 a2 a3 aC_14 aWh_17 aTa_19 aWa_21))
theorem inn_X0_add_0 : ∀ w ∈ u_ws RX0 TX0 4, w ∈ wsX0_add := fun _ h => List.mem_cons_of_mem _ (List.mem_append_right _ h)
def rm_X0_add : Room := { frames := 1, cells := 0, slots := 0, locals := 60 }
set_option maxHeartbeats 4000000 in
set_option maxRecDepth 100000 in
theorem ct_X0_add {l : Launch} {D : va_G} {cI cJ cZ cE cD cK : ClassId} {ad : Nat → Nat} {bd dd : Nat → Nat → Nat} {bHK : Int32} {bHP : Int32} {bPF : Int32} {bWC : Int32} {bRi : Int32} {bBe : Int32} {bFi : Int32} {bWa : Nat → Int32} {dB : Nat → Int32} {dS : Nat → Int32} {dN : Nat → Nat → Int64} {tC : Int32} {tKi : Nat → Int32} {tEa : Nat → Int32} {tHa : Nat → Int32} {tPr : Nat → Int32} {tEx : Nat → Int32} {tSt : Nat → Int32} {tTo : Nat → Int32} {tBe : Nat → Int32} {kC : Int32} {kKi : Nat → Int32} {kEa : Nat → Int32} {kHa : Nat → Int32} {kPr : Nat → Int32} {kEx : Nat → Int32} {kSt : Nat → Int32} {kTo : Nat → Int32} {kBe : Nat → Int32} {aC : Int32} {aWh : Nat → Int32} {aTa : Nat → Int32} {aWa : Nat → Int32} {iRo : Nat → Int32} {iEa : Nat → Int32} {iLa : Nat → Int32} {cC : Int32} {nC : Int32} {nFo : Int32} {nQd : Int32} {nRo : Nat → Int32} {nBe : Nat → Int32} {nEa : Nat → Int32} {nMi : Nat → Int32} {nHa : Nat → Int32} {nER : Nat → Int32} {nMR : Nat → Int32} {nTh : Nat → Int32} {nPa : Nat → Int32} {nOu : Nat → Int32} {nFr : Nat → Int32} {nQu : Nat → Int32} {eM : Nat} {eL : Nat → Int32} {eC : Nat → Int64} {eS : Nat → Int64} {eB : Nat → Nat → Int32} {eE : Nat → Nat → Int32} {eF : Nat → Nat → Int32} {eG : Nat → Nat → Int32}   {a1 : Int32} {a2 : Int32} {a3 : Int32} {Qp : (Int32) → (Nat → Int32) → (Nat → Int32) → (Nat → Int32) → Prop}   (h : wp_X0_add aC aWh aTa aWa a1 a2 a3 Qp) : CTv l yX0_add wsX0_add rm_X0_add D (tyL cI cJ cZ cE cD cK) [.ref (ad 28), .int a1, .int a2, .int a3] (WC cI cJ cE cD ad bd dd bHK bHP bPF bWC bRi bBe bFi bWa dB dS dN tC tKi tEa tHa tPr tEx tSt tTo tBe kC kKi kEa kHa kPr kEx kSt kTo kBe aC aWh aTa aWa iRo iEa iLa cC nC nFo nQd nRo nBe nEa nMi nHa nER nMR nTh nPa nOu nFr nQu eM eL eC eS eB eE eF eG) (fun u : (Int32) × (Nat → Int32) × (Nat → Int32) × (Nat → Int32) => Qp u.1 u.2.1 u.2.2.1 u.2.2.2) (fun u : (Int32) × (Nat → Int32) × (Nat → Int32) × (Nat → Int32) => (WC cI cJ cE cD ad bd dd bHK bHP bPF bWC bRi bBe bFi bWa dB dS dN tC tKi tEa tHa tPr tEx tSt tTo tBe kC kKi kEa kHa kPr kEx kSt kTo kBe u.1 u.2.1 u.2.2.1 u.2.2.2 iRo iEa iLa cC nC nFo nQd nRo nBe nEa nMi nHa nER nMR nTh nPa nOu nFr nQu eM eL eC eS eB eE eF eG)) 0 0 := by
  refine ent_v (cc := cX0_add) (maxL := 4) (ret := none) (by decide) rfl (Nat.le_of_ble_eq_true rfl) ?_
  intro p e s m args below meth c A Q hQ hx hb hr hml hown hts hlk hA hAB hP hD hS ls hl
  have hown : s.vm.findClass RX0 = some m.cls := hown
  have hl : lv_has ls 4 [(0, .ref (ad 28)), (1, .int a1), (2, .int a2), (3, .int a3)] := hl
  generalize hH : s.heap = H at hP ⊢
  have hS : va_S A s.heap H [] := by rw [← hH]; exact hS
  clear hH
  generalize ([] : List Loc) = locs at hS ⊢
  have B66 : ∀ (aC_1 : Int32) (aWh_2 : Nat → Int32) (aTa_3 : Nat → Int32) (aWa_4 : Nat → Int32), wp_X0_add_b66 Qp a1 a2 a3 aC_1 aWh_2 aTa_3 aWa_4 → ∀ (H : Heap) (locs : List Loc) (ls : Array Slot), va_P D vwCl (WC cI cJ cE cD ad bd dd bHK bHP bPF bWC bRi bBe bFi bWa dB dS dN tC tKi tEa tHa tPr tEx tSt tTo tBe kC kKi kEa kHa kPr kEx kSt kTo kBe aC_1 aWh_2 aTa_3 aWa_4 iRo iEa iLa cC nC nFo nQd nRo nBe nEa nMi nHa nER nMR nTh nPa nOu nFr nQu eM eL eC eS eB eE eF eG) H → va_D A (WC cI cJ cE cD ad bd dd bHK bHP bPF bWC bRi bBe bFi bWa dB dS dN tC tKi tEa tHa tPr tEx tSt tTo tBe kC kKi kEa kHa kPr kEx kSt kTo kBe aC_1 aWh_2 aTa_3 aWa_4 iRo iEa iLa cC nC nFo nQd nRo nBe nEa nMi nHa nER nMR nTh nPa nOu nFr nQu eM eL eC eS eB eE eF eG) → va_S A s.heap H locs → lv_has ls 4 [(0, .ref (ad 28)), (1, .int a1), (2, .int a2), (3, .int a3)] → W p l e (headSpec wsX0_add rm_X0_add).room s m args below meth c H locs 0 0 Q (F0 m 66 ls []) := by
    intro aC_1 aWh_2 aTa_3 aWa_4 h H locs ls hP hD hS hl
    refine lv_aload_n hx hb dX0_add_66 rfl (lv_at hl 0 rfl) ?_
    refine va_get (D := D) (ci := 0) (C := RX0) (T := TX0) (N := 4) hx hb hts inn_X0_add_0 hown hAB.1 hP 28 rfl rfl 1 (by decide) (hts (.fieldLink RX0 9 "BarnBench$Acts" "what" "[I") (by decide +kernel)) (fun _ h9 => h9) rfl dX0_add_67 ?_
    refine lv_aload_n hx hb dX0_add_70 rfl (lv_at hl 0 rfl) ?_
    refine va_get (D := D) (ci := 0) (C := RX0) (T := TX0) (N := 4) hx hb hts inn_X0_add_0 hown hAB.1 hP 28 rfl rfl 0 (by decide) (hts (.fieldLink RX0 21 "BarnBench$Acts" "count" "I") (by decide +kernel)) (fun _ h9 => h9) rfl dX0_add_71 ?_
    refine lv_iload_n hx hb dX0_add_74 rfl (lv_at hl 1 rfl) ?_
    refine sC_29 hx hb hAB hP hD hS h.1 dX0_add_75 (fun aWh_5 H locs e_6 hP hD hS => ?_)
    have h := h.2
    have h := h aWh_5 e_6
    refine lv_aload_n hx hb dX0_add_76 rfl (lv_at hl 0 rfl) ?_
    refine va_get (D := D) (ci := 0) (C := RX0) (T := TX0) (N := 4) hx hb hts inn_X0_add_0 hown hAB.1 hP 28 rfl rfl 2 (by decide) (hts (.fieldLink RX0 15 "BarnBench$Acts" "task" "[I") (by decide +kernel)) (fun _ h9 => h9) rfl dX0_add_77 ?_
    refine lv_aload_n hx hb dX0_add_80 rfl (lv_at hl 0 rfl) ?_
    refine va_get (D := D) (ci := 0) (C := RX0) (T := TX0) (N := 4) hx hb hts inn_X0_add_0 hown hAB.1 hP 28 rfl rfl 0 (by decide) (hts (.fieldLink RX0 21 "BarnBench$Acts" "count" "I") (by decide +kernel)) (fun _ h9 => h9) rfl dX0_add_81 ?_
    refine lv_iload_n hx hb dX0_add_84 rfl (lv_at hl 2 rfl) ?_
    refine sC_30 hx hb hAB hP hD hS h.1 dX0_add_85 (fun aTa_7 H locs e_8 hP hD hS => ?_)
    have h := h.2
    have h := h aTa_7 e_8
    refine lv_aload_n hx hb dX0_add_86 rfl (lv_at hl 0 rfl) ?_
    refine va_get (D := D) (ci := 0) (C := RX0) (T := TX0) (N := 4) hx hb hts inn_X0_add_0 hown hAB.1 hP 28 rfl rfl 3 (by decide) (hts (.fieldLink RX0 18 "BarnBench$Acts" "was" "[I") (by decide +kernel)) (fun _ h9 => h9) rfl dX0_add_87 ?_
    refine lv_aload_n hx hb dX0_add_90 rfl (lv_at hl 0 rfl) ?_
    refine va_get (D := D) (ci := 0) (C := RX0) (T := TX0) (N := 4) hx hb hts inn_X0_add_0 hown hAB.1 hP 28 rfl rfl 0 (by decide) (hts (.fieldLink RX0 21 "BarnBench$Acts" "count" "I") (by decide +kernel)) (fun _ h9 => h9) rfl dX0_add_91 ?_
    refine lv_iload_n hx hb dX0_add_94 rfl (lv_at hl 3 rfl) ?_
    refine sC_31 hx hb hAB hP hD hS h.1 dX0_add_95 (fun aWa_9 H locs e_10 hP hD hS => ?_)
    have h := h.2
    have h := h aWa_9 e_10
    refine lv_aload_n hx hb dX0_add_96 rfl (lv_at hl 0 rfl) ?_
    refine lv_dup hx hb dX0_add_97 rfl ?_
    refine va_get (D := D) (ci := 0) (C := RX0) (T := TX0) (N := 4) hx hb hts inn_X0_add_0 hown hAB.1 hP 28 rfl rfl 0 (by decide) (hts (.fieldLink RX0 21 "BarnBench$Acts" "count" "I") (by decide +kernel)) (fun _ h9 => h9) rfl dX0_add_98 ?_
    refine lv_iconst (v := 1) hx hb dX0_add_101 (by decide) ?_
    refine lv_iadd hx hb dX0_add_102 ?_
    refine fC_28_count hx hb hAB hP hD hS hts inn_X0_add_0 hown (hts (.fieldLink RX0 21 "BarnBench$Acts" "count" "I") (by decide +kernel)) dX0_add_103 (fun aC_11 H locs e_12 hP hD hS => ?_)
    have h := h aC_11 e_12
    exact rt_v (aC_11, aWh_5, aTa_7, aWa_9) hQ hx hb hr hlk hP hD hS ⟨Nat.zero_le _, Nat.zero_le _⟩ dX0_add_106 h
  refine lv_aload_n hx hb dX0_add_0 rfl (lv_at hl 0 rfl) ?_
  refine va_get (D := D) (ci := 0) (C := RX0) (T := TX0) (N := 4) hx hb hts inn_X0_add_0 hown hAB.1 hP 28 rfl rfl 0 (by decide) (hts (.fieldLink RX0 21 "BarnBench$Acts" "count" "I") (by decide +kernel)) (fun _ h9 => h9) rfl dX0_add_1 ?_
  refine lv_bipush (v := 30) hx hb dX0_add_4 (by decide) ?_
  refine lv_icmp_lt (tgt := 66) hx hb dX0_add_6 (by decide) (fun c_13 => ?_) (fun c_13 => ?_)
  · have h := h.1 c_13
    exact B66 aC aWh aTa aWa h H locs ls hP hD hS (lv_sub hl [0, 1, 2, 3] rfl)
  · have h := h.2 c_13
    refine lv_aload_n hx hb dX0_add_9 rfl (lv_at hl 0 rfl) ?_
    refine lv_bipush (v := 29) hx hb dX0_add_10 (by decide) ?_
    refine fC_28_count hx hb hAB hP hD hS hts inn_X0_add_0 hown (hts (.fieldLink RX0 21 "BarnBench$Acts" "count" "I") (by decide +kernel)) dX0_add_12 (fun aC_14 H locs e_15 hP hD hS => ?_)
    have h := h aC_14 e_15
    refine lv_aload_n hx hb dX0_add_15 rfl (lv_at hl 0 rfl) ?_
    refine va_get (D := D) (ci := 0) (C := RX0) (T := TX0) (N := 4) hx hb hts inn_X0_add_0 hown hAB.1 hP 28 rfl rfl 1 (by decide) (hts (.fieldLink RX0 9 "BarnBench$Acts" "what" "[I") (by decide +kernel)) (fun _ h9 => h9) rfl dX0_add_16 ?_
    refine lv_iconst (v := 1) hx hb dX0_add_19 (by decide) ?_
    refine lv_aload_n hx hb dX0_add_20 rfl (lv_at hl 0 rfl) ?_
    refine va_get (D := D) (ci := 0) (C := RX0) (T := TX0) (N := 4) hx hb hts inn_X0_add_0 hown hAB.1 hP 28 rfl rfl 1 (by decide) (hts (.fieldLink RX0 9 "BarnBench$Acts" "what" "[I") (by decide +kernel)) (fun _ h9 => h9) rfl dX0_add_21 ?_
    refine lv_iconst (v := 0) hx hb dX0_add_24 (by decide) ?_
    refine lv_aload_n hx hb dX0_add_25 rfl (lv_at hl 0 rfl) ?_
    refine va_get (D := D) (ci := 0) (C := RX0) (T := TX0) (N := 4) hx hb hts inn_X0_add_0 hown hAB.1 hP 28 rfl rfl 0 (by decide) (hts (.fieldLink RX0 21 "BarnBench$Acts" "count" "I") (by decide +kernel)) (fun _ h9 => h9) rfl dX0_add_26 ?_
    refine va_copyi (rest := []) hx hb (by rw [hml]; exact hl.1.symm) hown (hts (.methodLink RX0 25 arraycopyName) (by decide +kernel)) (hts (.native arraycopyName) (by decide +kernel)) (hts (.static arraycopyName) (by decide +kernel)) (hts (.initialized "java/lang/System") (by decide +kernel)) hAB.1 hP hD hS 29 29 0 0 rfl rfl rfl rfl rfl h.1 h.2.1 h.2.2.1 h.2.2.2.1 h.2.2.2.2.1 (fun _ _ => rfl) (Nat.le_of_ble_eq_true rfl) (Nat.le_of_ble_eq_true rfl) dX0_add_29 (fun H locs hP hD hS => ?_)
    have h := h.2.2.2.2.2
    obtain ⟨aWh_17, e_16⟩ : ∃ z, z = va_cpy aWh aWh (Int32.toNatClampNeg 1) (Int32.toNatClampNeg 0) (Int32.toNatClampNeg aC_14) := ⟨_, rfl⟩
    have hP : va_P D vwCl (WC cI cJ cE cD ad bd dd bHK bHP bPF bWC bRi bBe bFi bWa dB dS dN tC tKi tEa tHa tPr tEx tSt tTo tBe kC kKi kEa kHa kPr kEx kSt kTo kBe aC_14 aWh_17 aTa aWa iRo iEa iLa cC nC nFo nQd nRo nBe nEa nMi nHa nER nMR nTh nPa nOu nFr nQu eM eL eC eS eB eE eF eG) H := by rw [e_16]; exact hP
    have hD : va_D A (WC cI cJ cE cD ad bd dd bHK bHP bPF bWC bRi bBe bFi bWa dB dS dN tC tKi tEa tHa tPr tEx tSt tTo tBe kC kKi kEa kHa kPr kEx kSt kTo kBe aC_14 aWh_17 aTa aWa iRo iEa iLa cC nC nFo nQd nRo nBe nEa nMi nHa nER nMR nTh nPa nOu nFr nQu eM eL eC eS eB eE eF eG) := by rw [e_16]; exact hD
    have h := h aWh_17 e_16
    refine lv_aload_n hx hb dX0_add_32 rfl (lv_at hl 0 rfl) ?_
    refine va_get (D := D) (ci := 0) (C := RX0) (T := TX0) (N := 4) hx hb hts inn_X0_add_0 hown hAB.1 hP 28 rfl rfl 2 (by decide) (hts (.fieldLink RX0 15 "BarnBench$Acts" "task" "[I") (by decide +kernel)) (fun _ h9 => h9) rfl dX0_add_33 ?_
    refine lv_iconst (v := 1) hx hb dX0_add_36 (by decide) ?_
    refine lv_aload_n hx hb dX0_add_37 rfl (lv_at hl 0 rfl) ?_
    refine va_get (D := D) (ci := 0) (C := RX0) (T := TX0) (N := 4) hx hb hts inn_X0_add_0 hown hAB.1 hP 28 rfl rfl 2 (by decide) (hts (.fieldLink RX0 15 "BarnBench$Acts" "task" "[I") (by decide +kernel)) (fun _ h9 => h9) rfl dX0_add_38 ?_
    refine lv_iconst (v := 0) hx hb dX0_add_41 (by decide) ?_
    refine lv_aload_n hx hb dX0_add_42 rfl (lv_at hl 0 rfl) ?_
    refine va_get (D := D) (ci := 0) (C := RX0) (T := TX0) (N := 4) hx hb hts inn_X0_add_0 hown hAB.1 hP 28 rfl rfl 0 (by decide) (hts (.fieldLink RX0 21 "BarnBench$Acts" "count" "I") (by decide +kernel)) (fun _ h9 => h9) rfl dX0_add_43 ?_
    refine va_copyi (rest := []) hx hb (by rw [hml]; exact hl.1.symm) hown (hts (.methodLink RX0 25 arraycopyName) (by decide +kernel)) (hts (.native arraycopyName) (by decide +kernel)) (hts (.static arraycopyName) (by decide +kernel)) (hts (.initialized "java/lang/System") (by decide +kernel)) hAB.1 hP hD hS 30 30 0 0 rfl rfl rfl rfl rfl h.1 h.2.1 h.2.2.1 h.2.2.2.1 h.2.2.2.2.1 (fun _ _ => rfl) (Nat.le_of_ble_eq_true rfl) (Nat.le_of_ble_eq_true rfl) dX0_add_46 (fun H locs hP hD hS => ?_)
    have h := h.2.2.2.2.2
    obtain ⟨aTa_19, e_18⟩ : ∃ z, z = va_cpy aTa aTa (Int32.toNatClampNeg 1) (Int32.toNatClampNeg 0) (Int32.toNatClampNeg aC_14) := ⟨_, rfl⟩
    have hP : va_P D vwCl (WC cI cJ cE cD ad bd dd bHK bHP bPF bWC bRi bBe bFi bWa dB dS dN tC tKi tEa tHa tPr tEx tSt tTo tBe kC kKi kEa kHa kPr kEx kSt kTo kBe aC_14 aWh_17 aTa_19 aWa iRo iEa iLa cC nC nFo nQd nRo nBe nEa nMi nHa nER nMR nTh nPa nOu nFr nQu eM eL eC eS eB eE eF eG) H := by rw [e_18]; exact hP
    have hD : va_D A (WC cI cJ cE cD ad bd dd bHK bHP bPF bWC bRi bBe bFi bWa dB dS dN tC tKi tEa tHa tPr tEx tSt tTo tBe kC kKi kEa kHa kPr kEx kSt kTo kBe aC_14 aWh_17 aTa_19 aWa iRo iEa iLa cC nC nFo nQd nRo nBe nEa nMi nHa nER nMR nTh nPa nOu nFr nQu eM eL eC eS eB eE eF eG) := by rw [e_18]; exact hD
    have h := h aTa_19 e_18
    refine lv_aload_n hx hb dX0_add_49 rfl (lv_at hl 0 rfl) ?_
    refine va_get (D := D) (ci := 0) (C := RX0) (T := TX0) (N := 4) hx hb hts inn_X0_add_0 hown hAB.1 hP 28 rfl rfl 3 (by decide) (hts (.fieldLink RX0 18 "BarnBench$Acts" "was" "[I") (by decide +kernel)) (fun _ h9 => h9) rfl dX0_add_50 ?_
    refine lv_iconst (v := 1) hx hb dX0_add_53 (by decide) ?_
    refine lv_aload_n hx hb dX0_add_54 rfl (lv_at hl 0 rfl) ?_
    refine va_get (D := D) (ci := 0) (C := RX0) (T := TX0) (N := 4) hx hb hts inn_X0_add_0 hown hAB.1 hP 28 rfl rfl 3 (by decide) (hts (.fieldLink RX0 18 "BarnBench$Acts" "was" "[I") (by decide +kernel)) (fun _ h9 => h9) rfl dX0_add_55 ?_
    refine lv_iconst (v := 0) hx hb dX0_add_58 (by decide) ?_
    refine lv_aload_n hx hb dX0_add_59 rfl (lv_at hl 0 rfl) ?_
    refine va_get (D := D) (ci := 0) (C := RX0) (T := TX0) (N := 4) hx hb hts inn_X0_add_0 hown hAB.1 hP 28 rfl rfl 0 (by decide) (hts (.fieldLink RX0 21 "BarnBench$Acts" "count" "I") (by decide +kernel)) (fun _ h9 => h9) rfl dX0_add_60 ?_
    refine va_copyi (rest := []) hx hb (by rw [hml]; exact hl.1.symm) hown (hts (.methodLink RX0 25 arraycopyName) (by decide +kernel)) (hts (.native arraycopyName) (by decide +kernel)) (hts (.static arraycopyName) (by decide +kernel)) (hts (.initialized "java/lang/System") (by decide +kernel)) hAB.1 hP hD hS 31 31 0 0 rfl rfl rfl rfl rfl h.1 h.2.1 h.2.2.1 h.2.2.2.1 h.2.2.2.2.1 (fun _ _ => rfl) (Nat.le_of_ble_eq_true rfl) (Nat.le_of_ble_eq_true rfl) dX0_add_63 (fun H locs hP hD hS => ?_)
    have h := h.2.2.2.2.2
    obtain ⟨aWa_21, e_20⟩ : ∃ z, z = va_cpy aWa aWa (Int32.toNatClampNeg 1) (Int32.toNatClampNeg 0) (Int32.toNatClampNeg aC_14) := ⟨_, rfl⟩
    have hP : va_P D vwCl (WC cI cJ cE cD ad bd dd bHK bHP bPF bWC bRi bBe bFi bWa dB dS dN tC tKi tEa tHa tPr tEx tSt tTo tBe kC kKi kEa kHa kPr kEx kSt kTo kBe aC_14 aWh_17 aTa_19 aWa_21 iRo iEa iLa cC nC nFo nQd nRo nBe nEa nMi nHa nER nMR nTh nPa nOu nFr nQu eM eL eC eS eB eE eF eG) H := by rw [e_20]; exact hP
    have hD : va_D A (WC cI cJ cE cD ad bd dd bHK bHP bPF bWC bRi bBe bFi bWa dB dS dN tC tKi tEa tHa tPr tEx tSt tTo tBe kC kKi kEa kHa kPr kEx kSt kTo kBe aC_14 aWh_17 aTa_19 aWa_21 iRo iEa iLa cC nC nFo nQd nRo nBe nEa nMi nHa nER nMR nTh nPa nOu nFr nQu eM eL eC eS eB eE eF eG) := by rw [e_20]; exact hD
    have h := h aWa_21 e_20
    exact B66 aC_14 aWh_17 aTa_19 aWa_21 h H locs ls hP hD hS (lv_sub hl [0, 1, 2, 3] rfl)
def wp_X6_beginEarly_b87 (k37 : (Int32) → (Int32) → Prop) (x6_13 : Int32) (x7_14 : Int32) : Prop :=
  ∀ x7_15 : Int32, x7_15 = x7_14 + 1 → k37 x6_13 x7_15
def wp_X6_beginEarly_L37 (f2 : Nat → Int32) (tBe : Nat → Int32) (iRo_1 : Nat → Int32) (x4_3 : Int32) (iEa_4 : Nat → Int32) (x5_8 : Int32) (x37 : (Int32) → Prop) : Nat → (Int32) → (Int32) → Prop
  | 0, _, _ => False
  | n37 + 1, x6_10, x7_11 =>
  ((x4_3 ≤ x7_11 → x37 x6_10) ∧
   (¬ x4_3 ≤ x7_11 → vp_in x7_11 12 ∧ ∀ x8_18 : Int32, x8_18 = (iRo_1 (Int32.toNatClampNeg x7_11)) → vp_in x5_8 12 ∧ wp_X7_hasBit (tBe (Int32.toNatClampNeg x5_8)) x8_18 (fun (r_20 : Int32) => ((r_20 = 0 → wp_X6_beginEarly_b87 (wp_X6_beginEarly_L37 f2 tBe iRo_1 x4_3 iEa_4 x5_8 x37 n37) x6_10 x7_11) ∧
   (¬ r_20 = 0 → vp_in x8_18 12 ∧ vp_in x8_18 12 ∧ ∀ x6_22 : Int32, x6_22 = (if x6_10 < ((iEa_4 (Int32.toNatClampNeg x8_18)) + (f2 (Int32.toNatClampNeg x8_18))) then ((iEa_4 (Int32.toNatClampNeg x8_18)) + (f2 (Int32.toNatClampNeg x8_18))) else x6_10) → wp_X6_beginEarly_b87 (wp_X6_beginEarly_L37 f2 tBe iRo_1 x4_3 iEa_4 x5_8 x37 n37) x6_22 x7_11)))))
def wp_X6_beginEarly_L13 (f2 : Nat → Int32) (tBe : Nat → Int32) (tC : Int32) (iRo_1 : Nat → Int32) (x13 : (Int32) → (Nat → Int32) → Prop) : Nat → (Int32) → (Int32) → (Nat → Int32) → Prop
  | 0, _, _, _ => False
  | n13 + 1, x3_2, x4_3, iEa_4 =>
  ((tC ≤ x4_3 → x13 x3_2 iEa_4) ∧
   (¬ tC ≤ x4_3 → vp_in x4_3 12 ∧ ∀ x5_8 : Int32, x5_8 = (iRo_1 (Int32.toNatClampNeg x4_3)) → (∃ n37 : Nat, wp_X6_beginEarly_L37 f2 tBe iRo_1 x4_3 iEa_4 x5_8 (fun (x6_12 : Int32) => vp_in x5_8 12 ∧ ∀ iEa_24 : Nat → Int32, iEa_24 = upd iEa_4 (Int32.toNatClampNeg x5_8) x6_12 → vp_in x5_8 12 ∧ ∀ x3_26 : Int32, x3_26 = (if x3_2 < (x6_12 + (f2 (Int32.toNatClampNeg x5_8))) then (x6_12 + (f2 (Int32.toNatClampNeg x5_8))) else x3_2) → ∀ x4_28 : Int32, x4_28 = x4_3 + 1 → (wp_X6_beginEarly_L13 f2 tBe tC iRo_1 x13 n13) x3_26 x4_28 iEa_24) n37 0 0)))
def wp_X6_beginEarly (f2 : Nat → Int32) (tC : Int32) (tBe : Nat → Int32) (iRo : Nat → Int32) (iEa : Nat → Int32)  (Qp : Int32 → (Nat → Int32) → (Nat → Int32) → Prop) : Prop :=
  wp_X5_arrange iRo tC tBe (fun (iRo_1 : Nat → Int32) => (∃ n13 : Nat, wp_X6_beginEarly_L13 f2 tBe tC iRo_1 (fun (x3_5 : Int32) (iEa_6 : Nat → Int32) => Qp x3_5 iRo_1 iEa_6) n13 0 0 iEa))
theorem inn_X6_beginEarly_5 : ∀ w ∈ u_ws RX5 TX5 9, w ∈ wsX6_beginEarly := fun _ h => List.mem_cons_of_mem _ (List.mem_append_right _ h)
theorem inn_X6_beginEarly_6 : ∀ w ∈ u_ws RX6 TX6 3, w ∈ wsX6_beginEarly := fun _ h => List.mem_cons_of_mem _ (List.mem_append_left _ (List.mem_append_right _ h))
def rm_X6_beginEarly : Room := { frames := 2, cells := 0, slots := 0, locals := 46 }
set_option maxHeartbeats 4000000 in
set_option maxRecDepth 100000 in
theorem ct_X6_beginEarly_1 {l : Launch} {D : va_G} {cI cJ cZ cE cD cK : ClassId} {ad : Nat → Nat} {bd dd : Nat → Nat → Nat} {bHK : Int32} {bHP : Int32} {bPF : Int32} {bWC : Int32} {bRi : Int32} {bBe : Int32} {bFi : Int32} {bWa : Nat → Int32} {dB : Nat → Int32} {dS : Nat → Int32} {dN : Nat → Nat → Int64} {tC : Int32} {tKi : Nat → Int32} {tEa : Nat → Int32} {tHa : Nat → Int32} {tPr : Nat → Int32} {tEx : Nat → Int32} {tSt : Nat → Int32} {tTo : Nat → Int32} {tBe : Nat → Int32} {kC : Int32} {kKi : Nat → Int32} {kEa : Nat → Int32} {kHa : Nat → Int32} {kPr : Nat → Int32} {kEx : Nat → Int32} {kSt : Nat → Int32} {kTo : Nat → Int32} {kBe : Nat → Int32} {aC : Int32} {aWh : Nat → Int32} {aTa : Nat → Int32} {aWa : Nat → Int32} {iRo : Nat → Int32} {iEa : Nat → Int32} {iLa : Nat → Int32} {cC : Int32} {nC : Int32} {nFo : Int32} {nQd : Int32} {nRo : Nat → Int32} {nBe : Nat → Int32} {nEa : Nat → Int32} {nMi : Nat → Int32} {nHa : Nat → Int32} {nER : Nat → Int32} {nMR : Nat → Int32} {nTh : Nat → Int32} {nPa : Nat → Int32} {nOu : Nat → Int32} {nFr : Nat → Int32} {nQu : Nat → Int32} {eM : Nat} {eL : Nat → Int32} {eC : Nat → Int64} {eS : Nat → Int64} {eB : Nat → Nat → Int32} {eE : Nat → Nat → Int32} {eF : Nat → Nat → Int32} {eG : Nat → Nat → Int32}    {Qp : Int32 → (Nat → Int32) → (Nat → Int32) → Prop}   (h : wp_X6_beginEarly tTo tC tBe iRo iEa Qp) : CTi l yX6_beginEarly wsX6_beginEarly rm_X6_beginEarly D (tyL cI cJ cZ cE cD cK) [.ref (ad 32), .ref (ad 10), .ref (ad 17)] (WC cI cJ cE cD ad bd dd bHK bHP bPF bWC bRi bBe bFi bWa dB dS dN tC tKi tEa tHa tPr tEx tSt tTo tBe kC kKi kEa kHa kPr kEx kSt kTo kBe aC aWh aTa aWa iRo iEa iLa cC nC nFo nQd nRo nBe nEa nMi nHa nER nMR nTh nPa nOu nFr nQu eM eL eC eS eB eE eF eG) (fun (r : Int32) (u : (Nat → Int32) × (Nat → Int32)) => Qp r u.1 u.2) (fun u : (Nat → Int32) × (Nat → Int32) => (WC cI cJ cE cD ad bd dd bHK bHP bPF bWC bRi bBe bFi bWa dB dS dN tC tKi tEa tHa tPr tEx tSt tTo tBe kC kKi kEa kHa kPr kEx kSt kTo kBe aC aWh aTa aWa u.1 u.2 iLa cC nC nFo nQd nRo nBe nEa nMi nHa nER nMR nTh nPa nOu nFr nQu eM eL eC eS eB eE eF eG)) 0 0 := by
  refine ent_i (cc := cX6_beginEarly) (maxL := 9) (ret := (some .int)) (by decide) rfl (Nat.le_of_ble_eq_true rfl) ?_
  intro p e s m args below meth c A Q hQ hx hb hr hml hown hts hlk hA hAB hP hD hS ls hl
  have hown : s.vm.findClass RX6 = some m.cls := hown
  have hl : lv_has ls 9 [(0, .ref (ad 32)), (1, .ref (ad 10)), (2, .ref (ad 17))] := hl
  generalize hH : s.heap = H at hP ⊢
  have hS : va_S A s.heap H [] := by rw [← hH]; exact hS
  clear hH
  generalize ([] : List Loc) = locs at hS ⊢
  refine lv_aload_n hx hb dX6_beginEarly_0 rfl (lv_at hl 1 rfl) ?_
  refine lv_aload_n hx hb dX6_beginEarly_1 rfl (lv_at hl 0 rfl) ?_
  refine va_get (D := D) (ci := 6) (C := RX6) (T := TX6) (N := 3) hx hb hts inn_X6_beginEarly_6 hown hAB.1 hP 32 rfl rfl 0 (by decide) (hts (.fieldLink RX6 9 "BarnBench$Timing" "row" "[I") (by decide +kernel)) (fun _ h9 => h9) rfl dX6_beginEarly_2 ?_
  refine cl_v hD hS hA (va_runV (As := [.ref (ad 33)]) (rest := []) ⟨hx, hb, hml, hown, hts⟩ (ct_X5_arrange_1 h H.size) (cwV 1 hts gX6_beginEarly_X5_arrange rfl rfl rfl (by decide +kernel) ⟨Nat.le_of_ble_eq_true rfl, Nat.le_of_ble_eq_true rfl⟩) ⟨CPre.blind, va_recv hAB.1 hP (ci := 5) (q0 := 10) rfl rfl, wd_pre hAB hP hD hS hA⟩ rfl rfl hl.1 rfl (lv_room (Nat.le_of_ble_eq_true rfl)) dX6_beginEarly_5 ⟨Nat.zero_le _, Nat.zero_le _⟩) (fun iRo_1 H locs h hP hD hS => ?_)
  have hP : va_P D vwCl (WC cI cJ cE cD ad bd dd bHK bHP bPF bWC bRi bBe bFi bWa dB dS dN tC tKi tEa tHa tPr tEx tSt tTo tBe kC kKi kEa kHa kPr kEx kSt kTo kBe aC aWh aTa aWa iRo_1 iEa iLa cC nC nFo nQd nRo nBe nEa nMi nHa nER nMR nTh nPa nOu nFr nQu eM eL eC eS eB eE eF eG) H := hP
  have hD : va_D A (WC cI cJ cE cD ad bd dd bHK bHP bPF bWC bRi bBe bFi bWa dB dS dN tC tKi tEa tHa tPr tEx tSt tTo tBe kC kKi kEa kHa kPr kEx kSt kTo kBe aC aWh aTa aWa iRo_1 iEa iLa cC nC nFo nQd nRo nBe nEa nMi nHa nER nMR nTh nPa nOu nFr nQu eM eL eC eS eB eE eF eG) := hD
  refine lv_iconst (v := 0) hx hb dX6_beginEarly_8 (by decide) ?_
  refine lv_istore_n (lv' := [(3, .int 0), (0, .ref (ad 32)), (1, .ref (ad 10)), (2, .ref (ad 17))]) hx hb dX6_beginEarly_9 rfl hl (by decide) rfl (fun ls hl => ?_)
  refine lv_iconst (v := 0) hx hb dX6_beginEarly_10 (by decide) ?_
  refine lv_istore (lv' := [(4, .int 0), (3, .int 0), (0, .ref (ad 32)), (1, .ref (ad 10)), (2, .ref (ad 17))]) hx hb dX6_beginEarly_11 hl (by decide) rfl (fun ls hl => ?_)
  have L13 : ∀ (x13 : (Int32) → (Nat → Int32) → Prop) (hk13 : ∀ (x3_5 : Int32) (iEa_6 : Nat → Int32), x13 x3_5 iEa_6 → ∀ (H : Heap) (locs : List Loc) (ls : Array Slot), va_P D vwCl (WC cI cJ cE cD ad bd dd bHK bHP bPF bWC bRi bBe bFi bWa dB dS dN tC tKi tEa tHa tPr tEx tSt tTo tBe kC kKi kEa kHa kPr kEx kSt kTo kBe aC aWh aTa aWa iRo_1 iEa_6 iLa cC nC nFo nQd nRo nBe nEa nMi nHa nER nMR nTh nPa nOu nFr nQu eM eL eC eS eB eE eF eG) H → va_D A (WC cI cJ cE cD ad bd dd bHK bHP bPF bWC bRi bBe bFi bWa dB dS dN tC tKi tEa tHa tPr tEx tSt tTo tBe kC kKi kEa kHa kPr kEx kSt kTo kBe aC aWh aTa aWa iRo_1 iEa_6 iLa cC nC nFo nQd nRo nBe nEa nMi nHa nER nMR nTh nPa nOu nFr nQu eM eL eC eS eB eE eF eG) → va_S A s.heap H locs → lv_has ls 9 [(3, .int x3_5)] → W p l e (headSpec wsX6_beginEarly rm_X6_beginEarly).room s m args below meth c H locs 0 0 Q (F0 m 120 ls [])) (n13 : Nat) (x3_2 : Int32) (x4_3 : Int32) (iEa_4 : Nat → Int32), wp_X6_beginEarly_L13 tTo tBe tC iRo_1 x13 n13 x3_2 x4_3 iEa_4 → ∀ (H : Heap) (locs : List Loc) (ls : Array Slot), va_P D vwCl (WC cI cJ cE cD ad bd dd bHK bHP bPF bWC bRi bBe bFi bWa dB dS dN tC tKi tEa tHa tPr tEx tSt tTo tBe kC kKi kEa kHa kPr kEx kSt kTo kBe aC aWh aTa aWa iRo_1 iEa_4 iLa cC nC nFo nQd nRo nBe nEa nMi nHa nER nMR nTh nPa nOu nFr nQu eM eL eC eS eB eE eF eG) H → va_D A (WC cI cJ cE cD ad bd dd bHK bHP bPF bWC bRi bBe bFi bWa dB dS dN tC tKi tEa tHa tPr tEx tSt tTo tBe kC kKi kEa kHa kPr kEx kSt kTo kBe aC aWh aTa aWa iRo_1 iEa_4 iLa cC nC nFo nQd nRo nBe nEa nMi nHa nER nMR nTh nPa nOu nFr nQu eM eL eC eS eB eE eF eG) → va_S A s.heap H locs → lv_has ls 9 [(0, .ref (ad 32)), (1, .ref (ad 10)), (2, .ref (ad 17)), (3, .int x3_2), (4, .int x4_3)] → W p l e (headSpec wsX6_beginEarly rm_X6_beginEarly).room s m args below meth c H locs 0 0 Q (F0 m 13 ls []) := by
    intro x13 hk13 n13
    induction n13 with
    | zero => intro x3_2 x4_3 iEa_4 h; exact False.elim h
    | succ n13 ih13 =>
      intro x3_2 x4_3 iEa_4 h H locs ls hP hD hS hl
      refine lv_iload hx hb dX6_beginEarly_13 (lv_at hl 4 rfl) ?_
      refine lv_aload_n hx hb dX6_beginEarly_15 rfl (lv_at hl 1 rfl) ?_
      refine va_get (D := D) (ci := 5) (C := RX5) (T := TX5) (N := 9) hx hb hts inn_X6_beginEarly_5 hown hAB.1 hP 10 rfl rfl 0 (by decide) (hts (.fieldLink RX6 27 "BarnBench$Tasks" "count" "I") (by decide +kernel)) (fun _ h9 => h9) rfl dX6_beginEarly_16 ?_
      refine lv_icmp_ge (tgt := 120) hx hb dX6_beginEarly_19 (by decide) (fun c_7 => ?_) (fun c_7 => ?_)
      · have h := h.1 c_7
        exact hk13 x3_2 iEa_4 h H locs ls hP hD hS (lv_sub hl [3] rfl)
      · have h := h.2 c_7
        refine lv_aload_n hx hb dX6_beginEarly_22 rfl (lv_at hl 0 rfl) ?_
        refine va_get (D := D) (ci := 6) (C := RX6) (T := TX6) (N := 3) hx hb hts inn_X6_beginEarly_6 hown hAB.1 hP 32 rfl rfl 0 (by decide) (hts (.fieldLink RX6 9 "BarnBench$Timing" "row" "[I") (by decide +kernel)) (fun _ h9 => h9) rfl dX6_beginEarly_23 ?_
        refine lv_iload hx hb dX6_beginEarly_26 (lv_at hl 4 rfl) ?_
        refine va_iald hx hb hAB.1 hP 33 0 rfl rfl h.1 dX6_beginEarly_28 ?_
        have h := h.2
        refine lv_topi (fun x5_8 e_9 => ?_)
        have h := h x5_8 e_9
        refine lv_istore (lv' := [(5, .int x5_8), (0, .ref (ad 32)), (1, .ref (ad 10)), (2, .ref (ad 17)), (3, .int x3_2), (4, .int x4_3)]) hx hb dX6_beginEarly_29 hl (by decide) rfl (fun ls hl => ?_)
        refine lv_iconst (v := 0) hx hb dX6_beginEarly_31 (by decide) ?_
        refine lv_istore (lv' := [(6, .int 0), (5, .int x5_8), (0, .ref (ad 32)), (1, .ref (ad 10)), (2, .ref (ad 17)), (3, .int x3_2), (4, .int x4_3)]) hx hb dX6_beginEarly_32 hl (by decide) rfl (fun ls hl => ?_)
        refine lv_iconst (v := 0) hx hb dX6_beginEarly_34 (by decide) ?_
        refine lv_istore (lv' := [(7, .int 0), (6, .int 0), (5, .int x5_8), (0, .ref (ad 32)), (1, .ref (ad 10)), (2, .ref (ad 17)), (3, .int x3_2), (4, .int x4_3)]) hx hb dX6_beginEarly_35 hl (by decide) rfl (fun ls hl => ?_)
        have L37 : ∀ (x37 : (Int32) → Prop) (hk37 : ∀ (x6_12 : Int32), x37 x6_12 → ∀ (H : Heap) (locs : List Loc) (ls : Array Slot), va_P D vwCl (WC cI cJ cE cD ad bd dd bHK bHP bPF bWC bRi bBe bFi bWa dB dS dN tC tKi tEa tHa tPr tEx tSt tTo tBe kC kKi kEa kHa kPr kEx kSt kTo kBe aC aWh aTa aWa iRo_1 iEa_4 iLa cC nC nFo nQd nRo nBe nEa nMi nHa nER nMR nTh nPa nOu nFr nQu eM eL eC eS eB eE eF eG) H → va_D A (WC cI cJ cE cD ad bd dd bHK bHP bPF bWC bRi bBe bFi bWa dB dS dN tC tKi tEa tHa tPr tEx tSt tTo tBe kC kKi kEa kHa kPr kEx kSt kTo kBe aC aWh aTa aWa iRo_1 iEa_4 iLa cC nC nFo nQd nRo nBe nEa nMi nHa nER nMR nTh nPa nOu nFr nQu eM eL eC eS eB eE eF eG) → va_S A s.heap H locs → lv_has ls 9 [(0, .ref (ad 32)), (1, .ref (ad 10)), (2, .ref (ad 17)), (3, .int x3_2), (4, .int x4_3), (5, .int x5_8), (6, .int x6_12)] → W p l e (headSpec wsX6_beginEarly rm_X6_beginEarly).room s m args below meth c H locs 0 0 Q (F0 m 93 ls [])) (n37 : Nat) (x6_10 : Int32) (x7_11 : Int32), wp_X6_beginEarly_L37 tTo tBe iRo_1 x4_3 iEa_4 x5_8 x37 n37 x6_10 x7_11 → ∀ (H : Heap) (locs : List Loc) (ls : Array Slot), va_P D vwCl (WC cI cJ cE cD ad bd dd bHK bHP bPF bWC bRi bBe bFi bWa dB dS dN tC tKi tEa tHa tPr tEx tSt tTo tBe kC kKi kEa kHa kPr kEx kSt kTo kBe aC aWh aTa aWa iRo_1 iEa_4 iLa cC nC nFo nQd nRo nBe nEa nMi nHa nER nMR nTh nPa nOu nFr nQu eM eL eC eS eB eE eF eG) H → va_D A (WC cI cJ cE cD ad bd dd bHK bHP bPF bWC bRi bBe bFi bWa dB dS dN tC tKi tEa tHa tPr tEx tSt tTo tBe kC kKi kEa kHa kPr kEx kSt kTo kBe aC aWh aTa aWa iRo_1 iEa_4 iLa cC nC nFo nQd nRo nBe nEa nMi nHa nER nMR nTh nPa nOu nFr nQu eM eL eC eS eB eE eF eG) → va_S A s.heap H locs → lv_has ls 9 [(0, .ref (ad 32)), (1, .ref (ad 10)), (2, .ref (ad 17)), (3, .int x3_2), (4, .int x4_3), (5, .int x5_8), (6, .int x6_10), (7, .int x7_11)] → W p l e (headSpec wsX6_beginEarly rm_X6_beginEarly).room s m args below meth c H locs 0 0 Q (F0 m 37 ls []) := by
          intro x37 hk37 n37
          induction n37 with
          | zero => intro x6_10 x7_11 h; exact False.elim h
          | succ n37 ih37 =>
            intro x6_10 x7_11 h H locs ls hP hD hS hl
            have B87 : ∀ (x6_13 : Int32) (x7_14 : Int32), wp_X6_beginEarly_b87 (wp_X6_beginEarly_L37 tTo tBe iRo_1 x4_3 iEa_4 x5_8 x37 n37) x6_13 x7_14 → ∀ (H : Heap) (locs : List Loc) (ls : Array Slot), va_P D vwCl (WC cI cJ cE cD ad bd dd bHK bHP bPF bWC bRi bBe bFi bWa dB dS dN tC tKi tEa tHa tPr tEx tSt tTo tBe kC kKi kEa kHa kPr kEx kSt kTo kBe aC aWh aTa aWa iRo_1 iEa_4 iLa cC nC nFo nQd nRo nBe nEa nMi nHa nER nMR nTh nPa nOu nFr nQu eM eL eC eS eB eE eF eG) H → va_D A (WC cI cJ cE cD ad bd dd bHK bHP bPF bWC bRi bBe bFi bWa dB dS dN tC tKi tEa tHa tPr tEx tSt tTo tBe kC kKi kEa kHa kPr kEx kSt kTo kBe aC aWh aTa aWa iRo_1 iEa_4 iLa cC nC nFo nQd nRo nBe nEa nMi nHa nER nMR nTh nPa nOu nFr nQu eM eL eC eS eB eE eF eG) → va_S A s.heap H locs → lv_has ls 9 [(0, .ref (ad 32)), (1, .ref (ad 10)), (2, .ref (ad 17)), (3, .int x3_2), (4, .int x4_3), (5, .int x5_8), (6, .int x6_13), (7, .int x7_14)] → W p l e (headSpec wsX6_beginEarly rm_X6_beginEarly).room s m args below meth c H locs 0 0 Q (F0 m 87 ls []) := by
              intro x6_13 x7_14 h H locs ls hP hD hS hl
              obtain ⟨x7_15, e_16⟩ : ∃ y : Int32, y = x7_14 + 1 := ⟨_, rfl⟩
              have h := h x7_15 e_16
              refine lv_iinc (v := x7_15) (lv' := [(7, .int x7_15), (0, .ref (ad 32)), (1, .ref (ad 10)), (2, .ref (ad 17)), (3, .int x3_2), (4, .int x4_3), (5, .int x5_8), (6, .int x6_13)]) hx hb dX6_beginEarly_87 hl (k := 7) rfl (by rw [e_16]; rfl) (by decide) rfl (fun ls hl => ?_)
              refine lv_goto (tgt := 37) hx hb dX6_beginEarly_90 (by decide) ?_
              exact ih37 x6_13 x7_15 h H locs ls hP hD hS (lv_sub hl [1, 2, 3, 4, 5, 6, 7, 0] rfl)
            refine lv_iload hx hb dX6_beginEarly_37 (lv_at hl 7 rfl) ?_
            refine lv_iload hx hb dX6_beginEarly_39 (lv_at hl 4 rfl) ?_
            refine lv_icmp_ge (tgt := 93) hx hb dX6_beginEarly_41 (by decide) (fun c_17 => ?_) (fun c_17 => ?_)
            · have h := h.1 c_17
              exact hk37 x6_10 h H locs ls hP hD hS (lv_sub hl [0, 1, 2, 3, 4, 5, 6] rfl)
            · have h := h.2 c_17
              refine lv_aload_n hx hb dX6_beginEarly_44 rfl (lv_at hl 0 rfl) ?_
              refine va_get (D := D) (ci := 6) (C := RX6) (T := TX6) (N := 3) hx hb hts inn_X6_beginEarly_6 hown hAB.1 hP 32 rfl rfl 0 (by decide) (hts (.fieldLink RX6 9 "BarnBench$Timing" "row" "[I") (by decide +kernel)) (fun _ h9 => h9) rfl dX6_beginEarly_45 ?_
              refine lv_iload hx hb dX6_beginEarly_48 (lv_at hl 7 rfl) ?_
              refine va_iald hx hb hAB.1 hP 33 0 rfl rfl h.1 dX6_beginEarly_50 ?_
              have h := h.2
              refine lv_topi (fun x8_18 e_19 => ?_)
              have h := h x8_18 e_19
              refine lv_istore (lv' := [(8, .int x8_18), (0, .ref (ad 32)), (1, .ref (ad 10)), (2, .ref (ad 17)), (3, .int x3_2), (4, .int x4_3), (5, .int x5_8), (6, .int x6_10), (7, .int x7_11)]) hx hb dX6_beginEarly_51 hl (by decide) rfl (fun ls hl => ?_)
              refine lv_aload_n hx hb dX6_beginEarly_53 rfl (lv_at hl 2 rfl) ?_
              refine va_get (D := D) (ci := 5) (C := RX5) (T := TX5) (N := 9) hx hb hts inn_X6_beginEarly_5 hown hAB.1 hP 10 rfl rfl 8 (by decide) (hts (.fieldLink RX6 31 "BarnBench$Tasks" "before" "[I") (by decide +kernel)) (fun _ h9 => h9) rfl dX6_beginEarly_54 ?_
              refine lv_iload hx hb dX6_beginEarly_57 (lv_at hl 6 rfl) ?_
              refine va_iald hx hb hAB.1 hP 18 0 rfl rfl h.1 dX6_beginEarly_59 ?_
              have h := h.2
              refine lv_iload hx hb dX6_beginEarly_60 (lv_at hl 0 rfl) ?_
              refine cl_i hD hS hA (va_runSN (As := [.int (tBe (Int32.toNatClampNeg x5_8)), .int x8_18]) (rest := []) ⟨hx, hb, hml, hown, hts⟩ (ct_X7_hasBit h H.size) ⟨va_cnB 2 hts gX6_beginEarly_X7_hasBit_n34 rfl rfl rfl (hAB.2.1 (.methodLinkNest RX6 34 yX7_hasBit RX7) (by decide +kernel)) (hts (.initialized RX7) (by decide +kernel)) (by decide +kernel) ⟨Nat.le_of_ble_eq_true rfl, Nat.le_of_ble_eq_true rfl⟩, (hts (.static yX7_hasBit) (by decide +kernel)), trivial⟩ ⟨CPre.blind, wd_pre hAB hP hD hS hA⟩ rfl rfl hl.1 rfl (lv_room (Nat.le_of_ble_eq_true rfl)) dX6_beginEarly_62 ⟨Nat.zero_le _, Nat.zero_le _⟩) (fun r_20 u H locs h hP hD hS => ?_)
              refine lv_if_eq (tgt := 87) hx hb dX6_beginEarly_65 (by decide) (fun c_21 => ?_) (fun c_21 => ?_)
              · have h := h.1 c_21
                exact B87 x6_10 x7_11 h H locs ls hP hD hS (lv_sub hl [1, 2, 3, 4, 5, 6, 7, 8] rfl)
              · have h := h.2 c_21
                refine lv_iload hx hb dX6_beginEarly_68 (lv_at hl 7 rfl) ?_
                refine lv_aload_n hx hb dX6_beginEarly_70 rfl (lv_at hl 1 rfl) ?_
                refine va_get (D := D) (ci := 6) (C := RX6) (T := TX6) (N := 3) hx hb hts inn_X6_beginEarly_6 hown hAB.1 hP 32 rfl rfl 1 (by decide) (hts (.fieldLink RX6 15 "BarnBench$Timing" "earlies" "[I") (by decide +kernel)) (fun _ h9 => h9) rfl dX6_beginEarly_71 ?_
                refine lv_iload hx hb dX6_beginEarly_74 (lv_at hl 0 rfl) ?_
                refine va_iald hx hb hAB.1 hP 34 0 rfl rfl h.1 dX6_beginEarly_76 ?_
                have h := h.2
                refine lv_aload_n hx hb dX6_beginEarly_77 rfl (lv_at hl 3 rfl) ?_
                refine lv_iload hx hb dX6_beginEarly_78 (lv_at hl 0 rfl) ?_
                refine va_iald hx hb hAB.1 hP 17 0 rfl rfl h.1 dX6_beginEarly_80 ?_
                have h := h.2
                refine lv_iadd hx hb dX6_beginEarly_81 ?_
                refine va_mmax (rest := []) hx hb (by rw [hml]; exact hl.1.symm) hown (hts (.methodLink RX6 38 Lib.Math.max.name) (by decide +kernel)) (hts (.static Lib.Math.max.name) (by decide +kernel)) (hts (.initialized "java/lang/Math") (by decide +kernel)) (hts (.code Lib.Math.max.name Lib.Math.max.code 2 (some .int)) (by decide +kernel)) (Nat.le_of_ble_eq_true rfl) (Nat.le_of_ble_eq_true rfl) (Nat.zero_le _) (Nat.zero_le _) dX6_beginEarly_82 ?_
                refine lv_topi (fun x6_22 e_23 => ?_)
                have h := h x6_22 e_23
                refine lv_istore (lv' := [(6, .int x6_22), (8, .int x8_18), (0, .ref (ad 32)), (1, .ref (ad 10)), (2, .ref (ad 17)), (3, .int x3_2), (4, .int x4_3), (5, .int x5_8), (7, .int x7_11)]) hx hb dX6_beginEarly_85 hl (by decide) rfl (fun ls hl => ?_)
                exact B87 x6_22 x7_11 h H locs ls hP hD hS (lv_sub hl [2, 3, 4, 5, 6, 7, 0, 8] rfl)
        obtain ⟨n37, h⟩ := h
        refine L37 _ (fun x6_12 h H locs ls hP hD hS hl => ?_) n37 0 0 h H locs ls hP hD hS (lv_sub hl [3, 4, 5, 6, 7, 2, 1, 0] rfl)
        refine lv_aload_n hx hb dX6_beginEarly_93 rfl (lv_at hl 0 rfl) ?_
        refine va_get (D := D) (ci := 6) (C := RX6) (T := TX6) (N := 3) hx hb hts inn_X6_beginEarly_6 hown hAB.1 hP 32 rfl rfl 1 (by decide) (hts (.fieldLink RX6 15 "BarnBench$Timing" "earlies" "[I") (by decide +kernel)) (fun _ h9 => h9) rfl dX6_beginEarly_94 ?_
        refine lv_iload hx hb dX6_beginEarly_97 (lv_at hl 5 rfl) ?_
        refine lv_iload hx hb dX6_beginEarly_99 (lv_at hl 6 rfl) ?_
        refine sC_34 hx hb hAB hP hD hS h.1 dX6_beginEarly_101 (fun iEa_24 H locs e_25 hP hD hS => ?_)
        have h := h.2
        have h := h iEa_24 e_25
        refine lv_iload_n hx hb dX6_beginEarly_102 rfl (lv_at hl 3 rfl) ?_
        refine lv_iload hx hb dX6_beginEarly_103 (lv_at hl 6 rfl) ?_
        refine lv_aload_n hx hb dX6_beginEarly_105 rfl (lv_at hl 2 rfl) ?_
        refine lv_iload hx hb dX6_beginEarly_106 (lv_at hl 5 rfl) ?_
        refine va_iald hx hb hAB.1 hP 17 0 rfl rfl h.1 dX6_beginEarly_108 ?_
        have h := h.2
        refine lv_iadd hx hb dX6_beginEarly_109 ?_
        refine va_mmax (rest := []) hx hb (by rw [hml]; exact hl.1.symm) hown (hts (.methodLink RX6 38 Lib.Math.max.name) (by decide +kernel)) (hts (.static Lib.Math.max.name) (by decide +kernel)) (hts (.initialized "java/lang/Math") (by decide +kernel)) (hts (.code Lib.Math.max.name Lib.Math.max.code 2 (some .int)) (by decide +kernel)) (Nat.le_of_ble_eq_true rfl) (Nat.le_of_ble_eq_true rfl) (Nat.zero_le _) (Nat.zero_le _) dX6_beginEarly_110 ?_
        refine lv_topi (fun x3_26 e_27 => ?_)
        have h := h x3_26 e_27
        refine lv_istore_n (lv' := [(3, .int x3_26), (0, .ref (ad 32)), (1, .ref (ad 10)), (2, .ref (ad 17)), (4, .int x4_3), (5, .int x5_8), (6, .int x6_12)]) hx hb dX6_beginEarly_113 rfl hl (by decide) rfl (fun ls hl => ?_)
        obtain ⟨x4_28, e_29⟩ : ∃ y : Int32, y = x4_3 + 1 := ⟨_, rfl⟩
        have h := h x4_28 e_29
        refine lv_iinc (v := x4_28) (lv' := [(4, .int x4_28), (3, .int x3_26), (0, .ref (ad 32)), (1, .ref (ad 10)), (2, .ref (ad 17)), (5, .int x5_8), (6, .int x6_12)]) hx hb dX6_beginEarly_114 hl (k := 4) rfl (by rw [e_29]; rfl) (by decide) rfl (fun ls hl => ?_)
        refine lv_goto (tgt := 13) hx hb dX6_beginEarly_117 (by decide) ?_
        exact ih13 x3_26 x4_28 iEa_24 h H locs ls hP hD hS (lv_sub hl [2, 3, 4, 1, 0] rfl)
  obtain ⟨n13, h⟩ := h
  refine L13 _ (fun x3_5 iEa_6 h H locs ls hP hD hS hl => ?_) n13 0 0 iEa h H locs ls hP hD hS (lv_sub hl [2, 3, 4, 1, 0] rfl)
  refine lv_iload_n hx hb dX6_beginEarly_120 rfl (lv_at hl 0 rfl) ?_
  exact rt_i (iRo_1, iEa_6) hQ hx hb hr hlk hP hD hS ⟨Nat.zero_le _, Nat.zero_le _⟩ dX6_beginEarly_121 h
set_option maxHeartbeats 4000000 in
set_option maxRecDepth 100000 in
theorem ct_X6_beginEarly_2 {l : Launch} {D : va_G} {cI cJ cZ cE cD cK : ClassId} {ad : Nat → Nat} {bd dd : Nat → Nat → Nat} {bHK : Int32} {bHP : Int32} {bPF : Int32} {bWC : Int32} {bRi : Int32} {bBe : Int32} {bFi : Int32} {bWa : Nat → Int32} {dB : Nat → Int32} {dS : Nat → Int32} {dN : Nat → Nat → Int64} {tC : Int32} {tKi : Nat → Int32} {tEa : Nat → Int32} {tHa : Nat → Int32} {tPr : Nat → Int32} {tEx : Nat → Int32} {tSt : Nat → Int32} {tTo : Nat → Int32} {tBe : Nat → Int32} {kC : Int32} {kKi : Nat → Int32} {kEa : Nat → Int32} {kHa : Nat → Int32} {kPr : Nat → Int32} {kEx : Nat → Int32} {kSt : Nat → Int32} {kTo : Nat → Int32} {kBe : Nat → Int32} {aC : Int32} {aWh : Nat → Int32} {aTa : Nat → Int32} {aWa : Nat → Int32} {iRo : Nat → Int32} {iEa : Nat → Int32} {iLa : Nat → Int32} {cC : Int32} {nC : Int32} {nFo : Int32} {nQd : Int32} {nRo : Nat → Int32} {nBe : Nat → Int32} {nEa : Nat → Int32} {nMi : Nat → Int32} {nHa : Nat → Int32} {nER : Nat → Int32} {nMR : Nat → Int32} {nTh : Nat → Int32} {nPa : Nat → Int32} {nOu : Nat → Int32} {nFr : Nat → Int32} {nQu : Nat → Int32} {eM : Nat} {eL : Nat → Int32} {eC : Nat → Int64} {eS : Nat → Int64} {eB : Nat → Nat → Int32} {eE : Nat → Nat → Int32} {eF : Nat → Nat → Int32} {eG : Nat → Nat → Int32}    {Qp : Int32 → (Nat → Int32) → (Nat → Int32) → Prop}   (h : wp_X6_beginEarly tHa tC tBe iRo iEa Qp) : CTi l yX6_beginEarly wsX6_beginEarly rm_X6_beginEarly D (tyL cI cJ cZ cE cD cK) [.ref (ad 32), .ref (ad 10), .ref (ad 13)] (WC cI cJ cE cD ad bd dd bHK bHP bPF bWC bRi bBe bFi bWa dB dS dN tC tKi tEa tHa tPr tEx tSt tTo tBe kC kKi kEa kHa kPr kEx kSt kTo kBe aC aWh aTa aWa iRo iEa iLa cC nC nFo nQd nRo nBe nEa nMi nHa nER nMR nTh nPa nOu nFr nQu eM eL eC eS eB eE eF eG) (fun (r : Int32) (u : (Nat → Int32) × (Nat → Int32)) => Qp r u.1 u.2) (fun u : (Nat → Int32) × (Nat → Int32) => (WC cI cJ cE cD ad bd dd bHK bHP bPF bWC bRi bBe bFi bWa dB dS dN tC tKi tEa tHa tPr tEx tSt tTo tBe kC kKi kEa kHa kPr kEx kSt kTo kBe aC aWh aTa aWa u.1 u.2 iLa cC nC nFo nQd nRo nBe nEa nMi nHa nER nMR nTh nPa nOu nFr nQu eM eL eC eS eB eE eF eG)) 0 0 := by
  refine ent_i (cc := cX6_beginEarly) (maxL := 9) (ret := (some .int)) (by decide) rfl (Nat.le_of_ble_eq_true rfl) ?_
  intro p e s m args below meth c A Q hQ hx hb hr hml hown hts hlk hA hAB hP hD hS ls hl
  have hown : s.vm.findClass RX6 = some m.cls := hown
  have hl : lv_has ls 9 [(0, .ref (ad 32)), (1, .ref (ad 10)), (2, .ref (ad 13))] := hl
  generalize hH : s.heap = H at hP ⊢
  have hS : va_S A s.heap H [] := by rw [← hH]; exact hS
  clear hH
  generalize ([] : List Loc) = locs at hS ⊢
  refine lv_aload_n hx hb dX6_beginEarly_0 rfl (lv_at hl 1 rfl) ?_
  refine lv_aload_n hx hb dX6_beginEarly_1 rfl (lv_at hl 0 rfl) ?_
  refine va_get (D := D) (ci := 6) (C := RX6) (T := TX6) (N := 3) hx hb hts inn_X6_beginEarly_6 hown hAB.1 hP 32 rfl rfl 0 (by decide) (hts (.fieldLink RX6 9 "BarnBench$Timing" "row" "[I") (by decide +kernel)) (fun _ h9 => h9) rfl dX6_beginEarly_2 ?_
  refine cl_v hD hS hA (va_runV (As := [.ref (ad 33)]) (rest := []) ⟨hx, hb, hml, hown, hts⟩ (ct_X5_arrange_1 h H.size) (cwV 1 hts gX6_beginEarly_X5_arrange rfl rfl rfl (by decide +kernel) ⟨Nat.le_of_ble_eq_true rfl, Nat.le_of_ble_eq_true rfl⟩) ⟨CPre.blind, va_recv hAB.1 hP (ci := 5) (q0 := 10) rfl rfl, wd_pre hAB hP hD hS hA⟩ rfl rfl hl.1 rfl (lv_room (Nat.le_of_ble_eq_true rfl)) dX6_beginEarly_5 ⟨Nat.zero_le _, Nat.zero_le _⟩) (fun iRo_1 H locs h hP hD hS => ?_)
  have hP : va_P D vwCl (WC cI cJ cE cD ad bd dd bHK bHP bPF bWC bRi bBe bFi bWa dB dS dN tC tKi tEa tHa tPr tEx tSt tTo tBe kC kKi kEa kHa kPr kEx kSt kTo kBe aC aWh aTa aWa iRo_1 iEa iLa cC nC nFo nQd nRo nBe nEa nMi nHa nER nMR nTh nPa nOu nFr nQu eM eL eC eS eB eE eF eG) H := hP
  have hD : va_D A (WC cI cJ cE cD ad bd dd bHK bHP bPF bWC bRi bBe bFi bWa dB dS dN tC tKi tEa tHa tPr tEx tSt tTo tBe kC kKi kEa kHa kPr kEx kSt kTo kBe aC aWh aTa aWa iRo_1 iEa iLa cC nC nFo nQd nRo nBe nEa nMi nHa nER nMR nTh nPa nOu nFr nQu eM eL eC eS eB eE eF eG) := hD
  refine lv_iconst (v := 0) hx hb dX6_beginEarly_8 (by decide) ?_
  refine lv_istore_n (lv' := [(3, .int 0), (0, .ref (ad 32)), (1, .ref (ad 10)), (2, .ref (ad 13))]) hx hb dX6_beginEarly_9 rfl hl (by decide) rfl (fun ls hl => ?_)
  refine lv_iconst (v := 0) hx hb dX6_beginEarly_10 (by decide) ?_
  refine lv_istore (lv' := [(4, .int 0), (3, .int 0), (0, .ref (ad 32)), (1, .ref (ad 10)), (2, .ref (ad 13))]) hx hb dX6_beginEarly_11 hl (by decide) rfl (fun ls hl => ?_)
  have L13 : ∀ (x13 : (Int32) → (Nat → Int32) → Prop) (hk13 : ∀ (x3_5 : Int32) (iEa_6 : Nat → Int32), x13 x3_5 iEa_6 → ∀ (H : Heap) (locs : List Loc) (ls : Array Slot), va_P D vwCl (WC cI cJ cE cD ad bd dd bHK bHP bPF bWC bRi bBe bFi bWa dB dS dN tC tKi tEa tHa tPr tEx tSt tTo tBe kC kKi kEa kHa kPr kEx kSt kTo kBe aC aWh aTa aWa iRo_1 iEa_6 iLa cC nC nFo nQd nRo nBe nEa nMi nHa nER nMR nTh nPa nOu nFr nQu eM eL eC eS eB eE eF eG) H → va_D A (WC cI cJ cE cD ad bd dd bHK bHP bPF bWC bRi bBe bFi bWa dB dS dN tC tKi tEa tHa tPr tEx tSt tTo tBe kC kKi kEa kHa kPr kEx kSt kTo kBe aC aWh aTa aWa iRo_1 iEa_6 iLa cC nC nFo nQd nRo nBe nEa nMi nHa nER nMR nTh nPa nOu nFr nQu eM eL eC eS eB eE eF eG) → va_S A s.heap H locs → lv_has ls 9 [(3, .int x3_5)] → W p l e (headSpec wsX6_beginEarly rm_X6_beginEarly).room s m args below meth c H locs 0 0 Q (F0 m 120 ls [])) (n13 : Nat) (x3_2 : Int32) (x4_3 : Int32) (iEa_4 : Nat → Int32), wp_X6_beginEarly_L13 tHa tBe tC iRo_1 x13 n13 x3_2 x4_3 iEa_4 → ∀ (H : Heap) (locs : List Loc) (ls : Array Slot), va_P D vwCl (WC cI cJ cE cD ad bd dd bHK bHP bPF bWC bRi bBe bFi bWa dB dS dN tC tKi tEa tHa tPr tEx tSt tTo tBe kC kKi kEa kHa kPr kEx kSt kTo kBe aC aWh aTa aWa iRo_1 iEa_4 iLa cC nC nFo nQd nRo nBe nEa nMi nHa nER nMR nTh nPa nOu nFr nQu eM eL eC eS eB eE eF eG) H → va_D A (WC cI cJ cE cD ad bd dd bHK bHP bPF bWC bRi bBe bFi bWa dB dS dN tC tKi tEa tHa tPr tEx tSt tTo tBe kC kKi kEa kHa kPr kEx kSt kTo kBe aC aWh aTa aWa iRo_1 iEa_4 iLa cC nC nFo nQd nRo nBe nEa nMi nHa nER nMR nTh nPa nOu nFr nQu eM eL eC eS eB eE eF eG) → va_S A s.heap H locs → lv_has ls 9 [(0, .ref (ad 32)), (1, .ref (ad 10)), (2, .ref (ad 13)), (3, .int x3_2), (4, .int x4_3)] → W p l e (headSpec wsX6_beginEarly rm_X6_beginEarly).room s m args below meth c H locs 0 0 Q (F0 m 13 ls []) := by
    intro x13 hk13 n13
    induction n13 with
    | zero => intro x3_2 x4_3 iEa_4 h; exact False.elim h
    | succ n13 ih13 =>
      intro x3_2 x4_3 iEa_4 h H locs ls hP hD hS hl
      refine lv_iload hx hb dX6_beginEarly_13 (lv_at hl 4 rfl) ?_
      refine lv_aload_n hx hb dX6_beginEarly_15 rfl (lv_at hl 1 rfl) ?_
      refine va_get (D := D) (ci := 5) (C := RX5) (T := TX5) (N := 9) hx hb hts inn_X6_beginEarly_5 hown hAB.1 hP 10 rfl rfl 0 (by decide) (hts (.fieldLink RX6 27 "BarnBench$Tasks" "count" "I") (by decide +kernel)) (fun _ h9 => h9) rfl dX6_beginEarly_16 ?_
      refine lv_icmp_ge (tgt := 120) hx hb dX6_beginEarly_19 (by decide) (fun c_7 => ?_) (fun c_7 => ?_)
      · have h := h.1 c_7
        exact hk13 x3_2 iEa_4 h H locs ls hP hD hS (lv_sub hl [3] rfl)
      · have h := h.2 c_7
        refine lv_aload_n hx hb dX6_beginEarly_22 rfl (lv_at hl 0 rfl) ?_
        refine va_get (D := D) (ci := 6) (C := RX6) (T := TX6) (N := 3) hx hb hts inn_X6_beginEarly_6 hown hAB.1 hP 32 rfl rfl 0 (by decide) (hts (.fieldLink RX6 9 "BarnBench$Timing" "row" "[I") (by decide +kernel)) (fun _ h9 => h9) rfl dX6_beginEarly_23 ?_
        refine lv_iload hx hb dX6_beginEarly_26 (lv_at hl 4 rfl) ?_
        refine va_iald hx hb hAB.1 hP 33 0 rfl rfl h.1 dX6_beginEarly_28 ?_
        have h := h.2
        refine lv_topi (fun x5_8 e_9 => ?_)
        have h := h x5_8 e_9
        refine lv_istore (lv' := [(5, .int x5_8), (0, .ref (ad 32)), (1, .ref (ad 10)), (2, .ref (ad 13)), (3, .int x3_2), (4, .int x4_3)]) hx hb dX6_beginEarly_29 hl (by decide) rfl (fun ls hl => ?_)
        refine lv_iconst (v := 0) hx hb dX6_beginEarly_31 (by decide) ?_
        refine lv_istore (lv' := [(6, .int 0), (5, .int x5_8), (0, .ref (ad 32)), (1, .ref (ad 10)), (2, .ref (ad 13)), (3, .int x3_2), (4, .int x4_3)]) hx hb dX6_beginEarly_32 hl (by decide) rfl (fun ls hl => ?_)
        refine lv_iconst (v := 0) hx hb dX6_beginEarly_34 (by decide) ?_
        refine lv_istore (lv' := [(7, .int 0), (6, .int 0), (5, .int x5_8), (0, .ref (ad 32)), (1, .ref (ad 10)), (2, .ref (ad 13)), (3, .int x3_2), (4, .int x4_3)]) hx hb dX6_beginEarly_35 hl (by decide) rfl (fun ls hl => ?_)
        have L37 : ∀ (x37 : (Int32) → Prop) (hk37 : ∀ (x6_12 : Int32), x37 x6_12 → ∀ (H : Heap) (locs : List Loc) (ls : Array Slot), va_P D vwCl (WC cI cJ cE cD ad bd dd bHK bHP bPF bWC bRi bBe bFi bWa dB dS dN tC tKi tEa tHa tPr tEx tSt tTo tBe kC kKi kEa kHa kPr kEx kSt kTo kBe aC aWh aTa aWa iRo_1 iEa_4 iLa cC nC nFo nQd nRo nBe nEa nMi nHa nER nMR nTh nPa nOu nFr nQu eM eL eC eS eB eE eF eG) H → va_D A (WC cI cJ cE cD ad bd dd bHK bHP bPF bWC bRi bBe bFi bWa dB dS dN tC tKi tEa tHa tPr tEx tSt tTo tBe kC kKi kEa kHa kPr kEx kSt kTo kBe aC aWh aTa aWa iRo_1 iEa_4 iLa cC nC nFo nQd nRo nBe nEa nMi nHa nER nMR nTh nPa nOu nFr nQu eM eL eC eS eB eE eF eG) → va_S A s.heap H locs → lv_has ls 9 [(0, .ref (ad 32)), (1, .ref (ad 10)), (2, .ref (ad 13)), (3, .int x3_2), (4, .int x4_3), (5, .int x5_8), (6, .int x6_12)] → W p l e (headSpec wsX6_beginEarly rm_X6_beginEarly).room s m args below meth c H locs 0 0 Q (F0 m 93 ls [])) (n37 : Nat) (x6_10 : Int32) (x7_11 : Int32), wp_X6_beginEarly_L37 tHa tBe iRo_1 x4_3 iEa_4 x5_8 x37 n37 x6_10 x7_11 → ∀ (H : Heap) (locs : List Loc) (ls : Array Slot), va_P D vwCl (WC cI cJ cE cD ad bd dd bHK bHP bPF bWC bRi bBe bFi bWa dB dS dN tC tKi tEa tHa tPr tEx tSt tTo tBe kC kKi kEa kHa kPr kEx kSt kTo kBe aC aWh aTa aWa iRo_1 iEa_4 iLa cC nC nFo nQd nRo nBe nEa nMi nHa nER nMR nTh nPa nOu nFr nQu eM eL eC eS eB eE eF eG) H → va_D A (WC cI cJ cE cD ad bd dd bHK bHP bPF bWC bRi bBe bFi bWa dB dS dN tC tKi tEa tHa tPr tEx tSt tTo tBe kC kKi kEa kHa kPr kEx kSt kTo kBe aC aWh aTa aWa iRo_1 iEa_4 iLa cC nC nFo nQd nRo nBe nEa nMi nHa nER nMR nTh nPa nOu nFr nQu eM eL eC eS eB eE eF eG) → va_S A s.heap H locs → lv_has ls 9 [(0, .ref (ad 32)), (1, .ref (ad 10)), (2, .ref (ad 13)), (3, .int x3_2), (4, .int x4_3), (5, .int x5_8), (6, .int x6_10), (7, .int x7_11)] → W p l e (headSpec wsX6_beginEarly rm_X6_beginEarly).room s m args below meth c H locs 0 0 Q (F0 m 37 ls []) := by
          intro x37 hk37 n37
          induction n37 with
          | zero => intro x6_10 x7_11 h; exact False.elim h
          | succ n37 ih37 =>
            intro x6_10 x7_11 h H locs ls hP hD hS hl
            have B87 : ∀ (x6_13 : Int32) (x7_14 : Int32), wp_X6_beginEarly_b87 (wp_X6_beginEarly_L37 tHa tBe iRo_1 x4_3 iEa_4 x5_8 x37 n37) x6_13 x7_14 → ∀ (H : Heap) (locs : List Loc) (ls : Array Slot), va_P D vwCl (WC cI cJ cE cD ad bd dd bHK bHP bPF bWC bRi bBe bFi bWa dB dS dN tC tKi tEa tHa tPr tEx tSt tTo tBe kC kKi kEa kHa kPr kEx kSt kTo kBe aC aWh aTa aWa iRo_1 iEa_4 iLa cC nC nFo nQd nRo nBe nEa nMi nHa nER nMR nTh nPa nOu nFr nQu eM eL eC eS eB eE eF eG) H → va_D A (WC cI cJ cE cD ad bd dd bHK bHP bPF bWC bRi bBe bFi bWa dB dS dN tC tKi tEa tHa tPr tEx tSt tTo tBe kC kKi kEa kHa kPr kEx kSt kTo kBe aC aWh aTa aWa iRo_1 iEa_4 iLa cC nC nFo nQd nRo nBe nEa nMi nHa nER nMR nTh nPa nOu nFr nQu eM eL eC eS eB eE eF eG) → va_S A s.heap H locs → lv_has ls 9 [(0, .ref (ad 32)), (1, .ref (ad 10)), (2, .ref (ad 13)), (3, .int x3_2), (4, .int x4_3), (5, .int x5_8), (6, .int x6_13), (7, .int x7_14)] → W p l e (headSpec wsX6_beginEarly rm_X6_beginEarly).room s m args below meth c H locs 0 0 Q (F0 m 87 ls []) := by
              intro x6_13 x7_14 h H locs ls hP hD hS hl
              obtain ⟨x7_15, e_16⟩ : ∃ y : Int32, y = x7_14 + 1 := ⟨_, rfl⟩
              have h := h x7_15 e_16
              refine lv_iinc (v := x7_15) (lv' := [(7, .int x7_15), (0, .ref (ad 32)), (1, .ref (ad 10)), (2, .ref (ad 13)), (3, .int x3_2), (4, .int x4_3), (5, .int x5_8), (6, .int x6_13)]) hx hb dX6_beginEarly_87 hl (k := 7) rfl (by rw [e_16]; rfl) (by decide) rfl (fun ls hl => ?_)
              refine lv_goto (tgt := 37) hx hb dX6_beginEarly_90 (by decide) ?_
              exact ih37 x6_13 x7_15 h H locs ls hP hD hS (lv_sub hl [1, 2, 3, 4, 5, 6, 7, 0] rfl)
            refine lv_iload hx hb dX6_beginEarly_37 (lv_at hl 7 rfl) ?_
            refine lv_iload hx hb dX6_beginEarly_39 (lv_at hl 4 rfl) ?_
            refine lv_icmp_ge (tgt := 93) hx hb dX6_beginEarly_41 (by decide) (fun c_17 => ?_) (fun c_17 => ?_)
            · have h := h.1 c_17
              exact hk37 x6_10 h H locs ls hP hD hS (lv_sub hl [0, 1, 2, 3, 4, 5, 6] rfl)
            · have h := h.2 c_17
              refine lv_aload_n hx hb dX6_beginEarly_44 rfl (lv_at hl 0 rfl) ?_
              refine va_get (D := D) (ci := 6) (C := RX6) (T := TX6) (N := 3) hx hb hts inn_X6_beginEarly_6 hown hAB.1 hP 32 rfl rfl 0 (by decide) (hts (.fieldLink RX6 9 "BarnBench$Timing" "row" "[I") (by decide +kernel)) (fun _ h9 => h9) rfl dX6_beginEarly_45 ?_
              refine lv_iload hx hb dX6_beginEarly_48 (lv_at hl 7 rfl) ?_
              refine va_iald hx hb hAB.1 hP 33 0 rfl rfl h.1 dX6_beginEarly_50 ?_
              have h := h.2
              refine lv_topi (fun x8_18 e_19 => ?_)
              have h := h x8_18 e_19
              refine lv_istore (lv' := [(8, .int x8_18), (0, .ref (ad 32)), (1, .ref (ad 10)), (2, .ref (ad 13)), (3, .int x3_2), (4, .int x4_3), (5, .int x5_8), (6, .int x6_10), (7, .int x7_11)]) hx hb dX6_beginEarly_51 hl (by decide) rfl (fun ls hl => ?_)
              refine lv_aload_n hx hb dX6_beginEarly_53 rfl (lv_at hl 2 rfl) ?_
              refine va_get (D := D) (ci := 5) (C := RX5) (T := TX5) (N := 9) hx hb hts inn_X6_beginEarly_5 hown hAB.1 hP 10 rfl rfl 8 (by decide) (hts (.fieldLink RX6 31 "BarnBench$Tasks" "before" "[I") (by decide +kernel)) (fun _ h9 => h9) rfl dX6_beginEarly_54 ?_
              refine lv_iload hx hb dX6_beginEarly_57 (lv_at hl 6 rfl) ?_
              refine va_iald hx hb hAB.1 hP 18 0 rfl rfl h.1 dX6_beginEarly_59 ?_
              have h := h.2
              refine lv_iload hx hb dX6_beginEarly_60 (lv_at hl 0 rfl) ?_
              refine cl_i hD hS hA (va_runSN (As := [.int (tBe (Int32.toNatClampNeg x5_8)), .int x8_18]) (rest := []) ⟨hx, hb, hml, hown, hts⟩ (ct_X7_hasBit h H.size) ⟨va_cnB 2 hts gX6_beginEarly_X7_hasBit_n34 rfl rfl rfl (hAB.2.1 (.methodLinkNest RX6 34 yX7_hasBit RX7) (by decide +kernel)) (hts (.initialized RX7) (by decide +kernel)) (by decide +kernel) ⟨Nat.le_of_ble_eq_true rfl, Nat.le_of_ble_eq_true rfl⟩, (hts (.static yX7_hasBit) (by decide +kernel)), trivial⟩ ⟨CPre.blind, wd_pre hAB hP hD hS hA⟩ rfl rfl hl.1 rfl (lv_room (Nat.le_of_ble_eq_true rfl)) dX6_beginEarly_62 ⟨Nat.zero_le _, Nat.zero_le _⟩) (fun r_20 u H locs h hP hD hS => ?_)
              refine lv_if_eq (tgt := 87) hx hb dX6_beginEarly_65 (by decide) (fun c_21 => ?_) (fun c_21 => ?_)
              · have h := h.1 c_21
                exact B87 x6_10 x7_11 h H locs ls hP hD hS (lv_sub hl [1, 2, 3, 4, 5, 6, 7, 8] rfl)
              · have h := h.2 c_21
                refine lv_iload hx hb dX6_beginEarly_68 (lv_at hl 7 rfl) ?_
                refine lv_aload_n hx hb dX6_beginEarly_70 rfl (lv_at hl 1 rfl) ?_
                refine va_get (D := D) (ci := 6) (C := RX6) (T := TX6) (N := 3) hx hb hts inn_X6_beginEarly_6 hown hAB.1 hP 32 rfl rfl 1 (by decide) (hts (.fieldLink RX6 15 "BarnBench$Timing" "earlies" "[I") (by decide +kernel)) (fun _ h9 => h9) rfl dX6_beginEarly_71 ?_
                refine lv_iload hx hb dX6_beginEarly_74 (lv_at hl 0 rfl) ?_
                refine va_iald hx hb hAB.1 hP 34 0 rfl rfl h.1 dX6_beginEarly_76 ?_
                have h := h.2
                refine lv_aload_n hx hb dX6_beginEarly_77 rfl (lv_at hl 3 rfl) ?_
                refine lv_iload hx hb dX6_beginEarly_78 (lv_at hl 0 rfl) ?_
                refine va_iald hx hb hAB.1 hP 13 0 rfl rfl h.1 dX6_beginEarly_80 ?_
                have h := h.2
                refine lv_iadd hx hb dX6_beginEarly_81 ?_
                refine va_mmax (rest := []) hx hb (by rw [hml]; exact hl.1.symm) hown (hts (.methodLink RX6 38 Lib.Math.max.name) (by decide +kernel)) (hts (.static Lib.Math.max.name) (by decide +kernel)) (hts (.initialized "java/lang/Math") (by decide +kernel)) (hts (.code Lib.Math.max.name Lib.Math.max.code 2 (some .int)) (by decide +kernel)) (Nat.le_of_ble_eq_true rfl) (Nat.le_of_ble_eq_true rfl) (Nat.zero_le _) (Nat.zero_le _) dX6_beginEarly_82 ?_
                refine lv_topi (fun x6_22 e_23 => ?_)
                have h := h x6_22 e_23
                refine lv_istore (lv' := [(6, .int x6_22), (8, .int x8_18), (0, .ref (ad 32)), (1, .ref (ad 10)), (2, .ref (ad 13)), (3, .int x3_2), (4, .int x4_3), (5, .int x5_8), (7, .int x7_11)]) hx hb dX6_beginEarly_85 hl (by decide) rfl (fun ls hl => ?_)
                exact B87 x6_22 x7_11 h H locs ls hP hD hS (lv_sub hl [2, 3, 4, 5, 6, 7, 0, 8] rfl)
        obtain ⟨n37, h⟩ := h
        refine L37 _ (fun x6_12 h H locs ls hP hD hS hl => ?_) n37 0 0 h H locs ls hP hD hS (lv_sub hl [3, 4, 5, 6, 7, 2, 1, 0] rfl)
        refine lv_aload_n hx hb dX6_beginEarly_93 rfl (lv_at hl 0 rfl) ?_
        refine va_get (D := D) (ci := 6) (C := RX6) (T := TX6) (N := 3) hx hb hts inn_X6_beginEarly_6 hown hAB.1 hP 32 rfl rfl 1 (by decide) (hts (.fieldLink RX6 15 "BarnBench$Timing" "earlies" "[I") (by decide +kernel)) (fun _ h9 => h9) rfl dX6_beginEarly_94 ?_
        refine lv_iload hx hb dX6_beginEarly_97 (lv_at hl 5 rfl) ?_
        refine lv_iload hx hb dX6_beginEarly_99 (lv_at hl 6 rfl) ?_
        refine sC_34 hx hb hAB hP hD hS h.1 dX6_beginEarly_101 (fun iEa_24 H locs e_25 hP hD hS => ?_)
        have h := h.2
        have h := h iEa_24 e_25
        refine lv_iload_n hx hb dX6_beginEarly_102 rfl (lv_at hl 3 rfl) ?_
        refine lv_iload hx hb dX6_beginEarly_103 (lv_at hl 6 rfl) ?_
        refine lv_aload_n hx hb dX6_beginEarly_105 rfl (lv_at hl 2 rfl) ?_
        refine lv_iload hx hb dX6_beginEarly_106 (lv_at hl 5 rfl) ?_
        refine va_iald hx hb hAB.1 hP 13 0 rfl rfl h.1 dX6_beginEarly_108 ?_
        have h := h.2
        refine lv_iadd hx hb dX6_beginEarly_109 ?_
        refine va_mmax (rest := []) hx hb (by rw [hml]; exact hl.1.symm) hown (hts (.methodLink RX6 38 Lib.Math.max.name) (by decide +kernel)) (hts (.static Lib.Math.max.name) (by decide +kernel)) (hts (.initialized "java/lang/Math") (by decide +kernel)) (hts (.code Lib.Math.max.name Lib.Math.max.code 2 (some .int)) (by decide +kernel)) (Nat.le_of_ble_eq_true rfl) (Nat.le_of_ble_eq_true rfl) (Nat.zero_le _) (Nat.zero_le _) dX6_beginEarly_110 ?_
        refine lv_topi (fun x3_26 e_27 => ?_)
        have h := h x3_26 e_27
        refine lv_istore_n (lv' := [(3, .int x3_26), (0, .ref (ad 32)), (1, .ref (ad 10)), (2, .ref (ad 13)), (4, .int x4_3), (5, .int x5_8), (6, .int x6_12)]) hx hb dX6_beginEarly_113 rfl hl (by decide) rfl (fun ls hl => ?_)
        obtain ⟨x4_28, e_29⟩ : ∃ y : Int32, y = x4_3 + 1 := ⟨_, rfl⟩
        have h := h x4_28 e_29
        refine lv_iinc (v := x4_28) (lv' := [(4, .int x4_28), (3, .int x3_26), (0, .ref (ad 32)), (1, .ref (ad 10)), (2, .ref (ad 13)), (5, .int x5_8), (6, .int x6_12)]) hx hb dX6_beginEarly_114 hl (k := 4) rfl (by rw [e_29]; rfl) (by decide) rfl (fun ls hl => ?_)
        refine lv_goto (tgt := 13) hx hb dX6_beginEarly_117 (by decide) ?_
        exact ih13 x3_26 x4_28 iEa_24 h H locs ls hP hD hS (lv_sub hl [2, 3, 4, 1, 0] rfl)
  obtain ⟨n13, h⟩ := h
  refine L13 _ (fun x3_5 iEa_6 h H locs ls hP hD hS hl => ?_) n13 0 0 iEa h H locs ls hP hD hS (lv_sub hl [2, 3, 4, 1, 0] rfl)
  refine lv_iload_n hx hb dX6_beginEarly_120 rfl (lv_at hl 0 rfl) ?_
  exact rt_i (iRo_1, iEa_6) hQ hx hb hr hlk hP hD hS ⟨Nat.zero_le _, Nat.zero_le _⟩ dX6_beginEarly_121 h
set_option maxHeartbeats 4000000 in
set_option maxRecDepth 100000 in
theorem ct_X6_beginEarly_3 {l : Launch} {D : va_G} {cI cJ cZ cE cD cK : ClassId} {ad : Nat → Nat} {bd dd : Nat → Nat → Nat} {bHK : Int32} {bHP : Int32} {bPF : Int32} {bWC : Int32} {bRi : Int32} {bBe : Int32} {bFi : Int32} {bWa : Nat → Int32} {dB : Nat → Int32} {dS : Nat → Int32} {dN : Nat → Nat → Int64} {tC : Int32} {tKi : Nat → Int32} {tEa : Nat → Int32} {tHa : Nat → Int32} {tPr : Nat → Int32} {tEx : Nat → Int32} {tSt : Nat → Int32} {tTo : Nat → Int32} {tBe : Nat → Int32} {kC : Int32} {kKi : Nat → Int32} {kEa : Nat → Int32} {kHa : Nat → Int32} {kPr : Nat → Int32} {kEx : Nat → Int32} {kSt : Nat → Int32} {kTo : Nat → Int32} {kBe : Nat → Int32} {aC : Int32} {aWh : Nat → Int32} {aTa : Nat → Int32} {aWa : Nat → Int32} {iRo : Nat → Int32} {iEa : Nat → Int32} {iLa : Nat → Int32} {cC : Int32} {nC : Int32} {nFo : Int32} {nQd : Int32} {nRo : Nat → Int32} {nBe : Nat → Int32} {nEa : Nat → Int32} {nMi : Nat → Int32} {nHa : Nat → Int32} {nER : Nat → Int32} {nMR : Nat → Int32} {nTh : Nat → Int32} {nPa : Nat → Int32} {nOu : Nat → Int32} {nFr : Nat → Int32} {nQu : Nat → Int32} {eM : Nat} {eL : Nat → Int32} {eC : Nat → Int64} {eS : Nat → Int64} {eB : Nat → Nat → Int32} {eE : Nat → Nat → Int32} {eF : Nat → Nat → Int32} {eG : Nat → Nat → Int32}    {Qp : Int32 → (Nat → Int32) → (Nat → Int32) → Prop}   (h : wp_X6_beginEarly tEa tC tBe iRo iEa Qp) : CTi l yX6_beginEarly wsX6_beginEarly rm_X6_beginEarly D (tyL cI cJ cZ cE cD cK) [.ref (ad 32), .ref (ad 10), .ref (ad 12)] (WC cI cJ cE cD ad bd dd bHK bHP bPF bWC bRi bBe bFi bWa dB dS dN tC tKi tEa tHa tPr tEx tSt tTo tBe kC kKi kEa kHa kPr kEx kSt kTo kBe aC aWh aTa aWa iRo iEa iLa cC nC nFo nQd nRo nBe nEa nMi nHa nER nMR nTh nPa nOu nFr nQu eM eL eC eS eB eE eF eG) (fun (r : Int32) (u : (Nat → Int32) × (Nat → Int32)) => Qp r u.1 u.2) (fun u : (Nat → Int32) × (Nat → Int32) => (WC cI cJ cE cD ad bd dd bHK bHP bPF bWC bRi bBe bFi bWa dB dS dN tC tKi tEa tHa tPr tEx tSt tTo tBe kC kKi kEa kHa kPr kEx kSt kTo kBe aC aWh aTa aWa u.1 u.2 iLa cC nC nFo nQd nRo nBe nEa nMi nHa nER nMR nTh nPa nOu nFr nQu eM eL eC eS eB eE eF eG)) 0 0 := by
  refine ent_i (cc := cX6_beginEarly) (maxL := 9) (ret := (some .int)) (by decide) rfl (Nat.le_of_ble_eq_true rfl) ?_
  intro p e s m args below meth c A Q hQ hx hb hr hml hown hts hlk hA hAB hP hD hS ls hl
  have hown : s.vm.findClass RX6 = some m.cls := hown
  have hl : lv_has ls 9 [(0, .ref (ad 32)), (1, .ref (ad 10)), (2, .ref (ad 12))] := hl
  generalize hH : s.heap = H at hP ⊢
  have hS : va_S A s.heap H [] := by rw [← hH]; exact hS
  clear hH
  generalize ([] : List Loc) = locs at hS ⊢
  refine lv_aload_n hx hb dX6_beginEarly_0 rfl (lv_at hl 1 rfl) ?_
  refine lv_aload_n hx hb dX6_beginEarly_1 rfl (lv_at hl 0 rfl) ?_
  refine va_get (D := D) (ci := 6) (C := RX6) (T := TX6) (N := 3) hx hb hts inn_X6_beginEarly_6 hown hAB.1 hP 32 rfl rfl 0 (by decide) (hts (.fieldLink RX6 9 "BarnBench$Timing" "row" "[I") (by decide +kernel)) (fun _ h9 => h9) rfl dX6_beginEarly_2 ?_
  refine cl_v hD hS hA (va_runV (As := [.ref (ad 33)]) (rest := []) ⟨hx, hb, hml, hown, hts⟩ (ct_X5_arrange_1 h H.size) (cwV 1 hts gX6_beginEarly_X5_arrange rfl rfl rfl (by decide +kernel) ⟨Nat.le_of_ble_eq_true rfl, Nat.le_of_ble_eq_true rfl⟩) ⟨CPre.blind, va_recv hAB.1 hP (ci := 5) (q0 := 10) rfl rfl, wd_pre hAB hP hD hS hA⟩ rfl rfl hl.1 rfl (lv_room (Nat.le_of_ble_eq_true rfl)) dX6_beginEarly_5 ⟨Nat.zero_le _, Nat.zero_le _⟩) (fun iRo_1 H locs h hP hD hS => ?_)
  have hP : va_P D vwCl (WC cI cJ cE cD ad bd dd bHK bHP bPF bWC bRi bBe bFi bWa dB dS dN tC tKi tEa tHa tPr tEx tSt tTo tBe kC kKi kEa kHa kPr kEx kSt kTo kBe aC aWh aTa aWa iRo_1 iEa iLa cC nC nFo nQd nRo nBe nEa nMi nHa nER nMR nTh nPa nOu nFr nQu eM eL eC eS eB eE eF eG) H := hP
  have hD : va_D A (WC cI cJ cE cD ad bd dd bHK bHP bPF bWC bRi bBe bFi bWa dB dS dN tC tKi tEa tHa tPr tEx tSt tTo tBe kC kKi kEa kHa kPr kEx kSt kTo kBe aC aWh aTa aWa iRo_1 iEa iLa cC nC nFo nQd nRo nBe nEa nMi nHa nER nMR nTh nPa nOu nFr nQu eM eL eC eS eB eE eF eG) := hD
  refine lv_iconst (v := 0) hx hb dX6_beginEarly_8 (by decide) ?_
  refine lv_istore_n (lv' := [(3, .int 0), (0, .ref (ad 32)), (1, .ref (ad 10)), (2, .ref (ad 12))]) hx hb dX6_beginEarly_9 rfl hl (by decide) rfl (fun ls hl => ?_)
  refine lv_iconst (v := 0) hx hb dX6_beginEarly_10 (by decide) ?_
  refine lv_istore (lv' := [(4, .int 0), (3, .int 0), (0, .ref (ad 32)), (1, .ref (ad 10)), (2, .ref (ad 12))]) hx hb dX6_beginEarly_11 hl (by decide) rfl (fun ls hl => ?_)
  have L13 : ∀ (x13 : (Int32) → (Nat → Int32) → Prop) (hk13 : ∀ (x3_5 : Int32) (iEa_6 : Nat → Int32), x13 x3_5 iEa_6 → ∀ (H : Heap) (locs : List Loc) (ls : Array Slot), va_P D vwCl (WC cI cJ cE cD ad bd dd bHK bHP bPF bWC bRi bBe bFi bWa dB dS dN tC tKi tEa tHa tPr tEx tSt tTo tBe kC kKi kEa kHa kPr kEx kSt kTo kBe aC aWh aTa aWa iRo_1 iEa_6 iLa cC nC nFo nQd nRo nBe nEa nMi nHa nER nMR nTh nPa nOu nFr nQu eM eL eC eS eB eE eF eG) H → va_D A (WC cI cJ cE cD ad bd dd bHK bHP bPF bWC bRi bBe bFi bWa dB dS dN tC tKi tEa tHa tPr tEx tSt tTo tBe kC kKi kEa kHa kPr kEx kSt kTo kBe aC aWh aTa aWa iRo_1 iEa_6 iLa cC nC nFo nQd nRo nBe nEa nMi nHa nER nMR nTh nPa nOu nFr nQu eM eL eC eS eB eE eF eG) → va_S A s.heap H locs → lv_has ls 9 [(3, .int x3_5)] → W p l e (headSpec wsX6_beginEarly rm_X6_beginEarly).room s m args below meth c H locs 0 0 Q (F0 m 120 ls [])) (n13 : Nat) (x3_2 : Int32) (x4_3 : Int32) (iEa_4 : Nat → Int32), wp_X6_beginEarly_L13 tEa tBe tC iRo_1 x13 n13 x3_2 x4_3 iEa_4 → ∀ (H : Heap) (locs : List Loc) (ls : Array Slot), va_P D vwCl (WC cI cJ cE cD ad bd dd bHK bHP bPF bWC bRi bBe bFi bWa dB dS dN tC tKi tEa tHa tPr tEx tSt tTo tBe kC kKi kEa kHa kPr kEx kSt kTo kBe aC aWh aTa aWa iRo_1 iEa_4 iLa cC nC nFo nQd nRo nBe nEa nMi nHa nER nMR nTh nPa nOu nFr nQu eM eL eC eS eB eE eF eG) H → va_D A (WC cI cJ cE cD ad bd dd bHK bHP bPF bWC bRi bBe bFi bWa dB dS dN tC tKi tEa tHa tPr tEx tSt tTo tBe kC kKi kEa kHa kPr kEx kSt kTo kBe aC aWh aTa aWa iRo_1 iEa_4 iLa cC nC nFo nQd nRo nBe nEa nMi nHa nER nMR nTh nPa nOu nFr nQu eM eL eC eS eB eE eF eG) → va_S A s.heap H locs → lv_has ls 9 [(0, .ref (ad 32)), (1, .ref (ad 10)), (2, .ref (ad 12)), (3, .int x3_2), (4, .int x4_3)] → W p l e (headSpec wsX6_beginEarly rm_X6_beginEarly).room s m args below meth c H locs 0 0 Q (F0 m 13 ls []) := by
    intro x13 hk13 n13
    induction n13 with
    | zero => intro x3_2 x4_3 iEa_4 h; exact False.elim h
    | succ n13 ih13 =>
      intro x3_2 x4_3 iEa_4 h H locs ls hP hD hS hl
      refine lv_iload hx hb dX6_beginEarly_13 (lv_at hl 4 rfl) ?_
      refine lv_aload_n hx hb dX6_beginEarly_15 rfl (lv_at hl 1 rfl) ?_
      refine va_get (D := D) (ci := 5) (C := RX5) (T := TX5) (N := 9) hx hb hts inn_X6_beginEarly_5 hown hAB.1 hP 10 rfl rfl 0 (by decide) (hts (.fieldLink RX6 27 "BarnBench$Tasks" "count" "I") (by decide +kernel)) (fun _ h9 => h9) rfl dX6_beginEarly_16 ?_
      refine lv_icmp_ge (tgt := 120) hx hb dX6_beginEarly_19 (by decide) (fun c_7 => ?_) (fun c_7 => ?_)
      · have h := h.1 c_7
        exact hk13 x3_2 iEa_4 h H locs ls hP hD hS (lv_sub hl [3] rfl)
      · have h := h.2 c_7
        refine lv_aload_n hx hb dX6_beginEarly_22 rfl (lv_at hl 0 rfl) ?_
        refine va_get (D := D) (ci := 6) (C := RX6) (T := TX6) (N := 3) hx hb hts inn_X6_beginEarly_6 hown hAB.1 hP 32 rfl rfl 0 (by decide) (hts (.fieldLink RX6 9 "BarnBench$Timing" "row" "[I") (by decide +kernel)) (fun _ h9 => h9) rfl dX6_beginEarly_23 ?_
        refine lv_iload hx hb dX6_beginEarly_26 (lv_at hl 4 rfl) ?_
        refine va_iald hx hb hAB.1 hP 33 0 rfl rfl h.1 dX6_beginEarly_28 ?_
        have h := h.2
        refine lv_topi (fun x5_8 e_9 => ?_)
        have h := h x5_8 e_9
        refine lv_istore (lv' := [(5, .int x5_8), (0, .ref (ad 32)), (1, .ref (ad 10)), (2, .ref (ad 12)), (3, .int x3_2), (4, .int x4_3)]) hx hb dX6_beginEarly_29 hl (by decide) rfl (fun ls hl => ?_)
        refine lv_iconst (v := 0) hx hb dX6_beginEarly_31 (by decide) ?_
        refine lv_istore (lv' := [(6, .int 0), (5, .int x5_8), (0, .ref (ad 32)), (1, .ref (ad 10)), (2, .ref (ad 12)), (3, .int x3_2), (4, .int x4_3)]) hx hb dX6_beginEarly_32 hl (by decide) rfl (fun ls hl => ?_)
        refine lv_iconst (v := 0) hx hb dX6_beginEarly_34 (by decide) ?_
        refine lv_istore (lv' := [(7, .int 0), (6, .int 0), (5, .int x5_8), (0, .ref (ad 32)), (1, .ref (ad 10)), (2, .ref (ad 12)), (3, .int x3_2), (4, .int x4_3)]) hx hb dX6_beginEarly_35 hl (by decide) rfl (fun ls hl => ?_)
        have L37 : ∀ (x37 : (Int32) → Prop) (hk37 : ∀ (x6_12 : Int32), x37 x6_12 → ∀ (H : Heap) (locs : List Loc) (ls : Array Slot), va_P D vwCl (WC cI cJ cE cD ad bd dd bHK bHP bPF bWC bRi bBe bFi bWa dB dS dN tC tKi tEa tHa tPr tEx tSt tTo tBe kC kKi kEa kHa kPr kEx kSt kTo kBe aC aWh aTa aWa iRo_1 iEa_4 iLa cC nC nFo nQd nRo nBe nEa nMi nHa nER nMR nTh nPa nOu nFr nQu eM eL eC eS eB eE eF eG) H → va_D A (WC cI cJ cE cD ad bd dd bHK bHP bPF bWC bRi bBe bFi bWa dB dS dN tC tKi tEa tHa tPr tEx tSt tTo tBe kC kKi kEa kHa kPr kEx kSt kTo kBe aC aWh aTa aWa iRo_1 iEa_4 iLa cC nC nFo nQd nRo nBe nEa nMi nHa nER nMR nTh nPa nOu nFr nQu eM eL eC eS eB eE eF eG) → va_S A s.heap H locs → lv_has ls 9 [(0, .ref (ad 32)), (1, .ref (ad 10)), (2, .ref (ad 12)), (3, .int x3_2), (4, .int x4_3), (5, .int x5_8), (6, .int x6_12)] → W p l e (headSpec wsX6_beginEarly rm_X6_beginEarly).room s m args below meth c H locs 0 0 Q (F0 m 93 ls [])) (n37 : Nat) (x6_10 : Int32) (x7_11 : Int32), wp_X6_beginEarly_L37 tEa tBe iRo_1 x4_3 iEa_4 x5_8 x37 n37 x6_10 x7_11 → ∀ (H : Heap) (locs : List Loc) (ls : Array Slot), va_P D vwCl (WC cI cJ cE cD ad bd dd bHK bHP bPF bWC bRi bBe bFi bWa dB dS dN tC tKi tEa tHa tPr tEx tSt tTo tBe kC kKi kEa kHa kPr kEx kSt kTo kBe aC aWh aTa aWa iRo_1 iEa_4 iLa cC nC nFo nQd nRo nBe nEa nMi nHa nER nMR nTh nPa nOu nFr nQu eM eL eC eS eB eE eF eG) H → va_D A (WC cI cJ cE cD ad bd dd bHK bHP bPF bWC bRi bBe bFi bWa dB dS dN tC tKi tEa tHa tPr tEx tSt tTo tBe kC kKi kEa kHa kPr kEx kSt kTo kBe aC aWh aTa aWa iRo_1 iEa_4 iLa cC nC nFo nQd nRo nBe nEa nMi nHa nER nMR nTh nPa nOu nFr nQu eM eL eC eS eB eE eF eG) → va_S A s.heap H locs → lv_has ls 9 [(0, .ref (ad 32)), (1, .ref (ad 10)), (2, .ref (ad 12)), (3, .int x3_2), (4, .int x4_3), (5, .int x5_8), (6, .int x6_10), (7, .int x7_11)] → W p l e (headSpec wsX6_beginEarly rm_X6_beginEarly).room s m args below meth c H locs 0 0 Q (F0 m 37 ls []) := by
          intro x37 hk37 n37
          induction n37 with
          | zero => intro x6_10 x7_11 h; exact False.elim h
          | succ n37 ih37 =>
            intro x6_10 x7_11 h H locs ls hP hD hS hl
            have B87 : ∀ (x6_13 : Int32) (x7_14 : Int32), wp_X6_beginEarly_b87 (wp_X6_beginEarly_L37 tEa tBe iRo_1 x4_3 iEa_4 x5_8 x37 n37) x6_13 x7_14 → ∀ (H : Heap) (locs : List Loc) (ls : Array Slot), va_P D vwCl (WC cI cJ cE cD ad bd dd bHK bHP bPF bWC bRi bBe bFi bWa dB dS dN tC tKi tEa tHa tPr tEx tSt tTo tBe kC kKi kEa kHa kPr kEx kSt kTo kBe aC aWh aTa aWa iRo_1 iEa_4 iLa cC nC nFo nQd nRo nBe nEa nMi nHa nER nMR nTh nPa nOu nFr nQu eM eL eC eS eB eE eF eG) H → va_D A (WC cI cJ cE cD ad bd dd bHK bHP bPF bWC bRi bBe bFi bWa dB dS dN tC tKi tEa tHa tPr tEx tSt tTo tBe kC kKi kEa kHa kPr kEx kSt kTo kBe aC aWh aTa aWa iRo_1 iEa_4 iLa cC nC nFo nQd nRo nBe nEa nMi nHa nER nMR nTh nPa nOu nFr nQu eM eL eC eS eB eE eF eG) → va_S A s.heap H locs → lv_has ls 9 [(0, .ref (ad 32)), (1, .ref (ad 10)), (2, .ref (ad 12)), (3, .int x3_2), (4, .int x4_3), (5, .int x5_8), (6, .int x6_13), (7, .int x7_14)] → W p l e (headSpec wsX6_beginEarly rm_X6_beginEarly).room s m args below meth c H locs 0 0 Q (F0 m 87 ls []) := by
              intro x6_13 x7_14 h H locs ls hP hD hS hl
              obtain ⟨x7_15, e_16⟩ : ∃ y : Int32, y = x7_14 + 1 := ⟨_, rfl⟩
              have h := h x7_15 e_16
              refine lv_iinc (v := x7_15) (lv' := [(7, .int x7_15), (0, .ref (ad 32)), (1, .ref (ad 10)), (2, .ref (ad 12)), (3, .int x3_2), (4, .int x4_3), (5, .int x5_8), (6, .int x6_13)]) hx hb dX6_beginEarly_87 hl (k := 7) rfl (by rw [e_16]; rfl) (by decide) rfl (fun ls hl => ?_)
              refine lv_goto (tgt := 37) hx hb dX6_beginEarly_90 (by decide) ?_
              exact ih37 x6_13 x7_15 h H locs ls hP hD hS (lv_sub hl [1, 2, 3, 4, 5, 6, 7, 0] rfl)
            refine lv_iload hx hb dX6_beginEarly_37 (lv_at hl 7 rfl) ?_
            refine lv_iload hx hb dX6_beginEarly_39 (lv_at hl 4 rfl) ?_
            refine lv_icmp_ge (tgt := 93) hx hb dX6_beginEarly_41 (by decide) (fun c_17 => ?_) (fun c_17 => ?_)
            · have h := h.1 c_17
              exact hk37 x6_10 h H locs ls hP hD hS (lv_sub hl [0, 1, 2, 3, 4, 5, 6] rfl)
            · have h := h.2 c_17
              refine lv_aload_n hx hb dX6_beginEarly_44 rfl (lv_at hl 0 rfl) ?_
              refine va_get (D := D) (ci := 6) (C := RX6) (T := TX6) (N := 3) hx hb hts inn_X6_beginEarly_6 hown hAB.1 hP 32 rfl rfl 0 (by decide) (hts (.fieldLink RX6 9 "BarnBench$Timing" "row" "[I") (by decide +kernel)) (fun _ h9 => h9) rfl dX6_beginEarly_45 ?_
              refine lv_iload hx hb dX6_beginEarly_48 (lv_at hl 7 rfl) ?_
              refine va_iald hx hb hAB.1 hP 33 0 rfl rfl h.1 dX6_beginEarly_50 ?_
              have h := h.2
              refine lv_topi (fun x8_18 e_19 => ?_)
              have h := h x8_18 e_19
              refine lv_istore (lv' := [(8, .int x8_18), (0, .ref (ad 32)), (1, .ref (ad 10)), (2, .ref (ad 12)), (3, .int x3_2), (4, .int x4_3), (5, .int x5_8), (6, .int x6_10), (7, .int x7_11)]) hx hb dX6_beginEarly_51 hl (by decide) rfl (fun ls hl => ?_)
              refine lv_aload_n hx hb dX6_beginEarly_53 rfl (lv_at hl 2 rfl) ?_
              refine va_get (D := D) (ci := 5) (C := RX5) (T := TX5) (N := 9) hx hb hts inn_X6_beginEarly_5 hown hAB.1 hP 10 rfl rfl 8 (by decide) (hts (.fieldLink RX6 31 "BarnBench$Tasks" "before" "[I") (by decide +kernel)) (fun _ h9 => h9) rfl dX6_beginEarly_54 ?_
              refine lv_iload hx hb dX6_beginEarly_57 (lv_at hl 6 rfl) ?_
              refine va_iald hx hb hAB.1 hP 18 0 rfl rfl h.1 dX6_beginEarly_59 ?_
              have h := h.2
              refine lv_iload hx hb dX6_beginEarly_60 (lv_at hl 0 rfl) ?_
              refine cl_i hD hS hA (va_runSN (As := [.int (tBe (Int32.toNatClampNeg x5_8)), .int x8_18]) (rest := []) ⟨hx, hb, hml, hown, hts⟩ (ct_X7_hasBit h H.size) ⟨va_cnB 2 hts gX6_beginEarly_X7_hasBit_n34 rfl rfl rfl (hAB.2.1 (.methodLinkNest RX6 34 yX7_hasBit RX7) (by decide +kernel)) (hts (.initialized RX7) (by decide +kernel)) (by decide +kernel) ⟨Nat.le_of_ble_eq_true rfl, Nat.le_of_ble_eq_true rfl⟩, (hts (.static yX7_hasBit) (by decide +kernel)), trivial⟩ ⟨CPre.blind, wd_pre hAB hP hD hS hA⟩ rfl rfl hl.1 rfl (lv_room (Nat.le_of_ble_eq_true rfl)) dX6_beginEarly_62 ⟨Nat.zero_le _, Nat.zero_le _⟩) (fun r_20 u H locs h hP hD hS => ?_)
              refine lv_if_eq (tgt := 87) hx hb dX6_beginEarly_65 (by decide) (fun c_21 => ?_) (fun c_21 => ?_)
              · have h := h.1 c_21
                exact B87 x6_10 x7_11 h H locs ls hP hD hS (lv_sub hl [1, 2, 3, 4, 5, 6, 7, 8] rfl)
              · have h := h.2 c_21
                refine lv_iload hx hb dX6_beginEarly_68 (lv_at hl 7 rfl) ?_
                refine lv_aload_n hx hb dX6_beginEarly_70 rfl (lv_at hl 1 rfl) ?_
                refine va_get (D := D) (ci := 6) (C := RX6) (T := TX6) (N := 3) hx hb hts inn_X6_beginEarly_6 hown hAB.1 hP 32 rfl rfl 1 (by decide) (hts (.fieldLink RX6 15 "BarnBench$Timing" "earlies" "[I") (by decide +kernel)) (fun _ h9 => h9) rfl dX6_beginEarly_71 ?_
                refine lv_iload hx hb dX6_beginEarly_74 (lv_at hl 0 rfl) ?_
                refine va_iald hx hb hAB.1 hP 34 0 rfl rfl h.1 dX6_beginEarly_76 ?_
                have h := h.2
                refine lv_aload_n hx hb dX6_beginEarly_77 rfl (lv_at hl 3 rfl) ?_
                refine lv_iload hx hb dX6_beginEarly_78 (lv_at hl 0 rfl) ?_
                refine va_iald hx hb hAB.1 hP 12 0 rfl rfl h.1 dX6_beginEarly_80 ?_
                have h := h.2
                refine lv_iadd hx hb dX6_beginEarly_81 ?_
                refine va_mmax (rest := []) hx hb (by rw [hml]; exact hl.1.symm) hown (hts (.methodLink RX6 38 Lib.Math.max.name) (by decide +kernel)) (hts (.static Lib.Math.max.name) (by decide +kernel)) (hts (.initialized "java/lang/Math") (by decide +kernel)) (hts (.code Lib.Math.max.name Lib.Math.max.code 2 (some .int)) (by decide +kernel)) (Nat.le_of_ble_eq_true rfl) (Nat.le_of_ble_eq_true rfl) (Nat.zero_le _) (Nat.zero_le _) dX6_beginEarly_82 ?_
                refine lv_topi (fun x6_22 e_23 => ?_)
                have h := h x6_22 e_23
                refine lv_istore (lv' := [(6, .int x6_22), (8, .int x8_18), (0, .ref (ad 32)), (1, .ref (ad 10)), (2, .ref (ad 12)), (3, .int x3_2), (4, .int x4_3), (5, .int x5_8), (7, .int x7_11)]) hx hb dX6_beginEarly_85 hl (by decide) rfl (fun ls hl => ?_)
                exact B87 x6_22 x7_11 h H locs ls hP hD hS (lv_sub hl [2, 3, 4, 5, 6, 7, 0, 8] rfl)
        obtain ⟨n37, h⟩ := h
        refine L37 _ (fun x6_12 h H locs ls hP hD hS hl => ?_) n37 0 0 h H locs ls hP hD hS (lv_sub hl [3, 4, 5, 6, 7, 2, 1, 0] rfl)
        refine lv_aload_n hx hb dX6_beginEarly_93 rfl (lv_at hl 0 rfl) ?_
        refine va_get (D := D) (ci := 6) (C := RX6) (T := TX6) (N := 3) hx hb hts inn_X6_beginEarly_6 hown hAB.1 hP 32 rfl rfl 1 (by decide) (hts (.fieldLink RX6 15 "BarnBench$Timing" "earlies" "[I") (by decide +kernel)) (fun _ h9 => h9) rfl dX6_beginEarly_94 ?_
        refine lv_iload hx hb dX6_beginEarly_97 (lv_at hl 5 rfl) ?_
        refine lv_iload hx hb dX6_beginEarly_99 (lv_at hl 6 rfl) ?_
        refine sC_34 hx hb hAB hP hD hS h.1 dX6_beginEarly_101 (fun iEa_24 H locs e_25 hP hD hS => ?_)
        have h := h.2
        have h := h iEa_24 e_25
        refine lv_iload_n hx hb dX6_beginEarly_102 rfl (lv_at hl 3 rfl) ?_
        refine lv_iload hx hb dX6_beginEarly_103 (lv_at hl 6 rfl) ?_
        refine lv_aload_n hx hb dX6_beginEarly_105 rfl (lv_at hl 2 rfl) ?_
        refine lv_iload hx hb dX6_beginEarly_106 (lv_at hl 5 rfl) ?_
        refine va_iald hx hb hAB.1 hP 12 0 rfl rfl h.1 dX6_beginEarly_108 ?_
        have h := h.2
        refine lv_iadd hx hb dX6_beginEarly_109 ?_
        refine va_mmax (rest := []) hx hb (by rw [hml]; exact hl.1.symm) hown (hts (.methodLink RX6 38 Lib.Math.max.name) (by decide +kernel)) (hts (.static Lib.Math.max.name) (by decide +kernel)) (hts (.initialized "java/lang/Math") (by decide +kernel)) (hts (.code Lib.Math.max.name Lib.Math.max.code 2 (some .int)) (by decide +kernel)) (Nat.le_of_ble_eq_true rfl) (Nat.le_of_ble_eq_true rfl) (Nat.zero_le _) (Nat.zero_le _) dX6_beginEarly_110 ?_
        refine lv_topi (fun x3_26 e_27 => ?_)
        have h := h x3_26 e_27
        refine lv_istore_n (lv' := [(3, .int x3_26), (0, .ref (ad 32)), (1, .ref (ad 10)), (2, .ref (ad 12)), (4, .int x4_3), (5, .int x5_8), (6, .int x6_12)]) hx hb dX6_beginEarly_113 rfl hl (by decide) rfl (fun ls hl => ?_)
        obtain ⟨x4_28, e_29⟩ : ∃ y : Int32, y = x4_3 + 1 := ⟨_, rfl⟩
        have h := h x4_28 e_29
        refine lv_iinc (v := x4_28) (lv' := [(4, .int x4_28), (3, .int x3_26), (0, .ref (ad 32)), (1, .ref (ad 10)), (2, .ref (ad 12)), (5, .int x5_8), (6, .int x6_12)]) hx hb dX6_beginEarly_114 hl (k := 4) rfl (by rw [e_29]; rfl) (by decide) rfl (fun ls hl => ?_)
        refine lv_goto (tgt := 13) hx hb dX6_beginEarly_117 (by decide) ?_
        exact ih13 x3_26 x4_28 iEa_24 h H locs ls hP hD hS (lv_sub hl [2, 3, 4, 1, 0] rfl)
  obtain ⟨n13, h⟩ := h
  refine L13 _ (fun x3_5 iEa_6 h H locs ls hP hD hS hl => ?_) n13 0 0 iEa h H locs ls hP hD hS (lv_sub hl [2, 3, 4, 1, 0] rfl)
  refine lv_iload_n hx hb dX6_beginEarly_120 rfl (lv_at hl 0 rfl) ?_
  exact rt_i (iRo_1, iEa_6) hQ hx hb hr hlk hP hD hS ⟨Nat.zero_le _, Nat.zero_le _⟩ dX6_beginEarly_121 h
def wp_X6_beginBoth_b85 (k38 : (Int32) → (Int32) → Prop) (x6_17 : Int32) (x7_18 : Int32) : Prop :=
  ∀ x7_19 : Int32, x7_19 = x7_18 + 1 → k38 x6_17 x7_19
def wp_X6_beginBoth_L38 (tBe : Nat → Int32) (tC : Int32) (iRo_2 : Nat → Int32) (iLa_7 : Nat → Int32) (x5_10 : Int32) (x38 : (Int32) → Prop) : Nat → (Int32) → (Int32) → Prop
  | 0, _, _ => False
  | n38 + 1, x6_14, x7_15 =>
  ((tC ≤ x7_15 → x38 x6_14) ∧
   (¬ tC ≤ x7_15 → vp_in x7_15 12 ∧ ∀ x8_22 : Int32, x8_22 = (iRo_2 (Int32.toNatClampNeg x7_15)) → vp_in x8_22 12 ∧ wp_X7_hasBit (tBe (Int32.toNatClampNeg x8_22)) x5_10 (fun (r_24 : Int32) => ((r_24 = 0 → wp_X6_beginBoth_b85 (wp_X6_beginBoth_L38 tBe tC iRo_2 iLa_7 x5_10 x38 n38) x6_14 x7_15) ∧
   (¬ r_24 = 0 → vp_in x8_22 12 ∧ ∀ x6_26 : Int32, x6_26 = (if (iLa_7 (Int32.toNatClampNeg x8_22)) < x6_14 then (iLa_7 (Int32.toNatClampNeg x8_22)) else x6_14) → wp_X6_beginBoth_b85 (wp_X6_beginBoth_L38 tBe tC iRo_2 iLa_7 x5_10 x38 n38) x6_26 x7_15)))))
def wp_X6_beginBoth_L15 (f2 : Nat → Int32) (tBe : Nat → Int32) (tC : Int32) (r_1 : Int32) (iRo_2 : Nat → Int32) (x15 : (Nat → Int32) → Prop) : Nat → (Int32) → (Nat → Int32) → Prop
  | 0, _, _ => False
  | n15 + 1, x4_6, iLa_7 =>
  ((x4_6 < 0 → x15 iLa_7) ∧
   (¬ x4_6 < 0 → vp_in x4_6 12 ∧ ∀ x5_10 : Int32, x5_10 = (iRo_2 (Int32.toNatClampNeg x4_6)) → ∀ x7_12 : Int32, x7_12 = (x4_6 + 1) → (∃ n38 : Nat, wp_X6_beginBoth_L38 tBe tC iRo_2 iLa_7 x5_10 (fun (x6_16 : Int32) => vp_in x5_10 12 ∧ vp_in x5_10 12 ∧ ∀ iLa_28 : Nat → Int32, iLa_28 = upd iLa_7 (Int32.toNatClampNeg x5_10) (x6_16 - (f2 (Int32.toNatClampNeg x5_10))) → ∀ x4_30 : Int32, x4_30 = x4_6 + (-1) → (wp_X6_beginBoth_L15 f2 tBe tC r_1 iRo_2 x15 n15) x4_30 iLa_28) n38 r_1 x7_12)))
def wp_X6_beginBoth (f2 : Nat → Int32) (tC : Int32) (tBe : Nat → Int32) (iRo : Nat → Int32) (iEa : Nat → Int32) (iLa : Nat → Int32)  (Qp : (Nat → Int32) → (Nat → Int32) → (Nat → Int32) → Prop) : Prop :=
  wp_X6_beginEarly (f2) tC tBe iRo iEa (fun (r_1 : Int32) (iRo_2 : Nat → Int32) (iEa_3 : Nat → Int32) => ∀ x4_4 : Int32, x4_4 = (tC - 1) → (∃ n15 : Nat, wp_X6_beginBoth_L15 f2 tBe tC r_1 iRo_2 (fun (iLa_8 : Nat → Int32) => Qp iRo_2 iEa_3 iLa_8) n15 x4_4 iLa))
theorem inn_X6_beginBoth_5 : ∀ w ∈ u_ws RX5 TX5 9, w ∈ wsX6_beginBoth := fun _ h => List.mem_cons_of_mem _ (List.mem_append_left _ (List.mem_append_right _ h))
theorem inn_X6_beginBoth_6 : ∀ w ∈ u_ws RX6 TX6 3, w ∈ wsX6_beginBoth := fun _ h => List.mem_cons_of_mem _ (List.mem_append_right _ h)
def rm_X6_beginBoth : Room := { frames := 3, cells := 0, slots := 0, locals := 74 }
set_option maxHeartbeats 4000000 in
set_option maxRecDepth 100000 in
theorem ct_X6_beginBoth {l : Launch} {D : va_G} {cI cJ cZ cE cD cK : ClassId} {ad : Nat → Nat} {bd dd : Nat → Nat → Nat} {bHK : Int32} {bHP : Int32} {bPF : Int32} {bWC : Int32} {bRi : Int32} {bBe : Int32} {bFi : Int32} {bWa : Nat → Int32} {dB : Nat → Int32} {dS : Nat → Int32} {dN : Nat → Nat → Int64} {tC : Int32} {tKi : Nat → Int32} {tEa : Nat → Int32} {tHa : Nat → Int32} {tPr : Nat → Int32} {tEx : Nat → Int32} {tSt : Nat → Int32} {tTo : Nat → Int32} {tBe : Nat → Int32} {kC : Int32} {kKi : Nat → Int32} {kEa : Nat → Int32} {kHa : Nat → Int32} {kPr : Nat → Int32} {kEx : Nat → Int32} {kSt : Nat → Int32} {kTo : Nat → Int32} {kBe : Nat → Int32} {aC : Int32} {aWh : Nat → Int32} {aTa : Nat → Int32} {aWa : Nat → Int32} {iRo : Nat → Int32} {iEa : Nat → Int32} {iLa : Nat → Int32} {cC : Int32} {nC : Int32} {nFo : Int32} {nQd : Int32} {nRo : Nat → Int32} {nBe : Nat → Int32} {nEa : Nat → Int32} {nMi : Nat → Int32} {nHa : Nat → Int32} {nER : Nat → Int32} {nMR : Nat → Int32} {nTh : Nat → Int32} {nPa : Nat → Int32} {nOu : Nat → Int32} {nFr : Nat → Int32} {nQu : Nat → Int32} {eM : Nat} {eL : Nat → Int32} {eC : Nat → Int64} {eS : Nat → Int64} {eB : Nat → Nat → Int32} {eE : Nat → Nat → Int32} {eF : Nat → Nat → Int32} {eG : Nat → Nat → Int32}    {Qp : (Nat → Int32) → (Nat → Int32) → (Nat → Int32) → Prop}   (h : wp_X6_beginBoth tTo tC tBe iRo iEa iLa Qp) : CTv l yX6_beginBoth wsX6_beginBoth rm_X6_beginBoth D (tyL cI cJ cZ cE cD cK) [.ref (ad 32), .ref (ad 10), .ref (ad 17)] (WC cI cJ cE cD ad bd dd bHK bHP bPF bWC bRi bBe bFi bWa dB dS dN tC tKi tEa tHa tPr tEx tSt tTo tBe kC kKi kEa kHa kPr kEx kSt kTo kBe aC aWh aTa aWa iRo iEa iLa cC nC nFo nQd nRo nBe nEa nMi nHa nER nMR nTh nPa nOu nFr nQu eM eL eC eS eB eE eF eG) (fun u : (Nat → Int32) × (Nat → Int32) × (Nat → Int32) => Qp u.1 u.2.1 u.2.2) (fun u : (Nat → Int32) × (Nat → Int32) × (Nat → Int32) => (WC cI cJ cE cD ad bd dd bHK bHP bPF bWC bRi bBe bFi bWa dB dS dN tC tKi tEa tHa tPr tEx tSt tTo tBe kC kKi kEa kHa kPr kEx kSt kTo kBe aC aWh aTa aWa u.1 u.2.1 u.2.2 cC nC nFo nQd nRo nBe nEa nMi nHa nER nMR nTh nPa nOu nFr nQu eM eL eC eS eB eE eF eG)) 0 0 := by
  refine ent_v (cc := cX6_beginBoth) (maxL := 9) (ret := none) (by decide) rfl (Nat.le_of_ble_eq_true rfl) ?_
  intro p e s m args below meth c A Q hQ hx hb hr hml hown hts hlk hA hAB hP hD hS ls hl
  have hown : s.vm.findClass RX6 = some m.cls := hown
  have hl : lv_has ls 9 [(0, .ref (ad 32)), (1, .ref (ad 10)), (2, .ref (ad 17))] := hl
  generalize hH : s.heap = H at hP ⊢
  have hS : va_S A s.heap H [] := by rw [← hH]; exact hS
  clear hH
  generalize ([] : List Loc) = locs at hS ⊢
  refine lv_aload_n hx hb dX6_beginBoth_0 rfl (lv_at hl 0 rfl) ?_
  refine lv_aload_n hx hb dX6_beginBoth_1 rfl (lv_at hl 1 rfl) ?_
  refine lv_aload_n hx hb dX6_beginBoth_2 rfl (lv_at hl 2 rfl) ?_
  refine cl_i hD hS hA (va_runV (As := [.ref (ad 10), .ref (ad 17)]) (rest := []) ⟨hx, hb, hml, hown, hts⟩ (ct_X6_beginEarly_1 h H.size) (cwV 2 hts gX6_beginBoth_X6_beginEarly rfl rfl rfl (by decide +kernel) ⟨Nat.le_of_ble_eq_true rfl, Nat.le_of_ble_eq_true rfl⟩) ⟨CPre.blind, va_recv hAB.1 hP (ci := 6) (q0 := 32) rfl rfl, wd_pre hAB hP hD hS hA⟩ rfl rfl hl.1 rfl (lv_room (Nat.le_of_ble_eq_true rfl)) dX6_beginBoth_3 ⟨Nat.zero_le _, Nat.zero_le _⟩) (fun r_1 u H locs h hP hD hS => ?_)
  obtain ⟨iRo_2, iEa_3⟩ := u
  have hP : va_P D vwCl (WC cI cJ cE cD ad bd dd bHK bHP bPF bWC bRi bBe bFi bWa dB dS dN tC tKi tEa tHa tPr tEx tSt tTo tBe kC kKi kEa kHa kPr kEx kSt kTo kBe aC aWh aTa aWa iRo_2 iEa_3 iLa cC nC nFo nQd nRo nBe nEa nMi nHa nER nMR nTh nPa nOu nFr nQu eM eL eC eS eB eE eF eG) H := hP
  have hD : va_D A (WC cI cJ cE cD ad bd dd bHK bHP bPF bWC bRi bBe bFi bWa dB dS dN tC tKi tEa tHa tPr tEx tSt tTo tBe kC kKi kEa kHa kPr kEx kSt kTo kBe aC aWh aTa aWa iRo_2 iEa_3 iLa cC nC nFo nQd nRo nBe nEa nMi nHa nER nMR nTh nPa nOu nFr nQu eM eL eC eS eB eE eF eG) := hD
  refine lv_istore_n (lv' := [(3, .int r_1), (0, .ref (ad 32)), (1, .ref (ad 10)), (2, .ref (ad 17))]) hx hb dX6_beginBoth_6 rfl hl (by decide) rfl (fun ls hl => ?_)
  refine lv_aload_n hx hb dX6_beginBoth_7 rfl (lv_at hl 2 rfl) ?_
  refine va_get (D := D) (ci := 5) (C := RX5) (T := TX5) (N := 9) hx hb hts inn_X6_beginBoth_5 hown hAB.1 hP 10 rfl rfl 0 (by decide) (hts (.fieldLink RX6 27 "BarnBench$Tasks" "count" "I") (by decide +kernel)) (fun _ h9 => h9) rfl dX6_beginBoth_8 ?_
  refine lv_iconst (v := 1) hx hb dX6_beginBoth_11 (by decide) ?_
  refine lv_isub hx hb dX6_beginBoth_12 ?_
  refine lv_topi (fun x4_4 e_5 => ?_)
  have h := h x4_4 e_5
  refine lv_istore (lv' := [(4, .int x4_4), (3, .int r_1), (0, .ref (ad 32)), (1, .ref (ad 10)), (2, .ref (ad 17))]) hx hb dX6_beginBoth_13 hl (by decide) rfl (fun ls hl => ?_)
  have L15 : ∀ (x15 : (Nat → Int32) → Prop) (hk15 : ∀ (iLa_8 : Nat → Int32), x15 iLa_8 → ∀ (H : Heap) (locs : List Loc) (ls : Array Slot), va_P D vwCl (WC cI cJ cE cD ad bd dd bHK bHP bPF bWC bRi bBe bFi bWa dB dS dN tC tKi tEa tHa tPr tEx tSt tTo tBe kC kKi kEa kHa kPr kEx kSt kTo kBe aC aWh aTa aWa iRo_2 iEa_3 iLa_8 cC nC nFo nQd nRo nBe nEa nMi nHa nER nMR nTh nPa nOu nFr nQu eM eL eC eS eB eE eF eG) H → va_D A (WC cI cJ cE cD ad bd dd bHK bHP bPF bWC bRi bBe bFi bWa dB dS dN tC tKi tEa tHa tPr tEx tSt tTo tBe kC kKi kEa kHa kPr kEx kSt kTo kBe aC aWh aTa aWa iRo_2 iEa_3 iLa_8 cC nC nFo nQd nRo nBe nEa nMi nHa nER nMR nTh nPa nOu nFr nQu eM eL eC eS eB eE eF eG) → va_S A s.heap H locs → lv_has ls 9 [] → W p l e (headSpec wsX6_beginBoth rm_X6_beginBoth).room s m args below meth c H locs 0 0 Q (F0 m 111 ls [])) (n15 : Nat) (x4_6 : Int32) (iLa_7 : Nat → Int32), wp_X6_beginBoth_L15 tTo tBe tC r_1 iRo_2 x15 n15 x4_6 iLa_7 → ∀ (H : Heap) (locs : List Loc) (ls : Array Slot), va_P D vwCl (WC cI cJ cE cD ad bd dd bHK bHP bPF bWC bRi bBe bFi bWa dB dS dN tC tKi tEa tHa tPr tEx tSt tTo tBe kC kKi kEa kHa kPr kEx kSt kTo kBe aC aWh aTa aWa iRo_2 iEa_3 iLa_7 cC nC nFo nQd nRo nBe nEa nMi nHa nER nMR nTh nPa nOu nFr nQu eM eL eC eS eB eE eF eG) H → va_D A (WC cI cJ cE cD ad bd dd bHK bHP bPF bWC bRi bBe bFi bWa dB dS dN tC tKi tEa tHa tPr tEx tSt tTo tBe kC kKi kEa kHa kPr kEx kSt kTo kBe aC aWh aTa aWa iRo_2 iEa_3 iLa_7 cC nC nFo nQd nRo nBe nEa nMi nHa nER nMR nTh nPa nOu nFr nQu eM eL eC eS eB eE eF eG) → va_S A s.heap H locs → lv_has ls 9 [(0, .ref (ad 32)), (1, .ref (ad 10)), (2, .ref (ad 17)), (3, .int r_1), (4, .int x4_6)] → W p l e (headSpec wsX6_beginBoth rm_X6_beginBoth).room s m args below meth c H locs 0 0 Q (F0 m 15 ls []) := by
    intro x15 hk15 n15
    induction n15 with
    | zero => intro x4_6 iLa_7 h; exact False.elim h
    | succ n15 ih15 =>
      intro x4_6 iLa_7 h H locs ls hP hD hS hl
      refine lv_iload hx hb dX6_beginBoth_15 (lv_at hl 4 rfl) ?_
      refine lv_if_lt (tgt := 111) hx hb dX6_beginBoth_17 (by decide) (fun c_9 => ?_) (fun c_9 => ?_)
      · have h := h.1 c_9
        exact hk15 iLa_7 h H locs ls hP hD hS (lv_sub hl [] rfl)
      · have h := h.2 c_9
        refine lv_aload_n hx hb dX6_beginBoth_20 rfl (lv_at hl 0 rfl) ?_
        refine va_get (D := D) (ci := 6) (C := RX6) (T := TX6) (N := 3) hx hb hts inn_X6_beginBoth_6 hown hAB.1 hP 32 rfl rfl 0 (by decide) (hts (.fieldLink RX6 9 "BarnBench$Timing" "row" "[I") (by decide +kernel)) (fun _ h9 => h9) rfl dX6_beginBoth_21 ?_
        refine lv_iload hx hb dX6_beginBoth_24 (lv_at hl 4 rfl) ?_
        refine va_iald hx hb hAB.1 hP 33 0 rfl rfl h.1 dX6_beginBoth_26 ?_
        have h := h.2
        refine lv_topi (fun x5_10 e_11 => ?_)
        have h := h x5_10 e_11
        refine lv_istore (lv' := [(5, .int x5_10), (0, .ref (ad 32)), (1, .ref (ad 10)), (2, .ref (ad 17)), (3, .int r_1), (4, .int x4_6)]) hx hb dX6_beginBoth_27 hl (by decide) rfl (fun ls hl => ?_)
        refine lv_iload_n hx hb dX6_beginBoth_29 rfl (lv_at hl 4 rfl) ?_
        refine lv_istore (lv' := [(6, .int r_1), (5, .int x5_10), (0, .ref (ad 32)), (1, .ref (ad 10)), (2, .ref (ad 17)), (3, .int r_1), (4, .int x4_6)]) hx hb dX6_beginBoth_30 hl (by decide) rfl (fun ls hl => ?_)
        refine lv_iload hx hb dX6_beginBoth_32 (lv_at hl 6 rfl) ?_
        refine lv_iconst (v := 1) hx hb dX6_beginBoth_34 (by decide) ?_
        refine lv_iadd hx hb dX6_beginBoth_35 ?_
        refine lv_topi (fun x7_12 e_13 => ?_)
        have h := h x7_12 e_13
        refine lv_istore (lv' := [(7, .int x7_12), (6, .int r_1), (5, .int x5_10), (0, .ref (ad 32)), (1, .ref (ad 10)), (2, .ref (ad 17)), (3, .int r_1), (4, .int x4_6)]) hx hb dX6_beginBoth_36 hl (by decide) rfl (fun ls hl => ?_)
        have L38 : ∀ (x38 : (Int32) → Prop) (hk38 : ∀ (x6_16 : Int32), x38 x6_16 → ∀ (H : Heap) (locs : List Loc) (ls : Array Slot), va_P D vwCl (WC cI cJ cE cD ad bd dd bHK bHP bPF bWC bRi bBe bFi bWa dB dS dN tC tKi tEa tHa tPr tEx tSt tTo tBe kC kKi kEa kHa kPr kEx kSt kTo kBe aC aWh aTa aWa iRo_2 iEa_3 iLa_7 cC nC nFo nQd nRo nBe nEa nMi nHa nER nMR nTh nPa nOu nFr nQu eM eL eC eS eB eE eF eG) H → va_D A (WC cI cJ cE cD ad bd dd bHK bHP bPF bWC bRi bBe bFi bWa dB dS dN tC tKi tEa tHa tPr tEx tSt tTo tBe kC kKi kEa kHa kPr kEx kSt kTo kBe aC aWh aTa aWa iRo_2 iEa_3 iLa_7 cC nC nFo nQd nRo nBe nEa nMi nHa nER nMR nTh nPa nOu nFr nQu eM eL eC eS eB eE eF eG) → va_S A s.heap H locs → lv_has ls 9 [(0, .ref (ad 32)), (1, .ref (ad 10)), (2, .ref (ad 17)), (3, .int r_1), (4, .int x4_6), (5, .int x5_10), (6, .int x6_16)] → W p l e (headSpec wsX6_beginBoth rm_X6_beginBoth).room s m args below meth c H locs 0 0 Q (F0 m 91 ls [])) (n38 : Nat) (x6_14 : Int32) (x7_15 : Int32), wp_X6_beginBoth_L38 tBe tC iRo_2 iLa_7 x5_10 x38 n38 x6_14 x7_15 → ∀ (H : Heap) (locs : List Loc) (ls : Array Slot), va_P D vwCl (WC cI cJ cE cD ad bd dd bHK bHP bPF bWC bRi bBe bFi bWa dB dS dN tC tKi tEa tHa tPr tEx tSt tTo tBe kC kKi kEa kHa kPr kEx kSt kTo kBe aC aWh aTa aWa iRo_2 iEa_3 iLa_7 cC nC nFo nQd nRo nBe nEa nMi nHa nER nMR nTh nPa nOu nFr nQu eM eL eC eS eB eE eF eG) H → va_D A (WC cI cJ cE cD ad bd dd bHK bHP bPF bWC bRi bBe bFi bWa dB dS dN tC tKi tEa tHa tPr tEx tSt tTo tBe kC kKi kEa kHa kPr kEx kSt kTo kBe aC aWh aTa aWa iRo_2 iEa_3 iLa_7 cC nC nFo nQd nRo nBe nEa nMi nHa nER nMR nTh nPa nOu nFr nQu eM eL eC eS eB eE eF eG) → va_S A s.heap H locs → lv_has ls 9 [(0, .ref (ad 32)), (1, .ref (ad 10)), (2, .ref (ad 17)), (3, .int r_1), (4, .int x4_6), (5, .int x5_10), (6, .int x6_14), (7, .int x7_15)] → W p l e (headSpec wsX6_beginBoth rm_X6_beginBoth).room s m args below meth c H locs 0 0 Q (F0 m 38 ls []) := by
          intro x38 hk38 n38
          induction n38 with
          | zero => intro x6_14 x7_15 h; exact False.elim h
          | succ n38 ih38 =>
            intro x6_14 x7_15 h H locs ls hP hD hS hl
            have B85 : ∀ (x6_17 : Int32) (x7_18 : Int32), wp_X6_beginBoth_b85 (wp_X6_beginBoth_L38 tBe tC iRo_2 iLa_7 x5_10 x38 n38) x6_17 x7_18 → ∀ (H : Heap) (locs : List Loc) (ls : Array Slot), va_P D vwCl (WC cI cJ cE cD ad bd dd bHK bHP bPF bWC bRi bBe bFi bWa dB dS dN tC tKi tEa tHa tPr tEx tSt tTo tBe kC kKi kEa kHa kPr kEx kSt kTo kBe aC aWh aTa aWa iRo_2 iEa_3 iLa_7 cC nC nFo nQd nRo nBe nEa nMi nHa nER nMR nTh nPa nOu nFr nQu eM eL eC eS eB eE eF eG) H → va_D A (WC cI cJ cE cD ad bd dd bHK bHP bPF bWC bRi bBe bFi bWa dB dS dN tC tKi tEa tHa tPr tEx tSt tTo tBe kC kKi kEa kHa kPr kEx kSt kTo kBe aC aWh aTa aWa iRo_2 iEa_3 iLa_7 cC nC nFo nQd nRo nBe nEa nMi nHa nER nMR nTh nPa nOu nFr nQu eM eL eC eS eB eE eF eG) → va_S A s.heap H locs → lv_has ls 9 [(0, .ref (ad 32)), (1, .ref (ad 10)), (2, .ref (ad 17)), (3, .int r_1), (4, .int x4_6), (5, .int x5_10), (6, .int x6_17), (7, .int x7_18)] → W p l e (headSpec wsX6_beginBoth rm_X6_beginBoth).room s m args below meth c H locs 0 0 Q (F0 m 85 ls []) := by
              intro x6_17 x7_18 h H locs ls hP hD hS hl
              obtain ⟨x7_19, e_20⟩ : ∃ y : Int32, y = x7_18 + 1 := ⟨_, rfl⟩
              have h := h x7_19 e_20
              refine lv_iinc (v := x7_19) (lv' := [(7, .int x7_19), (0, .ref (ad 32)), (1, .ref (ad 10)), (2, .ref (ad 17)), (3, .int r_1), (4, .int x4_6), (5, .int x5_10), (6, .int x6_17)]) hx hb dX6_beginBoth_85 hl (k := 7) rfl (by rw [e_20]; rfl) (by decide) rfl (fun ls hl => ?_)
              refine lv_goto (tgt := 38) hx hb dX6_beginBoth_88 (by decide) ?_
              exact ih38 x6_17 x7_19 h H locs ls hP hD hS (lv_sub hl [1, 2, 3, 4, 5, 6, 7, 0] rfl)
            refine lv_iload hx hb dX6_beginBoth_38 (lv_at hl 7 rfl) ?_
            refine lv_aload_n hx hb dX6_beginBoth_40 rfl (lv_at hl 1 rfl) ?_
            refine va_get (D := D) (ci := 5) (C := RX5) (T := TX5) (N := 9) hx hb hts inn_X6_beginBoth_5 hown hAB.1 hP 10 rfl rfl 0 (by decide) (hts (.fieldLink RX6 27 "BarnBench$Tasks" "count" "I") (by decide +kernel)) (fun _ h9 => h9) rfl dX6_beginBoth_41 ?_
            refine lv_icmp_ge (tgt := 91) hx hb dX6_beginBoth_44 (by decide) (fun c_21 => ?_) (fun c_21 => ?_)
            · have h := h.1 c_21
              exact hk38 x6_14 h H locs ls hP hD hS (lv_sub hl [0, 1, 2, 3, 4, 5, 6] rfl)
            · have h := h.2 c_21
              refine lv_aload_n hx hb dX6_beginBoth_47 rfl (lv_at hl 0 rfl) ?_
              refine va_get (D := D) (ci := 6) (C := RX6) (T := TX6) (N := 3) hx hb hts inn_X6_beginBoth_6 hown hAB.1 hP 32 rfl rfl 0 (by decide) (hts (.fieldLink RX6 9 "BarnBench$Timing" "row" "[I") (by decide +kernel)) (fun _ h9 => h9) rfl dX6_beginBoth_48 ?_
              refine lv_iload hx hb dX6_beginBoth_51 (lv_at hl 7 rfl) ?_
              refine va_iald hx hb hAB.1 hP 33 0 rfl rfl h.1 dX6_beginBoth_53 ?_
              have h := h.2
              refine lv_topi (fun x8_22 e_23 => ?_)
              have h := h x8_22 e_23
              refine lv_istore (lv' := [(8, .int x8_22), (0, .ref (ad 32)), (1, .ref (ad 10)), (2, .ref (ad 17)), (3, .int r_1), (4, .int x4_6), (5, .int x5_10), (6, .int x6_14), (7, .int x7_15)]) hx hb dX6_beginBoth_54 hl (by decide) rfl (fun ls hl => ?_)
              refine lv_aload_n hx hb dX6_beginBoth_56 rfl (lv_at hl 2 rfl) ?_
              refine va_get (D := D) (ci := 5) (C := RX5) (T := TX5) (N := 9) hx hb hts inn_X6_beginBoth_5 hown hAB.1 hP 10 rfl rfl 8 (by decide) (hts (.fieldLink RX6 31 "BarnBench$Tasks" "before" "[I") (by decide +kernel)) (fun _ h9 => h9) rfl dX6_beginBoth_57 ?_
              refine lv_iload hx hb dX6_beginBoth_60 (lv_at hl 0 rfl) ?_
              refine va_iald hx hb hAB.1 hP 18 0 rfl rfl h.1 dX6_beginBoth_62 ?_
              have h := h.2
              refine lv_iload hx hb dX6_beginBoth_63 (lv_at hl 6 rfl) ?_
              refine cl_i hD hS hA (va_runSN (As := [.int (tBe (Int32.toNatClampNeg x8_22)), .int x5_10]) (rest := []) ⟨hx, hb, hml, hown, hts⟩ (ct_X7_hasBit h H.size) ⟨va_cnB 2 hts gX6_beginBoth_X7_hasBit_n34 rfl rfl rfl (hAB.2.1 (.methodLinkNest RX6 34 yX7_hasBit RX7) (by decide +kernel)) (hts (.initialized RX7) (by decide +kernel)) (by decide +kernel) ⟨Nat.le_of_ble_eq_true rfl, Nat.le_of_ble_eq_true rfl⟩, (hts (.static yX7_hasBit) (by decide +kernel)), trivial⟩ ⟨CPre.blind, wd_pre hAB hP hD hS hA⟩ rfl rfl hl.1 rfl (lv_room (Nat.le_of_ble_eq_true rfl)) dX6_beginBoth_65 ⟨Nat.zero_le _, Nat.zero_le _⟩) (fun r_24 u H locs h hP hD hS => ?_)
              refine lv_if_eq (tgt := 85) hx hb dX6_beginBoth_68 (by decide) (fun c_25 => ?_) (fun c_25 => ?_)
              · have h := h.1 c_25
                exact B85 x6_14 x7_15 h H locs ls hP hD hS (lv_sub hl [1, 2, 3, 4, 5, 6, 7, 8] rfl)
              · have h := h.2 c_25
                refine lv_iload hx hb dX6_beginBoth_71 (lv_at hl 7 rfl) ?_
                refine lv_aload_n hx hb dX6_beginBoth_73 rfl (lv_at hl 1 rfl) ?_
                refine va_get (D := D) (ci := 6) (C := RX6) (T := TX6) (N := 3) hx hb hts inn_X6_beginBoth_6 hown hAB.1 hP 32 rfl rfl 2 (by decide) (hts (.fieldLink RX6 18 "BarnBench$Timing" "lates" "[I") (by decide +kernel)) (fun _ h9 => h9) rfl dX6_beginBoth_74 ?_
                refine lv_iload hx hb dX6_beginBoth_77 (lv_at hl 0 rfl) ?_
                refine va_iald hx hb hAB.1 hP 35 0 rfl rfl h.1 dX6_beginBoth_79 ?_
                have h := h.2
                refine va_mmin (rest := []) hx hb (by rw [hml]; exact hl.1.symm) hown (hts (.methodLink RX6 48 Lib.Math.min.name) (by decide +kernel)) (hts (.static Lib.Math.min.name) (by decide +kernel)) (hts (.initialized "java/lang/Math") (by decide +kernel)) (hts (.code Lib.Math.min.name Lib.Math.min.code 2 (some .int)) (by decide +kernel)) (Nat.le_of_ble_eq_true rfl) (Nat.le_of_ble_eq_true rfl) (Nat.zero_le _) (Nat.zero_le _) dX6_beginBoth_80 ?_
                refine lv_topi (fun x6_26 e_27 => ?_)
                have h := h x6_26 e_27
                refine lv_istore (lv' := [(6, .int x6_26), (8, .int x8_22), (0, .ref (ad 32)), (1, .ref (ad 10)), (2, .ref (ad 17)), (3, .int r_1), (4, .int x4_6), (5, .int x5_10), (7, .int x7_15)]) hx hb dX6_beginBoth_83 hl (by decide) rfl (fun ls hl => ?_)
                exact B85 x6_26 x7_15 h H locs ls hP hD hS (lv_sub hl [2, 3, 4, 5, 6, 7, 0, 8] rfl)
        obtain ⟨n38, h⟩ := h
        refine L38 _ (fun x6_16 h H locs ls hP hD hS hl => ?_) n38 r_1 x7_12 h H locs ls hP hD hS (lv_sub hl [3, 4, 5, 6, 7, 2, 1, 0] rfl)
        refine lv_aload_n hx hb dX6_beginBoth_91 rfl (lv_at hl 0 rfl) ?_
        refine va_get (D := D) (ci := 6) (C := RX6) (T := TX6) (N := 3) hx hb hts inn_X6_beginBoth_6 hown hAB.1 hP 32 rfl rfl 2 (by decide) (hts (.fieldLink RX6 18 "BarnBench$Timing" "lates" "[I") (by decide +kernel)) (fun _ h9 => h9) rfl dX6_beginBoth_92 ?_
        refine lv_iload hx hb dX6_beginBoth_95 (lv_at hl 5 rfl) ?_
        refine lv_iload hx hb dX6_beginBoth_97 (lv_at hl 6 rfl) ?_
        refine lv_aload_n hx hb dX6_beginBoth_99 rfl (lv_at hl 2 rfl) ?_
        refine lv_iload hx hb dX6_beginBoth_100 (lv_at hl 5 rfl) ?_
        refine va_iald hx hb hAB.1 hP 17 0 rfl rfl h.1 dX6_beginBoth_102 ?_
        have h := h.2
        refine lv_isub hx hb dX6_beginBoth_103 ?_
        refine sC_35 hx hb hAB hP hD hS h.1 dX6_beginBoth_104 (fun iLa_28 H locs e_29 hP hD hS => ?_)
        have h := h.2
        have h := h iLa_28 e_29
        obtain ⟨x4_30, e_31⟩ : ∃ y : Int32, y = x4_6 + (-1) := ⟨_, rfl⟩
        have h := h x4_30 e_31
        refine lv_iinc (v := x4_30) (lv' := [(4, .int x4_30), (0, .ref (ad 32)), (1, .ref (ad 10)), (2, .ref (ad 17)), (3, .int r_1), (5, .int x5_10), (6, .int x6_16)]) hx hb dX6_beginBoth_105 hl (k := 4) rfl (by rw [e_31]; rfl) (by decide) rfl (fun ls hl => ?_)
        refine lv_goto (tgt := 15) hx hb dX6_beginBoth_108 (by decide) ?_
        exact ih15 x4_30 iLa_28 h H locs ls hP hD hS (lv_sub hl [1, 2, 3, 4, 0] rfl)
  obtain ⟨n15, h⟩ := h
  refine L15 _ (fun iLa_8 h H locs ls hP hD hS hl => ?_) n15 x4_4 iLa h H locs ls hP hD hS (lv_sub hl [2, 3, 4, 1, 0] rfl)
  exact rt_v (iRo_2, iEa_3, iLa_8) hQ hx hb hr hlk hP hD hS ⟨Nat.zero_le _, Nat.zero_le _⟩ dX6_beginBoth_111 h
def wp_X1_costAt (f0_cost : Int64) (f0_length : Int32) (f0_slope : Int64) (a1 : Int32) (Qp : Int64 → Prop) : Prop :=
  Qp (f0_cost - (f0_slope * (Int32.toInt64 (a1 - f0_length))))
theorem inn_X1_costAt_1 : ∀ w ∈ u_ws RX1 TX1 7, w ∈ wsX1_costAt := fun _ h => List.mem_cons_of_mem _ (List.mem_append_right _ h)
def rm_X1_costAt : Room := { frames := 0, cells := 0, slots := 0, locals := 0 }
set_option maxHeartbeats 4000000 in
set_option maxRecDepth 100000 in
theorem ct_X1_costAt {l : Launch} {D : va_G} {cI cJ cZ cE cD cK : ClassId} {ad : Nat → Nat} {bd dd : Nat → Nat → Nat} {bHK : Int32} {bHP : Int32} {bPF : Int32} {bWC : Int32} {bRi : Int32} {bBe : Int32} {bFi : Int32} {bWa : Nat → Int32} {dB : Nat → Int32} {dS : Nat → Int32} {dN : Nat → Nat → Int64} {tC : Int32} {tKi : Nat → Int32} {tEa : Nat → Int32} {tHa : Nat → Int32} {tPr : Nat → Int32} {tEx : Nat → Int32} {tSt : Nat → Int32} {tTo : Nat → Int32} {tBe : Nat → Int32} {kC : Int32} {kKi : Nat → Int32} {kEa : Nat → Int32} {kHa : Nat → Int32} {kPr : Nat → Int32} {kEx : Nat → Int32} {kSt : Nat → Int32} {kTo : Nat → Int32} {kBe : Nat → Int32} {aC : Int32} {aWh : Nat → Int32} {aTa : Nat → Int32} {aWa : Nat → Int32} {iRo : Nat → Int32} {iEa : Nat → Int32} {iLa : Nat → Int32} {cC : Int32} {nC : Int32} {nFo : Int32} {nQd : Int32} {nRo : Nat → Int32} {nBe : Nat → Int32} {nEa : Nat → Int32} {nMi : Nat → Int32} {nHa : Nat → Int32} {nER : Nat → Int32} {nMR : Nat → Int32} {nTh : Nat → Int32} {nPa : Nat → Int32} {nOu : Nat → Int32} {nFr : Nat → Int32} {nQu : Nat → Int32} {eM : Nat} {eL : Nat → Int32} {eC : Nat → Int64} {eS : Nat → Int64} {eB : Nat → Nat → Int32} {eE : Nat → Nat → Int32} {eF : Nat → Nat → Int32} {eG : Nat → Nat → Int32} {i : Nat} {f0_cost : Int64} {f0_length : Int32} {f0_slope : Int64} {a1 : Int32} {Qp : Int64 → Prop} (hi0 : i < eM) (q_f0_cost : eC i = f0_cost) (q_f0_length : eL i = f0_length) (q_f0_slope : eS i = f0_slope) (h : wp_X1_costAt f0_cost f0_length f0_slope a1 Qp) : CTl l yX1_costAt wsX1_costAt rm_X1_costAt D (tyL cI cJ cZ cE cD cK) [.ref (bd i 0), .int a1] (WC cI cJ cE cD ad bd dd bHK bHP bPF bWC bRi bBe bFi bWa dB dS dN tC tKi tEa tHa tPr tEx tSt tTo tBe kC kKi kEa kHa kPr kEx kSt kTo kBe aC aWh aTa aWa iRo iEa iLa cC nC nFo nQd nRo nBe nEa nMi nHa nER nMR nTh nPa nOu nFr nQu eM eL eC eS eB eE eF eG) (fun (r : Int64) (u : Unit) => Qp r ) (fun u : Unit => (WC cI cJ cE cD ad bd dd bHK bHP bPF bWC bRi bBe bFi bWa dB dS dN tC tKi tEa tHa tPr tEx tSt tTo tBe kC kKi kEa kHa kPr kEx kSt kTo kBe aC aWh aTa aWa iRo iEa iLa cC nC nFo nQd nRo nBe nEa nMi nHa nER nMR nTh nPa nOu nFr nQu eM eL eC eS eB eE eF eG)) 0 0 := by
  subst q_f0_cost
  subst q_f0_length
  subst q_f0_slope
  refine ent_l (cc := cX1_costAt) (maxL := 2) (ret := (some .long)) (by decide) rfl (Nat.le_of_ble_eq_true rfl) ?_
  intro p e s m args below meth c A Q hQ hx hb hr hml hown hts hlk hA hAB hP hD hS ls hl
  have hown : s.vm.findClass RX1 = some m.cls := hown
  have hl : lv_has ls 2 [(0, .ref (bd i 0)), (1, .int a1)] := hl
  generalize hH : s.heap = H at hP ⊢
  have hS : va_S A s.heap H [] := by rw [← hH]; exact hS
  clear hH
  generalize ([] : List Loc) = locs at hS ⊢
  refine lv_aload_n hx hb dX1_costAt_0 rfl (lv_at hl 0 rfl) ?_
  refine va_get (D := D) (ci := 1) (C := RX1) (T := TX1) (N := 7) hx hb hts inn_X1_costAt_1 hown hAB.1 hP (52 + (i * 5 + 0)) (gB_0 hi0) rfl 1 (by decide) (hts (.fieldLink RX1 24 "BarnBench$Bend" "cost" "J") (by decide +kernel)) (fun _ h9 => h9) rfl dX1_costAt_1 ?_
  refine lv_aload_n hx hb dX1_costAt_4 rfl (lv_at hl 0 rfl) ?_
  refine va_get (D := D) (ci := 1) (C := RX1) (T := TX1) (N := 7) hx hb hts inn_X1_costAt_1 hown hAB.1 hP (52 + (i * 5 + 0)) (gB_0 hi0) rfl 2 (by decide) (hts (.fieldLink RX1 28 "BarnBench$Bend" "slope" "J") (by decide +kernel)) (fun _ h9 => h9) rfl dX1_costAt_5 ?_
  refine lv_iload_n hx hb dX1_costAt_8 rfl (lv_at hl 1 rfl) ?_
  refine lv_aload_n hx hb dX1_costAt_9 rfl (lv_at hl 0 rfl) ?_
  refine va_get (D := D) (ci := 1) (C := RX1) (T := TX1) (N := 7) hx hb hts inn_X1_costAt_1 hown hAB.1 hP (52 + (i * 5 + 0)) (gB_0 hi0) rfl 0 (by decide) (hts (.fieldLink RX1 31 "BarnBench$Bend" "length" "I") (by decide +kernel)) (fun _ h9 => h9) rfl dX1_costAt_10 ?_
  refine lv_isub hx hb dX1_costAt_13 ?_
  refine lv_i2l hx hb dX1_costAt_14 rfl ?_
  refine lv_lmul hx hb dX1_costAt_15 ?_
  refine lv_lsub hx hb dX1_costAt_16 ?_
  exact rt_l () hQ hx hb hr hlk hP hD hS ⟨Nat.zero_le _, Nat.zero_le _⟩ dX1_costAt_17 h
def wp_X1_beginAt (f0_begins : Nat → Int32) (f0_beginsLess : Nat → Int32) (a1 : Int32) (a2 : Int32) (Qp : Int32 → Prop) : Prop :=
  vp_in a1 12 ∧ vp_in a1 12 ∧ Qp (if (f0_begins (Int32.toNatClampNeg a1)) < (a2 + (f0_beginsLess (Int32.toNatClampNeg a1))) then (a2 + (f0_beginsLess (Int32.toNatClampNeg a1))) else (f0_begins (Int32.toNatClampNeg a1)))
theorem inn_X1_beginAt_1 : ∀ w ∈ u_ws RX1 TX1 7, w ∈ wsX1_beginAt := fun _ h => List.mem_cons_of_mem _ (List.mem_append_right _ h)
def rm_X1_beginAt : Room := { frames := 1, cells := 0, slots := 0, locals := 23 }
set_option maxHeartbeats 4000000 in
set_option maxRecDepth 100000 in
theorem ct_X1_beginAt {l : Launch} {D : va_G} {cI cJ cZ cE cD cK : ClassId} {ad : Nat → Nat} {bd dd : Nat → Nat → Nat} {bHK : Int32} {bHP : Int32} {bPF : Int32} {bWC : Int32} {bRi : Int32} {bBe : Int32} {bFi : Int32} {bWa : Nat → Int32} {dB : Nat → Int32} {dS : Nat → Int32} {dN : Nat → Nat → Int64} {tC : Int32} {tKi : Nat → Int32} {tEa : Nat → Int32} {tHa : Nat → Int32} {tPr : Nat → Int32} {tEx : Nat → Int32} {tSt : Nat → Int32} {tTo : Nat → Int32} {tBe : Nat → Int32} {kC : Int32} {kKi : Nat → Int32} {kEa : Nat → Int32} {kHa : Nat → Int32} {kPr : Nat → Int32} {kEx : Nat → Int32} {kSt : Nat → Int32} {kTo : Nat → Int32} {kBe : Nat → Int32} {aC : Int32} {aWh : Nat → Int32} {aTa : Nat → Int32} {aWa : Nat → Int32} {iRo : Nat → Int32} {iEa : Nat → Int32} {iLa : Nat → Int32} {cC : Int32} {nC : Int32} {nFo : Int32} {nQd : Int32} {nRo : Nat → Int32} {nBe : Nat → Int32} {nEa : Nat → Int32} {nMi : Nat → Int32} {nHa : Nat → Int32} {nER : Nat → Int32} {nMR : Nat → Int32} {nTh : Nat → Int32} {nPa : Nat → Int32} {nOu : Nat → Int32} {nFr : Nat → Int32} {nQu : Nat → Int32} {eM : Nat} {eL : Nat → Int32} {eC : Nat → Int64} {eS : Nat → Int64} {eB : Nat → Nat → Int32} {eE : Nat → Nat → Int32} {eF : Nat → Nat → Int32} {eG : Nat → Nat → Int32} {i : Nat} {f0_begins : Nat → Int32} {f0_beginsLess : Nat → Int32} {a1 : Int32} {a2 : Int32} {Qp : Int32 → Prop} (hi0 : i < eM) (q_f0_begins : eB i = f0_begins) (q_f0_beginsLess : eF i = f0_beginsLess) (h : wp_X1_beginAt f0_begins f0_beginsLess a1 a2 Qp) : CTi l yX1_beginAt wsX1_beginAt rm_X1_beginAt D (tyL cI cJ cZ cE cD cK) [.ref (bd i 0), .int a1, .int a2] (WC cI cJ cE cD ad bd dd bHK bHP bPF bWC bRi bBe bFi bWa dB dS dN tC tKi tEa tHa tPr tEx tSt tTo tBe kC kKi kEa kHa kPr kEx kSt kTo kBe aC aWh aTa aWa iRo iEa iLa cC nC nFo nQd nRo nBe nEa nMi nHa nER nMR nTh nPa nOu nFr nQu eM eL eC eS eB eE eF eG) (fun (r : Int32) (u : Unit) => Qp r ) (fun u : Unit => (WC cI cJ cE cD ad bd dd bHK bHP bPF bWC bRi bBe bFi bWa dB dS dN tC tKi tEa tHa tPr tEx tSt tTo tBe kC kKi kEa kHa kPr kEx kSt kTo kBe aC aWh aTa aWa iRo iEa iLa cC nC nFo nQd nRo nBe nEa nMi nHa nER nMR nTh nPa nOu nFr nQu eM eL eC eS eB eE eF eG)) 0 0 := by
  subst q_f0_begins
  subst q_f0_beginsLess
  refine ent_i (cc := cX1_beginAt) (maxL := 3) (ret := (some .int)) (by decide) rfl (Nat.le_of_ble_eq_true rfl) ?_
  intro p e s m args below meth c A Q hQ hx hb hr hml hown hts hlk hA hAB hP hD hS ls hl
  have hown : s.vm.findClass RX1 = some m.cls := hown
  have hl : lv_has ls 3 [(0, .ref (bd i 0)), (1, .int a1), (2, .int a2)] := hl
  generalize hH : s.heap = H at hP ⊢
  have hS : va_S A s.heap H [] := by rw [← hH]; exact hS
  clear hH
  generalize ([] : List Loc) = locs at hS ⊢
  refine lv_aload_n hx hb dX1_beginAt_0 rfl (lv_at hl 0 rfl) ?_
  refine va_get (D := D) (ci := 1) (C := RX1) (T := TX1) (N := 7) hx hb hts inn_X1_beginAt_1 hown hAB.1 hP (52 + (i * 5 + 0)) (gB_0 hi0) rfl 3 (by decide) (hts (.fieldLink RX1 9 "BarnBench$Bend" "begins" "[I") (by decide +kernel)) (fun _ h9 => h9) rfl dX1_beginAt_1 ?_
  refine lv_iload_n hx hb dX1_beginAt_4 rfl (lv_at hl 1 rfl) ?_
  refine va_iald hx hb hAB.1 hP (52 + (i * 5 + 1)) 0 (gB_1 hi0) rfl h.1 dX1_beginAt_5 ?_
  have h := h.2
  refine lv_iload_n hx hb dX1_beginAt_6 rfl (lv_at hl 2 rfl) ?_
  refine lv_aload_n hx hb dX1_beginAt_7 rfl (lv_at hl 0 rfl) ?_
  refine va_get (D := D) (ci := 1) (C := RX1) (T := TX1) (N := 7) hx hb hts inn_X1_beginAt_1 hown hAB.1 hP (52 + (i * 5 + 0)) (gB_0 hi0) rfl 5 (by decide) (hts (.fieldLink RX1 18 "BarnBench$Bend" "beginsLess" "[I") (by decide +kernel)) (fun _ h9 => h9) rfl dX1_beginAt_8 ?_
  refine lv_iload_n hx hb dX1_beginAt_11 rfl (lv_at hl 1 rfl) ?_
  refine va_iald hx hb hAB.1 hP (52 + (i * 5 + 3)) 0 (gB_3 hi0) rfl h.1 dX1_beginAt_12 ?_
  have h := h.2
  refine lv_iadd hx hb dX1_beginAt_13 ?_
  refine va_mmax (rest := []) hx hb (by rw [hml]; exact hl.1.symm) hown (hts (.methodLink RX1 35 Lib.Math.max.name) (by decide +kernel)) (hts (.static Lib.Math.max.name) (by decide +kernel)) (hts (.initialized "java/lang/Math") (by decide +kernel)) (hts (.code Lib.Math.max.name Lib.Math.max.code 2 (some .int)) (by decide +kernel)) (Nat.le_of_ble_eq_true rfl) (Nat.le_of_ble_eq_true rfl) (Nat.zero_le _) (Nat.zero_le _) dX1_beginAt_14 ?_
  exact rt_i () hQ hx hb hr hlk hP hD hS ⟨Nat.zero_le _, Nat.zero_le _⟩ dX1_beginAt_17 h
def wp_X1_endAt (f0_ends : Nat → Int32) (f0_endsLess : Nat → Int32) (a1 : Int32) (a2 : Int32) (Qp : Int32 → Prop) : Prop :=
  vp_in a1 12 ∧ vp_in a1 12 ∧ Qp (if (f0_ends (Int32.toNatClampNeg a1)) < (a2 + (f0_endsLess (Int32.toNatClampNeg a1))) then (a2 + (f0_endsLess (Int32.toNatClampNeg a1))) else (f0_ends (Int32.toNatClampNeg a1)))
theorem inn_X1_endAt_1 : ∀ w ∈ u_ws RX1 TX1 7, w ∈ wsX1_endAt := fun _ h => List.mem_cons_of_mem _ (List.mem_append_right _ h)
def rm_X1_endAt : Room := { frames := 1, cells := 0, slots := 0, locals := 23 }
set_option maxHeartbeats 4000000 in
set_option maxRecDepth 100000 in
theorem ct_X1_endAt {l : Launch} {D : va_G} {cI cJ cZ cE cD cK : ClassId} {ad : Nat → Nat} {bd dd : Nat → Nat → Nat} {bHK : Int32} {bHP : Int32} {bPF : Int32} {bWC : Int32} {bRi : Int32} {bBe : Int32} {bFi : Int32} {bWa : Nat → Int32} {dB : Nat → Int32} {dS : Nat → Int32} {dN : Nat → Nat → Int64} {tC : Int32} {tKi : Nat → Int32} {tEa : Nat → Int32} {tHa : Nat → Int32} {tPr : Nat → Int32} {tEx : Nat → Int32} {tSt : Nat → Int32} {tTo : Nat → Int32} {tBe : Nat → Int32} {kC : Int32} {kKi : Nat → Int32} {kEa : Nat → Int32} {kHa : Nat → Int32} {kPr : Nat → Int32} {kEx : Nat → Int32} {kSt : Nat → Int32} {kTo : Nat → Int32} {kBe : Nat → Int32} {aC : Int32} {aWh : Nat → Int32} {aTa : Nat → Int32} {aWa : Nat → Int32} {iRo : Nat → Int32} {iEa : Nat → Int32} {iLa : Nat → Int32} {cC : Int32} {nC : Int32} {nFo : Int32} {nQd : Int32} {nRo : Nat → Int32} {nBe : Nat → Int32} {nEa : Nat → Int32} {nMi : Nat → Int32} {nHa : Nat → Int32} {nER : Nat → Int32} {nMR : Nat → Int32} {nTh : Nat → Int32} {nPa : Nat → Int32} {nOu : Nat → Int32} {nFr : Nat → Int32} {nQu : Nat → Int32} {eM : Nat} {eL : Nat → Int32} {eC : Nat → Int64} {eS : Nat → Int64} {eB : Nat → Nat → Int32} {eE : Nat → Nat → Int32} {eF : Nat → Nat → Int32} {eG : Nat → Nat → Int32} {i : Nat} {f0_ends : Nat → Int32} {f0_endsLess : Nat → Int32} {a1 : Int32} {a2 : Int32} {Qp : Int32 → Prop} (hi0 : i < eM) (q_f0_ends : eE i = f0_ends) (q_f0_endsLess : eG i = f0_endsLess) (h : wp_X1_endAt f0_ends f0_endsLess a1 a2 Qp) : CTi l yX1_endAt wsX1_endAt rm_X1_endAt D (tyL cI cJ cZ cE cD cK) [.ref (bd i 0), .int a1, .int a2] (WC cI cJ cE cD ad bd dd bHK bHP bPF bWC bRi bBe bFi bWa dB dS dN tC tKi tEa tHa tPr tEx tSt tTo tBe kC kKi kEa kHa kPr kEx kSt kTo kBe aC aWh aTa aWa iRo iEa iLa cC nC nFo nQd nRo nBe nEa nMi nHa nER nMR nTh nPa nOu nFr nQu eM eL eC eS eB eE eF eG) (fun (r : Int32) (u : Unit) => Qp r ) (fun u : Unit => (WC cI cJ cE cD ad bd dd bHK bHP bPF bWC bRi bBe bFi bWa dB dS dN tC tKi tEa tHa tPr tEx tSt tTo tBe kC kKi kEa kHa kPr kEx kSt kTo kBe aC aWh aTa aWa iRo iEa iLa cC nC nFo nQd nRo nBe nEa nMi nHa nER nMR nTh nPa nOu nFr nQu eM eL eC eS eB eE eF eG)) 0 0 := by
  subst q_f0_ends
  subst q_f0_endsLess
  refine ent_i (cc := cX1_endAt) (maxL := 3) (ret := (some .int)) (by decide) rfl (Nat.le_of_ble_eq_true rfl) ?_
  intro p e s m args below meth c A Q hQ hx hb hr hml hown hts hlk hA hAB hP hD hS ls hl
  have hown : s.vm.findClass RX1 = some m.cls := hown
  have hl : lv_has ls 3 [(0, .ref (bd i 0)), (1, .int a1), (2, .int a2)] := hl
  generalize hH : s.heap = H at hP ⊢
  have hS : va_S A s.heap H [] := by rw [← hH]; exact hS
  clear hH
  generalize ([] : List Loc) = locs at hS ⊢
  refine lv_aload_n hx hb dX1_endAt_0 rfl (lv_at hl 0 rfl) ?_
  refine va_get (D := D) (ci := 1) (C := RX1) (T := TX1) (N := 7) hx hb hts inn_X1_endAt_1 hown hAB.1 hP (52 + (i * 5 + 0)) (gB_0 hi0) rfl 4 (by decide) (hts (.fieldLink RX1 15 "BarnBench$Bend" "ends" "[I") (by decide +kernel)) (fun _ h9 => h9) rfl dX1_endAt_1 ?_
  refine lv_iload_n hx hb dX1_endAt_4 rfl (lv_at hl 1 rfl) ?_
  refine va_iald hx hb hAB.1 hP (52 + (i * 5 + 2)) 0 (gB_2 hi0) rfl h.1 dX1_endAt_5 ?_
  have h := h.2
  refine lv_iload_n hx hb dX1_endAt_6 rfl (lv_at hl 2 rfl) ?_
  refine lv_aload_n hx hb dX1_endAt_7 rfl (lv_at hl 0 rfl) ?_
  refine va_get (D := D) (ci := 1) (C := RX1) (T := TX1) (N := 7) hx hb hts inn_X1_endAt_1 hown hAB.1 hP (52 + (i * 5 + 0)) (gB_0 hi0) rfl 6 (by decide) (hts (.fieldLink RX1 21 "BarnBench$Bend" "endsLess" "[I") (by decide +kernel)) (fun _ h9 => h9) rfl dX1_endAt_8 ?_
  refine lv_iload_n hx hb dX1_endAt_11 rfl (lv_at hl 1 rfl) ?_
  refine va_iald hx hb hAB.1 hP (52 + (i * 5 + 4)) 0 (gB_4 hi0) rfl h.1 dX1_endAt_12 ?_
  have h := h.2
  refine lv_iadd hx hb dX1_endAt_13 ?_
  refine va_mmax (rest := []) hx hb (by rw [hml]; exact hl.1.symm) hown (hts (.methodLink RX1 35 Lib.Math.max.name) (by decide +kernel)) (hts (.static Lib.Math.max.name) (by decide +kernel)) (hts (.initialized "java/lang/Math") (by decide +kernel)) (hts (.code Lib.Math.max.name Lib.Math.max.code 2 (some .int)) (by decide +kernel)) (Nat.le_of_ble_eq_true rfl) (Nat.le_of_ble_eq_true rfl) (Nat.zero_le _) (Nat.zero_le _) dX1_endAt_14 ?_
  exact rt_i () hQ hx hb hr hlk hP hD hS ⟨Nat.zero_le _, Nat.zero_le _⟩ dX1_endAt_17 h
def wp_X1_spanAt (f0_begins : Nat → Int32) (f0_beginsLess : Nat → Int32) (f0_ends : Nat → Int32) (f0_endsLess : Nat → Int32) (a1 : Int32) (a2 : Int32) (Qp : Int32 → Prop) : Prop :=
  wp_X1_endAt (f0_ends) (f0_endsLess) a1 a2 (fun (r_1 : Int32) => wp_X1_beginAt (f0_begins) (f0_beginsLess) a1 a2 (fun (r_2 : Int32) => Qp (r_1 - r_2)))
def rm_X1_spanAt : Room := { frames := 2, cells := 0, slots := 0, locals := 45 }
set_option maxHeartbeats 4000000 in
set_option maxRecDepth 100000 in
theorem ct_X1_spanAt {l : Launch} {D : va_G} {cI cJ cZ cE cD cK : ClassId} {ad : Nat → Nat} {bd dd : Nat → Nat → Nat} {bHK : Int32} {bHP : Int32} {bPF : Int32} {bWC : Int32} {bRi : Int32} {bBe : Int32} {bFi : Int32} {bWa : Nat → Int32} {dB : Nat → Int32} {dS : Nat → Int32} {dN : Nat → Nat → Int64} {tC : Int32} {tKi : Nat → Int32} {tEa : Nat → Int32} {tHa : Nat → Int32} {tPr : Nat → Int32} {tEx : Nat → Int32} {tSt : Nat → Int32} {tTo : Nat → Int32} {tBe : Nat → Int32} {kC : Int32} {kKi : Nat → Int32} {kEa : Nat → Int32} {kHa : Nat → Int32} {kPr : Nat → Int32} {kEx : Nat → Int32} {kSt : Nat → Int32} {kTo : Nat → Int32} {kBe : Nat → Int32} {aC : Int32} {aWh : Nat → Int32} {aTa : Nat → Int32} {aWa : Nat → Int32} {iRo : Nat → Int32} {iEa : Nat → Int32} {iLa : Nat → Int32} {cC : Int32} {nC : Int32} {nFo : Int32} {nQd : Int32} {nRo : Nat → Int32} {nBe : Nat → Int32} {nEa : Nat → Int32} {nMi : Nat → Int32} {nHa : Nat → Int32} {nER : Nat → Int32} {nMR : Nat → Int32} {nTh : Nat → Int32} {nPa : Nat → Int32} {nOu : Nat → Int32} {nFr : Nat → Int32} {nQu : Nat → Int32} {eM : Nat} {eL : Nat → Int32} {eC : Nat → Int64} {eS : Nat → Int64} {eB : Nat → Nat → Int32} {eE : Nat → Nat → Int32} {eF : Nat → Nat → Int32} {eG : Nat → Nat → Int32} {i : Nat} {f0_begins : Nat → Int32} {f0_beginsLess : Nat → Int32} {f0_ends : Nat → Int32} {f0_endsLess : Nat → Int32} {a1 : Int32} {a2 : Int32} {Qp : Int32 → Prop} (hi0 : i < eM) (q_f0_begins : eB i = f0_begins) (q_f0_beginsLess : eF i = f0_beginsLess) (q_f0_ends : eE i = f0_ends) (q_f0_endsLess : eG i = f0_endsLess) (h : wp_X1_spanAt f0_begins f0_beginsLess f0_ends f0_endsLess a1 a2 Qp) : CTi l yX1_spanAt wsX1_spanAt rm_X1_spanAt D (tyL cI cJ cZ cE cD cK) [.ref (bd i 0), .int a1, .int a2] (WC cI cJ cE cD ad bd dd bHK bHP bPF bWC bRi bBe bFi bWa dB dS dN tC tKi tEa tHa tPr tEx tSt tTo tBe kC kKi kEa kHa kPr kEx kSt kTo kBe aC aWh aTa aWa iRo iEa iLa cC nC nFo nQd nRo nBe nEa nMi nHa nER nMR nTh nPa nOu nFr nQu eM eL eC eS eB eE eF eG) (fun (r : Int32) (u : Unit) => Qp r ) (fun u : Unit => (WC cI cJ cE cD ad bd dd bHK bHP bPF bWC bRi bBe bFi bWa dB dS dN tC tKi tEa tHa tPr tEx tSt tTo tBe kC kKi kEa kHa kPr kEx kSt kTo kBe aC aWh aTa aWa iRo iEa iLa cC nC nFo nQd nRo nBe nEa nMi nHa nER nMR nTh nPa nOu nFr nQu eM eL eC eS eB eE eF eG)) 0 0 := by
  subst q_f0_begins
  subst q_f0_beginsLess
  subst q_f0_ends
  subst q_f0_endsLess
  refine ent_i (cc := cX1_spanAt) (maxL := 3) (ret := (some .int)) (by decide) rfl (Nat.le_of_ble_eq_true rfl) ?_
  intro p e s m args below meth c A Q hQ hx hb hr hml hown hts hlk hA hAB hP hD hS ls hl
  have hown : s.vm.findClass RX1 = some m.cls := hown
  have hl : lv_has ls 3 [(0, .ref (bd i 0)), (1, .int a1), (2, .int a2)] := hl
  generalize hH : s.heap = H at hP ⊢
  have hS : va_S A s.heap H [] := by rw [← hH]; exact hS
  clear hH
  generalize ([] : List Loc) = locs at hS ⊢
  refine lv_aload_n hx hb dX1_spanAt_0 rfl (lv_at hl 0 rfl) ?_
  refine lv_iload_n hx hb dX1_spanAt_1 rfl (lv_at hl 1 rfl) ?_
  refine lv_iload_n hx hb dX1_spanAt_2 rfl (lv_at hl 2 rfl) ?_
  refine cl_i hD hS hA (va_runV (As := [.int a1, .int a2]) (rest := []) ⟨hx, hb, hml, hown, hts⟩ (ct_X1_endAt hi0 rfl rfl h H.size) (cwV 2 hts gX1_spanAt_X1_endAt rfl rfl rfl (by decide +kernel) ⟨Nat.le_of_ble_eq_true rfl, Nat.le_of_ble_eq_true rfl⟩) ⟨CPre.blind, va_recv hAB.1 hP (ci := 1) (q0 := (52 + (i * 5 + 0))) rfl (gB_0 hi0), wd_pre hAB hP hD hS hA⟩ rfl rfl hl.1 rfl (lv_room (Nat.le_of_ble_eq_true rfl)) dX1_spanAt_3 ⟨Nat.zero_le _, Nat.zero_le _⟩) (fun r_1 u H locs h hP hD hS => ?_)
  refine lv_aload_n hx hb dX1_spanAt_6 rfl (lv_at hl 0 rfl) ?_
  refine lv_iload_n hx hb dX1_spanAt_7 rfl (lv_at hl 1 rfl) ?_
  refine lv_iload_n hx hb dX1_spanAt_8 rfl (lv_at hl 2 rfl) ?_
  refine cl_i hD hS hA (va_runV (As := [.int a1, .int a2]) (rest := [.int r_1]) ⟨hx, hb, hml, hown, hts⟩ (ct_X1_beginAt hi0 rfl rfl h H.size) (cwV 2 hts gX1_spanAt_X1_beginAt rfl rfl rfl (by decide +kernel) ⟨Nat.le_of_ble_eq_true rfl, Nat.le_of_ble_eq_true rfl⟩) ⟨CPre.blind, va_recv hAB.1 hP (ci := 1) (q0 := (52 + (i * 5 + 0))) rfl (gB_0 hi0), wd_pre hAB hP hD hS hA⟩ rfl rfl hl.1 rfl (lv_room (Nat.le_of_ble_eq_true rfl)) dX1_spanAt_9 ⟨Nat.zero_le _, Nat.zero_le _⟩) (fun r_2 u H locs h hP hD hS => ?_)
  refine lv_isub hx hb dX1_spanAt_12 ?_
  exact rt_i () hQ hx hb hr hlk hP hD hS ⟨Nat.zero_le _, Nat.zero_le _⟩ dX1_spanAt_13 h
