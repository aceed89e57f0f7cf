def wp_X4_spanOn (nEa : Nat → Int32) (nMi : Nat → Int32) (nHa : Nat → Int32) (nER : Nat → Int32) (nMR : Nat → Int32) (nTh : Nat → Int32) (a1 : Int32) (Qp : Int32 → Prop) : Prop :=
  vp_in a1 12 ∧ vp_in a1 12 ∧ (((nER (Int32.toNatClampNeg a1)) ≤ (nTh (Int32.toNatClampNeg a1)) → vp_in a1 12 ∧ vp_in a1 12 ∧ (((nMR (Int32.toNatClampNeg a1)) ≤ (nTh (Int32.toNatClampNeg a1)) → vp_in a1 12 ∧ Qp (nHa (Int32.toNatClampNeg a1))) ∧
   (¬ (nMR (Int32.toNatClampNeg a1)) ≤ (nTh (Int32.toNatClampNeg a1)) → vp_in a1 12 ∧ Qp (nMi (Int32.toNatClampNeg a1))))) ∧
   (¬ (nER (Int32.toNatClampNeg a1)) ≤ (nTh (Int32.toNatClampNeg a1)) → vp_in a1 12 ∧ Qp (nEa (Int32.toNatClampNeg a1))))
theorem inn_X4_spanOn_4 : ∀ w ∈ u_ws RX4 TX4 15, w ∈ wsX4_spanOn := fun _ h => List.mem_cons_of_mem _ (List.mem_append_right _ h)
def rm_X4_spanOn : Room := { frames := 0, cells := 0, slots := 0, locals := 0 }
set_option maxHeartbeats 4000000 in
set_option maxRecDepth 100000 in
theorem ct_X4_spanOn {l : Launch} {D : va_G} {cI cJ cZ cE cD cK : ClassId} {ad : Nat → Nat} {bd dd : Nat → Nat → Nat} {bHK : Int32} {bHP : Int32} {bPF : Int32} {bWC : Int32} {bRi : Int32} {bBe : Int32} {bFi : Int32} {bWa : Nat → Int32} {dB : Nat → Int32} {dS : Nat → Int32} {dN : Nat → Nat → Int64} {tC : Int32} {tKi : Nat → Int32} {tEa : Nat → Int32} {tHa : Nat → Int32} {tPr : Nat → Int32} {tEx : Nat → Int32} {tSt : Nat → Int32} {tTo : Nat → Int32} {tBe : Nat → Int32} {kC : Int32} {kKi : Nat → Int32} {kEa : Nat → Int32} {kHa : Nat → Int32} {kPr : Nat → Int32} {kEx : Nat → Int32} {kSt : Nat → Int32} {kTo : Nat → Int32} {kBe : Nat → Int32} {aC : Int32} {aWh : Nat → Int32} {aTa : Nat → Int32} {aWa : Nat → Int32} {iRo : Nat → Int32} {iEa : Nat → Int32} {iLa : Nat → Int32} {cC : Int32} {nC : Int32} {nFo : Int32} {nQd : Int32} {nRo : Nat → Int32} {nBe : Nat → Int32} {nEa : Nat → Int32} {nMi : Nat → Int32} {nHa : Nat → Int32} {nER : Nat → Int32} {nMR : Nat → Int32} {nTh : Nat → Int32} {nPa : Nat → Int32} {nOu : Nat → Int32} {nFr : Nat → Int32} {nQu : Nat → Int32} {eM : Nat} {eL : Nat → Int32} {eC : Nat → Int64} {eS : Nat → Int64} {eB : Nat → Nat → Int32} {eE : Nat → Nat → Int32} {eF : Nat → Nat → Int32} {eG : Nat → Nat → Int32}   {a1 : Int32} {Qp : Int32 → Prop}   (h : wp_X4_spanOn nEa nMi nHa nER nMR nTh a1 Qp) : CTi l yX4_spanOn wsX4_spanOn rm_X4_spanOn D (tyL cI cJ cZ cE cD cK) [.ref (ad 38), .int a1] (WC cI cJ cE cD ad bd dd bHK bHP bPF bWC bRi bBe bFi bWa dB dS dN tC tKi tEa tHa tPr tEx tSt tTo tBe kC kKi kEa kHa kPr kEx kSt kTo kBe aC aWh aTa aWa iRo iEa iLa cC nC nFo nQd nRo nBe nEa nMi nHa nER nMR nTh nPa nOu nFr nQu eM eL eC eS eB eE eF eG) (fun (r : Int32) (u : Unit) => Qp r ) (fun u : Unit => (WC cI cJ cE cD ad bd dd bHK bHP bPF bWC bRi bBe bFi bWa dB dS dN tC tKi tEa tHa tPr tEx tSt tTo tBe kC kKi kEa kHa kPr kEx kSt kTo kBe aC aWh aTa aWa iRo iEa iLa cC nC nFo nQd nRo nBe nEa nMi nHa nER nMR nTh nPa nOu nFr nQu eM eL eC eS eB eE eF eG)) 0 0 := by
  refine ent_i (cc := cX4_spanOn) (maxL := 2) (ret := (some .int)) (by decide) rfl (Nat.le_of_ble_eq_true rfl) ?_
  intro p e s m args below meth c A Q hQ hx hb hr hml hown hts hlk hA hAB hP hD hS ls hl
  have hown : s.vm.findClass RX4 = some m.cls := hown
  have hl : lv_has ls 2 [(0, .ref (ad 38)), (1, .int a1)] := hl
  generalize hH : s.heap = H at hP ⊢
  have hS : va_S A s.heap H [] := by rw [← hH]; exact hS
  clear hH
  generalize ([] : List Loc) = locs at hS ⊢
  refine lv_aload_n hx hb dX4_spanOn_0 rfl (lv_at hl 0 rfl) ?_
  refine va_get (D := D) (ci := 4) (C := RX4) (T := TX4) (N := 15) hx hb hts inn_X4_spanOn_4 hown hAB.1 hP 38 rfl rfl 9 (by decide) (hts (.fieldLink RX4 33 "BarnBench$Net" "through" "[I") (by decide +kernel)) (fun _ h9 => h9) rfl dX4_spanOn_1 ?_
  refine lv_iload_n hx hb dX4_spanOn_4 rfl (lv_at hl 1 rfl) ?_
  refine va_iald hx hb hAB.1 hP 46 0 rfl rfl h.1 dX4_spanOn_5 ?_
  have h := h.2
  refine lv_aload_n hx hb dX4_spanOn_6 rfl (lv_at hl 0 rfl) ?_
  refine va_get (D := D) (ci := 4) (C := RX4) (T := TX4) (N := 15) hx hb hts inn_X4_spanOn_4 hown hAB.1 hP 38 rfl rfl 7 (by decide) (hts (.fieldLink RX4 27 "BarnBench$Net" "easyRoom" "[I") (by decide +kernel)) (fun _ h9 => h9) rfl dX4_spanOn_7 ?_
  refine lv_iload_n hx hb dX4_spanOn_10 rfl (lv_at hl 1 rfl) ?_
  refine va_iald hx hb hAB.1 hP 44 0 rfl rfl h.1 dX4_spanOn_11 ?_
  have h := h.2
  refine lv_icmp_ge (tgt := 22) hx hb dX4_spanOn_12 (by decide) (fun c_1 => ?_) (fun c_1 => ?_)
  · have h := h.1 c_1
    refine lv_aload_n hx hb dX4_spanOn_22 rfl (lv_at hl 0 rfl) ?_
    refine va_get (D := D) (ci := 4) (C := RX4) (T := TX4) (N := 15) hx hb hts inn_X4_spanOn_4 hown hAB.1 hP 38 rfl rfl 9 (by decide) (hts (.fieldLink RX4 33 "BarnBench$Net" "through" "[I") (by decide +kernel)) (fun _ h9 => h9) rfl dX4_spanOn_23 ?_
    refine lv_iload_n hx hb dX4_spanOn_26 rfl (lv_at hl 1 rfl) ?_
    refine va_iald hx hb hAB.1 hP 46 0 rfl rfl h.1 dX4_spanOn_27 ?_
    have h := h.2
    refine lv_aload_n hx hb dX4_spanOn_28 rfl (lv_at hl 0 rfl) ?_
    refine va_get (D := D) (ci := 4) (C := RX4) (T := TX4) (N := 15) hx hb hts inn_X4_spanOn_4 hown hAB.1 hP 38 rfl rfl 8 (by decide) (hts (.fieldLink RX4 30 "BarnBench$Net" "midRoom" "[I") (by decide +kernel)) (fun _ h9 => h9) rfl dX4_spanOn_29 ?_
    refine lv_iload_n hx hb dX4_spanOn_32 rfl (lv_at hl 1 rfl) ?_
    refine va_iald hx hb hAB.1 hP 45 0 rfl rfl h.1 dX4_spanOn_33 ?_
    have h := h.2
    refine lv_icmp_ge (tgt := 46) hx hb dX4_spanOn_34 (by decide) (fun c_2 => ?_) (fun c_2 => ?_)
    · have h := h.1 c_2
      refine lv_aload_n hx hb dX4_spanOn_46 rfl (lv_at hl 0 rfl) ?_
      refine va_get (D := D) (ci := 4) (C := RX4) (T := TX4) (N := 15) hx hb hts inn_X4_spanOn_4 hown hAB.1 hP 38 rfl rfl 6 (by decide) (hts (.fieldLink RX4 24 "BarnBench$Net" "hard" "[I") (by decide +kernel)) (fun _ h9 => h9) rfl dX4_spanOn_47 ?_
      refine lv_iload_n hx hb dX4_spanOn_50 rfl (lv_at hl 1 rfl) ?_
      refine va_iald hx hb hAB.1 hP 43 0 rfl rfl h.1 dX4_spanOn_51 ?_
      have h := h.2
      exact rt_i () hQ hx hb hr hlk hP hD hS ⟨Nat.zero_le _, Nat.zero_le _⟩ dX4_spanOn_52 h
    · have h := h.2 c_2
      refine lv_aload_n hx hb dX4_spanOn_37 rfl (lv_at hl 0 rfl) ?_
      refine va_get (D := D) (ci := 4) (C := RX4) (T := TX4) (N := 15) hx hb hts inn_X4_spanOn_4 hown hAB.1 hP 38 rfl rfl 5 (by decide) (hts (.fieldLink RX4 21 "BarnBench$Net" "mid" "[I") (by decide +kernel)) (fun _ h9 => h9) rfl dX4_spanOn_38 ?_
      refine lv_iload_n hx hb dX4_spanOn_41 rfl (lv_at hl 1 rfl) ?_
      refine va_iald hx hb hAB.1 hP 42 0 rfl rfl h.1 dX4_spanOn_42 ?_
      have h := h.2
      refine lv_goto (tgt := 52) hx hb dX4_spanOn_43 (by decide) ?_
      exact rt_i () hQ hx hb hr hlk hP hD hS ⟨Nat.zero_le _, Nat.zero_le _⟩ dX4_spanOn_52 h
  · have h := h.2 c_1
    refine lv_aload_n hx hb dX4_spanOn_15 rfl (lv_at hl 0 rfl) ?_
    refine va_get (D := D) (ci := 4) (C := RX4) (T := TX4) (N := 15) hx hb hts inn_X4_spanOn_4 hown hAB.1 hP 38 rfl rfl 4 (by decide) (hts (.fieldLink RX4 18 "BarnBench$Net" "easy" "[I") (by decide +kernel)) (fun _ h9 => h9) rfl dX4_spanOn_16 ?_
    refine lv_iload_n hx hb dX4_spanOn_19 rfl (lv_at hl 1 rfl) ?_
    refine va_iald hx hb hAB.1 hP 41 0 rfl rfl h.1 dX4_spanOn_20 ?_
    have h := h.2
    exact rt_i () hQ hx hb hr hlk hP hD hS ⟨Nat.zero_le _, Nat.zero_le _⟩ dX4_spanOn_21 h
def wp_X4_roomOn (nER : Nat → Int32) (nMR : Nat → Int32) (nTh : Nat → Int32) (a1 : Int32) (Qp : Int32 → Prop) : Prop :=
  vp_in a1 12 ∧ vp_in a1 12 ∧ (((nER (Int32.toNatClampNeg a1)) ≤ (nTh (Int32.toNatClampNeg a1)) → vp_in a1 12 ∧ vp_in a1 12 ∧ (((nMR (Int32.toNatClampNeg a1)) ≤ (nTh (Int32.toNatClampNeg a1)) → Qp 1073741824) ∧
   (¬ (nMR (Int32.toNatClampNeg a1)) ≤ (nTh (Int32.toNatClampNeg a1)) → vp_in a1 12 ∧ vp_in a1 12 ∧ Qp ((nMR (Int32.toNatClampNeg a1)) - (nTh (Int32.toNatClampNeg a1)))))) ∧
   (¬ (nER (Int32.toNatClampNeg a1)) ≤ (nTh (Int32.toNatClampNeg a1)) → vp_in a1 12 ∧ vp_in a1 12 ∧ Qp ((nER (Int32.toNatClampNeg a1)) - (nTh (Int32.toNatClampNeg a1)))))
theorem inn_X4_roomOn_4 : ∀ w ∈ u_ws RX4 TX4 15, w ∈ wsX4_roomOn := fun _ h => List.mem_cons_of_mem _ (List.mem_append_right _ h)
def rm_X4_roomOn : Room := { frames := 0, cells := 0, slots := 0, locals := 0 }
set_option maxHeartbeats 4000000 in
set_option maxRecDepth 100000 in
theorem ct_X4_roomOn {l : Launch} {D : va_G} {cI cJ cZ cE cD cK : ClassId} {ad : Nat → Nat} {bd dd : Nat → Nat → Nat} {bHK : Int32} {bHP : Int32} {bPF : Int32} {bWC : Int32} {bRi : Int32} {bBe : Int32} {bFi : Int32} {bWa : Nat → Int32} {dB : Nat → Int32} {dS : Nat → Int32} {dN : Nat → Nat → Int64} {tC : Int32} {tKi : Nat → Int32} {tEa : Nat → Int32} {tHa : Nat → Int32} {tPr : Nat → Int32} {tEx : Nat → Int32} {tSt : Nat → Int32} {tTo : Nat → Int32} {tBe : Nat → Int32} {kC : Int32} {kKi : Nat → Int32} {kEa : Nat → Int32} {kHa : Nat → Int32} {kPr : Nat → Int32} {kEx : Nat → Int32} {kSt : Nat → Int32} {kTo : Nat → Int32} {kBe : Nat → Int32} {aC : Int32} {aWh : Nat → Int32} {aTa : Nat → Int32} {aWa : Nat → Int32} {iRo : Nat → Int32} {iEa : Nat → Int32} {iLa : Nat → Int32} {cC : Int32} {nC : Int32} {nFo : Int32} {nQd : Int32} {nRo : Nat → Int32} {nBe : Nat → Int32} {nEa : Nat → Int32} {nMi : Nat → Int32} {nHa : Nat → Int32} {nER : Nat → Int32} {nMR : Nat → Int32} {nTh : Nat → Int32} {nPa : Nat → Int32} {nOu : Nat → Int32} {nFr : Nat → Int32} {nQu : Nat → Int32} {eM : Nat} {eL : Nat → Int32} {eC : Nat → Int64} {eS : Nat → Int64} {eB : Nat → Nat → Int32} {eE : Nat → Nat → Int32} {eF : Nat → Nat → Int32} {eG : Nat → Nat → Int32}   {a1 : Int32} {Qp : Int32 → Prop}   (h : wp_X4_roomOn nER nMR nTh a1 Qp) : CTi l yX4_roomOn wsX4_roomOn rm_X4_roomOn D (tyL cI cJ cZ cE cD cK) [.ref (ad 38), .int a1] (WC cI cJ cE cD ad bd dd bHK bHP bPF bWC bRi bBe bFi bWa dB dS dN tC tKi tEa tHa tPr tEx tSt tTo tBe kC kKi kEa kHa kPr kEx kSt kTo kBe aC aWh aTa aWa iRo iEa iLa cC nC nFo nQd nRo nBe nEa nMi nHa nER nMR nTh nPa nOu nFr nQu eM eL eC eS eB eE eF eG) (fun (r : Int32) (u : Unit) => Qp r ) (fun u : Unit => (WC cI cJ cE cD ad bd dd bHK bHP bPF bWC bRi bBe bFi bWa dB dS dN tC tKi tEa tHa tPr tEx tSt tTo tBe kC kKi kEa kHa kPr kEx kSt kTo kBe aC aWh aTa aWa iRo iEa iLa cC nC nFo nQd nRo nBe nEa nMi nHa nER nMR nTh nPa nOu nFr nQu eM eL eC eS eB eE eF eG)) 0 0 := by
  refine ent_i (cc := cX4_roomOn) (maxL := 2) (ret := (some .int)) (by decide) rfl (Nat.le_of_ble_eq_true rfl) ?_
  intro p e s m args below meth c A Q hQ hx hb hr hml hown hts hlk hA hAB hP hD hS ls hl
  have hown : s.vm.findClass RX4 = some m.cls := hown
  have hl : lv_has ls 2 [(0, .ref (ad 38)), (1, .int a1)] := hl
  generalize hH : s.heap = H at hP ⊢
  have hS : va_S A s.heap H [] := by rw [← hH]; exact hS
  clear hH
  generalize ([] : List Loc) = locs at hS ⊢
  refine lv_aload_n hx hb dX4_roomOn_0 rfl (lv_at hl 0 rfl) ?_
  refine va_get (D := D) (ci := 4) (C := RX4) (T := TX4) (N := 15) hx hb hts inn_X4_roomOn_4 hown hAB.1 hP 38 rfl rfl 9 (by decide) (hts (.fieldLink RX4 33 "BarnBench$Net" "through" "[I") (by decide +kernel)) (fun _ h9 => h9) rfl dX4_roomOn_1 ?_
  refine lv_iload_n hx hb dX4_roomOn_4 rfl (lv_at hl 1 rfl) ?_
  refine va_iald hx hb hAB.1 hP 46 0 rfl rfl h.1 dX4_roomOn_5 ?_
  have h := h.2
  refine lv_aload_n hx hb dX4_roomOn_6 rfl (lv_at hl 0 rfl) ?_
  refine va_get (D := D) (ci := 4) (C := RX4) (T := TX4) (N := 15) hx hb hts inn_X4_roomOn_4 hown hAB.1 hP 38 rfl rfl 7 (by decide) (hts (.fieldLink RX4 27 "BarnBench$Net" "easyRoom" "[I") (by decide +kernel)) (fun _ h9 => h9) rfl dX4_roomOn_7 ?_
  refine lv_iload_n hx hb dX4_roomOn_10 rfl (lv_at hl 1 rfl) ?_
  refine va_iald hx hb hAB.1 hP 44 0 rfl rfl h.1 dX4_roomOn_11 ?_
  have h := h.2
  refine lv_icmp_ge (tgt := 29) hx hb dX4_roomOn_12 (by decide) (fun c_1 => ?_) (fun c_1 => ?_)
  · have h := h.1 c_1
    refine lv_aload_n hx hb dX4_roomOn_29 rfl (lv_at hl 0 rfl) ?_
    refine va_get (D := D) (ci := 4) (C := RX4) (T := TX4) (N := 15) hx hb hts inn_X4_roomOn_4 hown hAB.1 hP 38 rfl rfl 9 (by decide) (hts (.fieldLink RX4 33 "BarnBench$Net" "through" "[I") (by decide +kernel)) (fun _ h9 => h9) rfl dX4_roomOn_30 ?_
    refine lv_iload_n hx hb dX4_roomOn_33 rfl (lv_at hl 1 rfl) ?_
    refine va_iald hx hb hAB.1 hP 46 0 rfl rfl h.1 dX4_roomOn_34 ?_
    have h := h.2
    refine lv_aload_n hx hb dX4_roomOn_35 rfl (lv_at hl 0 rfl) ?_
    refine va_get (D := D) (ci := 4) (C := RX4) (T := TX4) (N := 15) hx hb hts inn_X4_roomOn_4 hown hAB.1 hP 38 rfl rfl 8 (by decide) (hts (.fieldLink RX4 30 "BarnBench$Net" "midRoom" "[I") (by decide +kernel)) (fun _ h9 => h9) rfl dX4_roomOn_36 ?_
    refine lv_iload_n hx hb dX4_roomOn_39 rfl (lv_at hl 1 rfl) ?_
    refine va_iald hx hb hAB.1 hP 45 0 rfl rfl h.1 dX4_roomOn_40 ?_
    have h := h.2
    refine lv_icmp_ge (tgt := 60) hx hb dX4_roomOn_41 (by decide) (fun c_2 => ?_) (fun c_2 => ?_)
    · have h := h.1 c_2
      refine lv_ldc (v := 1073741824) hx hb hown (hts (.constant RX4 104 1073741824) (by decide +kernel)) dX4_roomOn_60 ?_
      exact rt_i () hQ hx hb hr hlk hP hD hS ⟨Nat.zero_le _, Nat.zero_le _⟩ dX4_roomOn_62 h
    · have h := h.2 c_2
      refine lv_aload_n hx hb dX4_roomOn_44 rfl (lv_at hl 0 rfl) ?_
      refine va_get (D := D) (ci := 4) (C := RX4) (T := TX4) (N := 15) hx hb hts inn_X4_roomOn_4 hown hAB.1 hP 38 rfl rfl 8 (by decide) (hts (.fieldLink RX4 30 "BarnBench$Net" "midRoom" "[I") (by decide +kernel)) (fun _ h9 => h9) rfl dX4_roomOn_45 ?_
      refine lv_iload_n hx hb dX4_roomOn_48 rfl (lv_at hl 1 rfl) ?_
      refine va_iald hx hb hAB.1 hP 45 0 rfl rfl h.1 dX4_roomOn_49 ?_
      have h := h.2
      refine lv_aload_n hx hb dX4_roomOn_50 rfl (lv_at hl 0 rfl) ?_
      refine va_get (D := D) (ci := 4) (C := RX4) (T := TX4) (N := 15) hx hb hts inn_X4_roomOn_4 hown hAB.1 hP 38 rfl rfl 9 (by decide) (hts (.fieldLink RX4 33 "BarnBench$Net" "through" "[I") (by decide +kernel)) (fun _ h9 => h9) rfl dX4_roomOn_51 ?_
      refine lv_iload_n hx hb dX4_roomOn_54 rfl (lv_at hl 1 rfl) ?_
      refine va_iald hx hb hAB.1 hP 46 0 rfl rfl h.1 dX4_roomOn_55 ?_
      have h := h.2
      refine lv_isub hx hb dX4_roomOn_56 ?_
      refine lv_goto (tgt := 62) hx hb dX4_roomOn_57 (by decide) ?_
      exact rt_i () hQ hx hb hr hlk hP hD hS ⟨Nat.zero_le _, Nat.zero_le _⟩ dX4_roomOn_62 h
  · have h := h.2 c_1
    refine lv_aload_n hx hb dX4_roomOn_15 rfl (lv_at hl 0 rfl) ?_
    refine va_get (D := D) (ci := 4) (C := RX4) (T := TX4) (N := 15) hx hb hts inn_X4_roomOn_4 hown hAB.1 hP 38 rfl rfl 7 (by decide) (hts (.fieldLink RX4 27 "BarnBench$Net" "easyRoom" "[I") (by decide +kernel)) (fun _ h9 => h9) rfl dX4_roomOn_16 ?_
    refine lv_iload_n hx hb dX4_roomOn_19 rfl (lv_at hl 1 rfl) ?_
    refine va_iald hx hb hAB.1 hP 44 0 rfl rfl h.1 dX4_roomOn_20 ?_
    have h := h.2
    refine lv_aload_n hx hb dX4_roomOn_21 rfl (lv_at hl 0 rfl) ?_
    refine va_get (D := D) (ci := 4) (C := RX4) (T := TX4) (N := 15) hx hb hts inn_X4_roomOn_4 hown hAB.1 hP 38 rfl rfl 9 (by decide) (hts (.fieldLink RX4 33 "BarnBench$Net" "through" "[I") (by decide +kernel)) (fun _ h9 => h9) rfl dX4_roomOn_22 ?_
    refine lv_iload_n hx hb dX4_roomOn_25 rfl (lv_at hl 1 rfl) ?_
    refine va_iald hx hb hAB.1 hP 46 0 rfl rfl h.1 dX4_roomOn_26 ?_
    have h := h.2
    refine lv_isub hx hb dX4_roomOn_27 ?_
    exact rt_i () hQ hx hb hr hlk hP hD hS ⟨Nat.zero_le _, Nat.zero_le _⟩ dX4_roomOn_28 h
def wp_X4_spanOff (nEa : Nat → Int32) (nMi : Nat → Int32) (nHa : Nat → Int32) (nER : Nat → Int32) (nMR : Nat → Int32) (nTh : Nat → Int32) (a1 : Int32) (Qp : Int32 → Prop) : Prop :=
  vp_in a1 12 ∧ vp_in a1 12 ∧ (((nER (Int32.toNatClampNeg a1)) < (nTh (Int32.toNatClampNeg a1)) → vp_in a1 12 ∧ vp_in a1 12 ∧ (((nMR (Int32.toNatClampNeg a1)) < (nTh (Int32.toNatClampNeg a1)) → vp_in a1 12 ∧ Qp (nHa (Int32.toNatClampNeg a1))) ∧
   (¬ (nMR (Int32.toNatClampNeg a1)) < (nTh (Int32.toNatClampNeg a1)) → vp_in a1 12 ∧ Qp (nMi (Int32.toNatClampNeg a1))))) ∧
   (¬ (nER (Int32.toNatClampNeg a1)) < (nTh (Int32.toNatClampNeg a1)) → vp_in a1 12 ∧ Qp (nEa (Int32.toNatClampNeg a1))))
theorem inn_X4_spanOff_4 : ∀ w ∈ u_ws RX4 TX4 15, w ∈ wsX4_spanOff := fun _ h => List.mem_cons_of_mem _ (List.mem_append_right _ h)
def rm_X4_spanOff : Room := { frames := 0, cells := 0, slots := 0, locals := 0 }
set_option maxHeartbeats 4000000 in
set_option maxRecDepth 100000 in
theorem ct_X4_spanOff {l : Launch} {D : va_G} {cI cJ cZ cE cD cK : ClassId} {ad : Nat → Nat} {bd dd : Nat → Nat → Nat} {bHK : Int32} {bHP : Int32} {bPF : Int32} {bWC : Int32} {bRi : Int32} {bBe : Int32} {bFi : Int32} {bWa : Nat → Int32} {dB : Nat → Int32} {dS : Nat → Int32} {dN : Nat → Nat → Int64} {tC : Int32} {tKi : Nat → Int32} {tEa : Nat → Int32} {tHa : Nat → Int32} {tPr : Nat → Int32} {tEx : Nat → Int32} {tSt : Nat → Int32} {tTo : Nat → Int32} {tBe : Nat → Int32} {kC : Int32} {kKi : Nat → Int32} {kEa : Nat → Int32} {kHa : Nat → Int32} {kPr : Nat → Int32} {kEx : Nat → Int32} {kSt : Nat → Int32} {kTo : Nat → Int32} {kBe : Nat → Int32} {aC : Int32} {aWh : Nat → Int32} {aTa : Nat → Int32} {aWa : Nat → Int32} {iRo : Nat → Int32} {iEa : Nat → Int32} {iLa : Nat → Int32} {cC : Int32} {nC : Int32} {nFo : Int32} {nQd : Int32} {nRo : Nat → Int32} {nBe : Nat → Int32} {nEa : Nat → Int32} {nMi : Nat → Int32} {nHa : Nat → Int32} {nER : Nat → Int32} {nMR : Nat → Int32} {nTh : Nat → Int32} {nPa : Nat → Int32} {nOu : Nat → Int32} {nFr : Nat → Int32} {nQu : Nat → Int32} {eM : Nat} {eL : Nat → Int32} {eC : Nat → Int64} {eS : Nat → Int64} {eB : Nat → Nat → Int32} {eE : Nat → Nat → Int32} {eF : Nat → Nat → Int32} {eG : Nat → Nat → Int32}   {a1 : Int32} {Qp : Int32 → Prop}   (h : wp_X4_spanOff nEa nMi nHa nER nMR nTh a1 Qp) : CTi l yX4_spanOff wsX4_spanOff rm_X4_spanOff D (tyL cI cJ cZ cE cD cK) [.ref (ad 38), .int a1] (WC cI cJ cE cD ad bd dd bHK bHP bPF bWC bRi bBe bFi bWa dB dS dN tC tKi tEa tHa tPr tEx tSt tTo tBe kC kKi kEa kHa kPr kEx kSt kTo kBe aC aWh aTa aWa iRo iEa iLa cC nC nFo nQd nRo nBe nEa nMi nHa nER nMR nTh nPa nOu nFr nQu eM eL eC eS eB eE eF eG) (fun (r : Int32) (u : Unit) => Qp r ) (fun u : Unit => (WC cI cJ cE cD ad bd dd bHK bHP bPF bWC bRi bBe bFi bWa dB dS dN tC tKi tEa tHa tPr tEx tSt tTo tBe kC kKi kEa kHa kPr kEx kSt kTo kBe aC aWh aTa aWa iRo iEa iLa cC nC nFo nQd nRo nBe nEa nMi nHa nER nMR nTh nPa nOu nFr nQu eM eL eC eS eB eE eF eG)) 0 0 := by
  refine ent_i (cc := cX4_spanOff) (maxL := 2) (ret := (some .int)) (by decide) rfl (Nat.le_of_ble_eq_true rfl) ?_
  intro p e s m args below meth c A Q hQ hx hb hr hml hown hts hlk hA hAB hP hD hS ls hl
  have hown : s.vm.findClass RX4 = some m.cls := hown
  have hl : lv_has ls 2 [(0, .ref (ad 38)), (1, .int a1)] := hl
  generalize hH : s.heap = H at hP ⊢
  have hS : va_S A s.heap H [] := by rw [← hH]; exact hS
  clear hH
  generalize ([] : List Loc) = locs at hS ⊢
  refine lv_aload_n hx hb dX4_spanOff_0 rfl (lv_at hl 0 rfl) ?_
  refine va_get (D := D) (ci := 4) (C := RX4) (T := TX4) (N := 15) hx hb hts inn_X4_spanOff_4 hown hAB.1 hP 38 rfl rfl 9 (by decide) (hts (.fieldLink RX4 33 "BarnBench$Net" "through" "[I") (by decide +kernel)) (fun _ h9 => h9) rfl dX4_spanOff_1 ?_
  refine lv_iload_n hx hb dX4_spanOff_4 rfl (lv_at hl 1 rfl) ?_
  refine va_iald hx hb hAB.1 hP 46 0 rfl rfl h.1 dX4_spanOff_5 ?_
  have h := h.2
  refine lv_aload_n hx hb dX4_spanOff_6 rfl (lv_at hl 0 rfl) ?_
  refine va_get (D := D) (ci := 4) (C := RX4) (T := TX4) (N := 15) hx hb hts inn_X4_spanOff_4 hown hAB.1 hP 38 rfl rfl 7 (by decide) (hts (.fieldLink RX4 27 "BarnBench$Net" "easyRoom" "[I") (by decide +kernel)) (fun _ h9 => h9) rfl dX4_spanOff_7 ?_
  refine lv_iload_n hx hb dX4_spanOff_10 rfl (lv_at hl 1 rfl) ?_
  refine va_iald hx hb hAB.1 hP 44 0 rfl rfl h.1 dX4_spanOff_11 ?_
  have h := h.2
  refine lv_icmp_gt (tgt := 22) hx hb dX4_spanOff_12 (by decide) (fun c_1 => ?_) (fun c_1 => ?_)
  · have h := h.1 c_1
    refine lv_aload_n hx hb dX4_spanOff_22 rfl (lv_at hl 0 rfl) ?_
    refine va_get (D := D) (ci := 4) (C := RX4) (T := TX4) (N := 15) hx hb hts inn_X4_spanOff_4 hown hAB.1 hP 38 rfl rfl 9 (by decide) (hts (.fieldLink RX4 33 "BarnBench$Net" "through" "[I") (by decide +kernel)) (fun _ h9 => h9) rfl dX4_spanOff_23 ?_
    refine lv_iload_n hx hb dX4_spanOff_26 rfl (lv_at hl 1 rfl) ?_
    refine va_iald hx hb hAB.1 hP 46 0 rfl rfl h.1 dX4_spanOff_27 ?_
    have h := h.2
    refine lv_aload_n hx hb dX4_spanOff_28 rfl (lv_at hl 0 rfl) ?_
    refine va_get (D := D) (ci := 4) (C := RX4) (T := TX4) (N := 15) hx hb hts inn_X4_spanOff_4 hown hAB.1 hP 38 rfl rfl 8 (by decide) (hts (.fieldLink RX4 30 "BarnBench$Net" "midRoom" "[I") (by decide +kernel)) (fun _ h9 => h9) rfl dX4_spanOff_29 ?_
    refine lv_iload_n hx hb dX4_spanOff_32 rfl (lv_at hl 1 rfl) ?_
    refine va_iald hx hb hAB.1 hP 45 0 rfl rfl h.1 dX4_spanOff_33 ?_
    have h := h.2
    refine lv_icmp_gt (tgt := 46) hx hb dX4_spanOff_34 (by decide) (fun c_2 => ?_) (fun c_2 => ?_)
    · have h := h.1 c_2
      refine lv_aload_n hx hb dX4_spanOff_46 rfl (lv_at hl 0 rfl) ?_
      refine va_get (D := D) (ci := 4) (C := RX4) (T := TX4) (N := 15) hx hb hts inn_X4_spanOff_4 hown hAB.1 hP 38 rfl rfl 6 (by decide) (hts (.fieldLink RX4 24 "BarnBench$Net" "hard" "[I") (by decide +kernel)) (fun _ h9 => h9) rfl dX4_spanOff_47 ?_
      refine lv_iload_n hx hb dX4_spanOff_50 rfl (lv_at hl 1 rfl) ?_
      refine va_iald hx hb hAB.1 hP 43 0 rfl rfl h.1 dX4_spanOff_51 ?_
      have h := h.2
      exact rt_i () hQ hx hb hr hlk hP hD hS ⟨Nat.zero_le _, Nat.zero_le _⟩ dX4_spanOff_52 h
    · have h := h.2 c_2
      refine lv_aload_n hx hb dX4_spanOff_37 rfl (lv_at hl 0 rfl) ?_
      refine va_get (D := D) (ci := 4) (C := RX4) (T := TX4) (N := 15) hx hb hts inn_X4_spanOff_4 hown hAB.1 hP 38 rfl rfl 5 (by decide) (hts (.fieldLink RX4 21 "BarnBench$Net" "mid" "[I") (by decide +kernel)) (fun _ h9 => h9) rfl dX4_spanOff_38 ?_
      refine lv_iload_n hx hb dX4_spanOff_41 rfl (lv_at hl 1 rfl) ?_
      refine va_iald hx hb hAB.1 hP 42 0 rfl rfl h.1 dX4_spanOff_42 ?_
      have h := h.2
      refine lv_goto (tgt := 52) hx hb dX4_spanOff_43 (by decide) ?_
      exact rt_i () hQ hx hb hr hlk hP hD hS ⟨Nat.zero_le _, Nat.zero_le _⟩ dX4_spanOff_52 h
  · have h := h.2 c_1
    refine lv_aload_n hx hb dX4_spanOff_15 rfl (lv_at hl 0 rfl) ?_
    refine va_get (D := D) (ci := 4) (C := RX4) (T := TX4) (N := 15) hx hb hts inn_X4_spanOff_4 hown hAB.1 hP 38 rfl rfl 4 (by decide) (hts (.fieldLink RX4 18 "BarnBench$Net" "easy" "[I") (by decide +kernel)) (fun _ h9 => h9) rfl dX4_spanOff_16 ?_
    refine lv_iload_n hx hb dX4_spanOff_19 rfl (lv_at hl 1 rfl) ?_
    refine va_iald hx hb hAB.1 hP 41 0 rfl rfl h.1 dX4_spanOff_20 ?_
    have h := h.2
    exact rt_i () hQ hx hb hr hlk hP hD hS ⟨Nat.zero_le _, Nat.zero_le _⟩ dX4_spanOff_21 h
def wp_X4_roomOff_b58 (Qp : Int32 → Prop) (y_1 : Int32) (y_2 : Int32) : Prop :=
  Qp (y_1 - y_2)
def wp_X4_roomOff (nER : Nat → Int32) (nMR : Nat → Int32) (nTh : Nat → Int32) (a1 : Int32) (Qp : Int32 → Prop) : Prop :=
  vp_in a1 12 ∧ vp_in a1 12 ∧ (((nER (Int32.toNatClampNeg a1)) < (nTh (Int32.toNatClampNeg a1)) → vp_in a1 12 ∧ vp_in a1 12 ∧ vp_in a1 12 ∧ (((nMR (Int32.toNatClampNeg a1)) < (nTh (Int32.toNatClampNeg a1)) → vp_in a1 12 ∧ wp_X4_roomOff_b58 Qp (nTh (Int32.toNatClampNeg a1)) (nMR (Int32.toNatClampNeg a1))) ∧
   (¬ (nMR (Int32.toNatClampNeg a1)) < (nTh (Int32.toNatClampNeg a1)) → vp_in a1 12 ∧ wp_X4_roomOff_b58 Qp (nTh (Int32.toNatClampNeg a1)) (nER (Int32.toNatClampNeg a1))))) ∧
   (¬ (nER (Int32.toNatClampNeg a1)) < (nTh (Int32.toNatClampNeg a1)) → vp_in a1 12 ∧ Qp (nTh (Int32.toNatClampNeg a1))))
theorem inn_X4_roomOff_4 : ∀ w ∈ u_ws RX4 TX4 15, w ∈ wsX4_roomOff := fun _ h => List.mem_cons_of_mem _ (List.mem_append_right _ h)
def rm_X4_roomOff : Room := { frames := 0, cells := 0, slots := 0, locals := 0 }
set_option maxHeartbeats 4000000 in
set_option maxRecDepth 100000 in
theorem ct_X4_roomOff {l : Launch} {D : va_G} {cI cJ cZ cE cD cK : ClassId} {ad : Nat → Nat} {bd dd : Nat → Nat → Nat} {bHK : Int32} {bHP : Int32} {bPF : Int32} {bWC : Int32} {bRi : Int32} {bBe : Int32} {bFi : Int32} {bWa : Nat → Int32} {dB : Nat → Int32} {dS : Nat → Int32} {dN : Nat → Nat → Int64} {tC : Int32} {tKi : Nat → Int32} {tEa : Nat → Int32} {tHa : Nat → Int32} {tPr : Nat → Int32} {tEx : Nat → Int32} {tSt : Nat → Int32} {tTo : Nat → Int32} {tBe : Nat → Int32} {kC : Int32} {kKi : Nat → Int32} {kEa : Nat → Int32} {kHa : Nat → Int32} {kPr : Nat → Int32} {kEx : Nat → Int32} {kSt : Nat → Int32} {kTo : Nat → Int32} {kBe : Nat → Int32} {aC : Int32} {aWh : Nat → Int32} {aTa : Nat → Int32} {aWa : Nat → Int32} {iRo : Nat → Int32} {iEa : Nat → Int32} {iLa : Nat → Int32} {cC : Int32} {nC : Int32} {nFo : Int32} {nQd : Int32} {nRo : Nat → Int32} {nBe : Nat → Int32} {nEa : Nat → Int32} {nMi : Nat → Int32} {nHa : Nat → Int32} {nER : Nat → Int32} {nMR : Nat → Int32} {nTh : Nat → Int32} {nPa : Nat → Int32} {nOu : Nat → Int32} {nFr : Nat → Int32} {nQu : Nat → Int32} {eM : Nat} {eL : Nat → Int32} {eC : Nat → Int64} {eS : Nat → Int64} {eB : Nat → Nat → Int32} {eE : Nat → Nat → Int32} {eF : Nat → Nat → Int32} {eG : Nat → Nat → Int32}   {a1 : Int32} {Qp : Int32 → Prop}   (h : wp_X4_roomOff nER nMR nTh a1 Qp) : CTi l yX4_roomOff wsX4_roomOff rm_X4_roomOff D (tyL cI cJ cZ cE cD cK) [.ref (ad 38), .int a1] (WC cI cJ cE cD ad bd dd bHK bHP bPF bWC bRi bBe bFi bWa dB dS dN tC tKi tEa tHa tPr tEx tSt tTo tBe kC kKi kEa kHa kPr kEx kSt kTo kBe aC aWh aTa aWa iRo iEa iLa cC nC nFo nQd nRo nBe nEa nMi nHa nER nMR nTh nPa nOu nFr nQu eM eL eC eS eB eE eF eG) (fun (r : Int32) (u : Unit) => Qp r ) (fun u : Unit => (WC cI cJ cE cD ad bd dd bHK bHP bPF bWC bRi bBe bFi bWa dB dS dN tC tKi tEa tHa tPr tEx tSt tTo tBe kC kKi kEa kHa kPr kEx kSt kTo kBe aC aWh aTa aWa iRo iEa iLa cC nC nFo nQd nRo nBe nEa nMi nHa nER nMR nTh nPa nOu nFr nQu eM eL eC eS eB eE eF eG)) 0 0 := by
  refine ent_i (cc := cX4_roomOff) (maxL := 2) (ret := (some .int)) (by decide) rfl (Nat.le_of_ble_eq_true rfl) ?_
  intro p e s m args below meth c A Q hQ hx hb hr hml hown hts hlk hA hAB hP hD hS ls hl
  have hown : s.vm.findClass RX4 = some m.cls := hown
  have hl : lv_has ls 2 [(0, .ref (ad 38)), (1, .int a1)] := hl
  generalize hH : s.heap = H at hP ⊢
  have hS : va_S A s.heap H [] := by rw [← hH]; exact hS
  clear hH
  generalize ([] : List Loc) = locs at hS ⊢
  have B58 : ∀ (y_1 : Int32) (y_2 : Int32), wp_X4_roomOff_b58 Qp y_1 y_2 → ∀ (H : Heap) (locs : List Loc) (ls : Array Slot), va_P D vwCl (WC cI cJ cE cD ad bd dd bHK bHP bPF bWC bRi bBe bFi bWa dB dS dN tC tKi tEa tHa tPr tEx tSt tTo tBe kC kKi kEa kHa kPr kEx kSt kTo kBe aC aWh aTa aWa iRo iEa iLa cC nC nFo nQd nRo nBe nEa nMi nHa nER nMR nTh nPa nOu nFr nQu eM eL eC eS eB eE eF eG) H → va_D A (WC cI cJ cE cD ad bd dd bHK bHP bPF bWC bRi bBe bFi bWa dB dS dN tC tKi tEa tHa tPr tEx tSt tTo tBe kC kKi kEa kHa kPr kEx kSt kTo kBe aC aWh aTa aWa iRo iEa iLa cC nC nFo nQd nRo nBe nEa nMi nHa nER nMR nTh nPa nOu nFr nQu eM eL eC eS eB eE eF eG) → va_S A s.heap H locs → lv_has ls 2 [] → W p l e (headSpec wsX4_roomOff rm_X4_roomOff).room s m args below meth c H locs 0 0 Q (F0 m 58 ls [.int y_2, .int y_1]) := by
    intro y_1 y_2 h H locs ls hP hD hS hl
    refine lv_isub hx hb dX4_roomOff_58 ?_
    exact rt_i () hQ hx hb hr hlk hP hD hS ⟨Nat.zero_le _, Nat.zero_le _⟩ dX4_roomOff_59 h
  refine lv_aload_n hx hb dX4_roomOff_0 rfl (lv_at hl 0 rfl) ?_
  refine va_get (D := D) (ci := 4) (C := RX4) (T := TX4) (N := 15) hx hb hts inn_X4_roomOff_4 hown hAB.1 hP 38 rfl rfl 9 (by decide) (hts (.fieldLink RX4 33 "BarnBench$Net" "through" "[I") (by decide +kernel)) (fun _ h9 => h9) rfl dX4_roomOff_1 ?_
  refine lv_iload_n hx hb dX4_roomOff_4 rfl (lv_at hl 1 rfl) ?_
  refine va_iald hx hb hAB.1 hP 46 0 rfl rfl h.1 dX4_roomOff_5 ?_
  have h := h.2
  refine lv_aload_n hx hb dX4_roomOff_6 rfl (lv_at hl 0 rfl) ?_
  refine va_get (D := D) (ci := 4) (C := RX4) (T := TX4) (N := 15) hx hb hts inn_X4_roomOff_4 hown hAB.1 hP 38 rfl rfl 7 (by decide) (hts (.fieldLink RX4 27 "BarnBench$Net" "easyRoom" "[I") (by decide +kernel)) (fun _ h9 => h9) rfl dX4_roomOff_7 ?_
  refine lv_iload_n hx hb dX4_roomOff_10 rfl (lv_at hl 1 rfl) ?_
  refine va_iald hx hb hAB.1 hP 44 0 rfl rfl h.1 dX4_roomOff_11 ?_
  have h := h.2
  refine lv_icmp_gt (tgt := 22) hx hb dX4_roomOff_12 (by decide) (fun c_3 => ?_) (fun c_3 => ?_)
  · have h := h.1 c_3
    refine lv_aload_n hx hb dX4_roomOff_22 rfl (lv_at hl 0 rfl) ?_
    refine va_get (D := D) (ci := 4) (C := RX4) (T := TX4) (N := 15) hx hb hts inn_X4_roomOff_4 hown hAB.1 hP 38 rfl rfl 9 (by decide) (hts (.fieldLink RX4 33 "BarnBench$Net" "through" "[I") (by decide +kernel)) (fun _ h9 => h9) rfl dX4_roomOff_23 ?_
    refine lv_iload_n hx hb dX4_roomOff_26 rfl (lv_at hl 1 rfl) ?_
    refine va_iald hx hb hAB.1 hP 46 0 rfl rfl h.1 dX4_roomOff_27 ?_
    have h := h.2
    refine lv_aload_n hx hb dX4_roomOff_28 rfl (lv_at hl 0 rfl) ?_
    refine va_get (D := D) (ci := 4) (C := RX4) (T := TX4) (N := 15) hx hb hts inn_X4_roomOff_4 hown hAB.1 hP 38 rfl rfl 9 (by decide) (hts (.fieldLink RX4 33 "BarnBench$Net" "through" "[I") (by decide +kernel)) (fun _ h9 => h9) rfl dX4_roomOff_29 ?_
    refine lv_iload_n hx hb dX4_roomOff_32 rfl (lv_at hl 1 rfl) ?_
    refine va_iald hx hb hAB.1 hP 46 0 rfl rfl h.1 dX4_roomOff_33 ?_
    have h := h.2
    refine lv_aload_n hx hb dX4_roomOff_34 rfl (lv_at hl 0 rfl) ?_
    refine va_get (D := D) (ci := 4) (C := RX4) (T := TX4) (N := 15) hx hb hts inn_X4_roomOff_4 hown hAB.1 hP 38 rfl rfl 8 (by decide) (hts (.fieldLink RX4 30 "BarnBench$Net" "midRoom" "[I") (by decide +kernel)) (fun _ h9 => h9) rfl dX4_roomOff_35 ?_
    refine lv_iload_n hx hb dX4_roomOff_38 rfl (lv_at hl 1 rfl) ?_
    refine va_iald hx hb hAB.1 hP 45 0 rfl rfl h.1 dX4_roomOff_39 ?_
    have h := h.2
    refine lv_icmp_gt (tgt := 52) hx hb dX4_roomOff_40 (by decide) (fun c_4 => ?_) (fun c_4 => ?_)
    · have h := h.1 c_4
      refine lv_aload_n hx hb dX4_roomOff_52 rfl (lv_at hl 0 rfl) ?_
      refine va_get (D := D) (ci := 4) (C := RX4) (T := TX4) (N := 15) hx hb hts inn_X4_roomOff_4 hown hAB.1 hP 38 rfl rfl 8 (by decide) (hts (.fieldLink RX4 30 "BarnBench$Net" "midRoom" "[I") (by decide +kernel)) (fun _ h9 => h9) rfl dX4_roomOff_53 ?_
      refine lv_iload_n hx hb dX4_roomOff_56 rfl (lv_at hl 1 rfl) ?_
      refine va_iald hx hb hAB.1 hP 45 0 rfl rfl h.1 dX4_roomOff_57 ?_
      have h := h.2
      exact B58 (nTh (Int32.toNatClampNeg a1)) (nMR (Int32.toNatClampNeg a1)) h H locs ls hP hD hS (lv_sub hl [] rfl)
    · have h := h.2 c_4
      refine lv_aload_n hx hb dX4_roomOff_43 rfl (lv_at hl 0 rfl) ?_
      refine va_get (D := D) (ci := 4) (C := RX4) (T := TX4) (N := 15) hx hb hts inn_X4_roomOff_4 hown hAB.1 hP 38 rfl rfl 7 (by decide) (hts (.fieldLink RX4 27 "BarnBench$Net" "easyRoom" "[I") (by decide +kernel)) (fun _ h9 => h9) rfl dX4_roomOff_44 ?_
      refine lv_iload_n hx hb dX4_roomOff_47 rfl (lv_at hl 1 rfl) ?_
      refine va_iald hx hb hAB.1 hP 44 0 rfl rfl h.1 dX4_roomOff_48 ?_
      have h := h.2
      refine lv_goto (tgt := 58) hx hb dX4_roomOff_49 (by decide) ?_
      exact B58 (nTh (Int32.toNatClampNeg a1)) (nER (Int32.toNatClampNeg a1)) h H locs ls hP hD hS (lv_sub hl [] rfl)
  · have h := h.2 c_3
    refine lv_aload_n hx hb dX4_roomOff_15 rfl (lv_at hl 0 rfl) ?_
    refine va_get (D := D) (ci := 4) (C := RX4) (T := TX4) (N := 15) hx hb hts inn_X4_roomOff_4 hown hAB.1 hP 38 rfl rfl 9 (by decide) (hts (.fieldLink RX4 33 "BarnBench$Net" "through" "[I") (by decide +kernel)) (fun _ h9 => h9) rfl dX4_roomOff_16 ?_
    refine lv_iload_n hx hb dX4_roomOff_19 rfl (lv_at hl 1 rfl) ?_
    refine va_iald hx hb hAB.1 hP 46 0 rfl rfl h.1 dX4_roomOff_20 ?_
    have h := h.2
    exact rt_i () hQ hx hb hr hlk hP hD hS ⟨Nat.zero_le _, Nat.zero_le _⟩ dX4_roomOff_21 h
def wp_X4_reach (nQd : Int32) (nFr : Nat → Int32) (nQu : Nat → Int32) (a1 : Int32) (a2 : Int32) (Qp : (Int32) → (Nat → Int32) → (Nat → Int32) → Prop) : Prop :=
  vp_in a1 24 ∧ ((¬ (nFr (Int32.toNatClampNeg a1)) = (-1) → Qp nQd nFr nQu) ∧
   ((nFr (Int32.toNatClampNeg a1)) = (-1) → ((24 ≤ nQd → Qp nQd nFr nQu) ∧
   (¬ 24 ≤ nQd → vp_in a1 24 ∧ ∀ nFr_3 : Nat → Int32, nFr_3 = upd nFr (Int32.toNatClampNeg a1) a2 → vp_in nQd 24 ∧ ∀ nQu_5 : Nat → Int32, nQu_5 = upd nQu (Int32.toNatClampNeg nQd) a1 → ∀ nQd_7 : Int32, nQd_7 = (nQd + 1) → Qp nQd_7 nFr_3 nQu_5))))
theorem inn_X4_reach_4 : ∀ w ∈ u_ws RX4 TX4 15, w ∈ wsX4_reach := fun _ h => List.mem_cons_of_mem _ (List.mem_append_right _ h)
def rm_X4_reach : Room := { frames := 0, cells := 0, slots := 0, locals := 0 }
set_option maxHeartbeats 4000000 in
set_option maxRecDepth 100000 in
theorem ct_X4_reach {l : Launch} {D : va_G} {cI cJ cZ cE cD cK : ClassId} {ad : Nat → Nat} {bd dd : Nat → Nat → Nat} {bHK : Int32} {bHP : Int32} {bPF : Int32} {bWC : Int32} {bRi : Int32} {bBe : Int32} {bFi : Int32} {bWa : Nat → Int32} {dB : Nat → Int32} {dS : Nat → Int32} {dN : Nat → Nat → Int64} {tC : Int32} {tKi : Nat → Int32} {tEa : Nat → Int32} {tHa : Nat → Int32} {tPr : Nat → Int32} {tEx : Nat → Int32} {tSt : Nat → Int32} {tTo : Nat → Int32} {tBe : Nat → Int32} {kC : Int32} {kKi : Nat → Int32} {kEa : Nat → Int32} {kHa : Nat → Int32} {kPr : Nat → Int32} {kEx : Nat → Int32} {kSt : Nat → Int32} {kTo : Nat → Int32} {kBe : Nat → Int32} {aC : Int32} {aWh : Nat → Int32} {aTa : Nat → Int32} {aWa : Nat → Int32} {iRo : Nat → Int32} {iEa : Nat → Int32} {iLa : Nat → Int32} {cC : Int32} {nC : Int32} {nFo : Int32} {nQd : Int32} {nRo : Nat → Int32} {nBe : Nat → Int32} {nEa : Nat → Int32} {nMi : Nat → Int32} {nHa : Nat → Int32} {nER : Nat → Int32} {nMR : Nat → Int32} {nTh : Nat → Int32} {nPa : Nat → Int32} {nOu : Nat → Int32} {nFr : Nat → Int32} {nQu : Nat → Int32} {eM : Nat} {eL : Nat → Int32} {eC : Nat → Int64} {eS : Nat → Int64} {eB : Nat → Nat → Int32} {eE : Nat → Nat → Int32} {eF : Nat → Nat → Int32} {eG : Nat → Nat → Int32}   {a1 : Int32} {a2 : Int32} {Qp : (Int32) → (Nat → Int32) → (Nat → Int32) → Prop}   (h : wp_X4_reach nQd nFr nQu a1 a2 Qp) : CTv l yX4_reach wsX4_reach rm_X4_reach D (tyL cI cJ cZ cE cD cK) [.ref (ad 38), .int a1, .int a2] (WC cI cJ cE cD ad bd dd bHK bHP bPF bWC bRi bBe bFi bWa dB dS dN tC tKi tEa tHa tPr tEx tSt tTo tBe kC kKi kEa kHa kPr kEx kSt kTo kBe aC aWh aTa aWa iRo iEa iLa cC nC nFo nQd nRo nBe nEa nMi nHa nER nMR nTh nPa nOu nFr nQu eM eL eC eS eB eE eF eG) (fun u : (Int32) × (Nat → Int32) × (Nat → Int32) => Qp u.1 u.2.1 u.2.2) (fun u : (Int32) × (Nat → Int32) × (Nat → Int32) => (WC cI cJ cE cD ad bd dd bHK bHP bPF bWC bRi bBe bFi bWa dB dS dN tC tKi tEa tHa tPr tEx tSt tTo tBe kC kKi kEa kHa kPr kEx kSt kTo kBe aC aWh aTa aWa iRo iEa iLa cC nC nFo u.1 nRo nBe nEa nMi nHa nER nMR nTh nPa nOu u.2.1 u.2.2 eM eL eC eS eB eE eF eG)) 0 0 := by
  refine ent_v (cc := cX4_reach) (maxL := 3) (ret := none) (by decide) rfl (Nat.le_of_ble_eq_true rfl) ?_
  intro p e s m args below meth c A Q hQ hx hb hr hml hown hts hlk hA hAB hP hD hS ls hl
  have hown : s.vm.findClass RX4 = some m.cls := hown
  have hl : lv_has ls 3 [(0, .ref (ad 38)), (1, .int a1), (2, .int a2)] := hl
  generalize hH : s.heap = H at hP ⊢
  have hS : va_S A s.heap H [] := by rw [← hH]; exact hS
  clear hH
  generalize ([] : List Loc) = locs at hS ⊢
  refine lv_aload_n hx hb dX4_reach_0 rfl (lv_at hl 0 rfl) ?_
  refine va_get (D := D) (ci := 4) (C := RX4) (T := TX4) (N := 15) hx hb hts inn_X4_reach_4 hown hAB.1 hP 38 rfl rfl 12 (by decide) (hts (.fieldLink RX4 42 "BarnBench$Net" "from" "[I") (by decide +kernel)) (fun _ h9 => h9) rfl dX4_reach_1 ?_
  refine lv_iload_n hx hb dX4_reach_4 rfl (lv_at hl 1 rfl) ?_
  refine va_iald hx hb hAB.1 hP 49 0 rfl rfl h.1 dX4_reach_5 ?_
  have h := h.2
  refine lv_iconst (v := (-1)) hx hb dX4_reach_6 (by decide) ?_
  refine lv_icmp_ne (tgt := 46) hx hb dX4_reach_7 (by decide) (fun c_1 => ?_) (fun c_1 => ?_)
  · have h := h.1 c_1
    exact rt_v (nQd, nFr, nQu) hQ hx hb hr hlk hP hD hS ⟨Nat.zero_le _, Nat.zero_le _⟩ dX4_reach_46 h
  · have h := h.2 c_1
    refine lv_aload_n hx hb dX4_reach_10 rfl (lv_at hl 0 rfl) ?_
    refine va_get (D := D) (ci := 4) (C := RX4) (T := TX4) (N := 15) hx hb hts inn_X4_reach_4 hown hAB.1 hP 38 rfl rfl 14 (by decide) (hts (.fieldLink RX4 135 "BarnBench$Net" "queued" "I") (by decide +kernel)) (fun _ h9 => h9) rfl dX4_reach_11 ?_
    refine lv_bipush (v := 24) hx hb dX4_reach_14 (by decide) ?_
    refine lv_icmp_ge (tgt := 46) hx hb dX4_reach_16 (by decide) (fun c_2 => ?_) (fun c_2 => ?_)
    · have h := h.1 c_2
      exact rt_v (nQd, nFr, nQu) hQ hx hb hr hlk hP hD hS ⟨Nat.zero_le _, Nat.zero_le _⟩ dX4_reach_46 h
    · have h := h.2 c_2
      refine lv_aload_n hx hb dX4_reach_19 rfl (lv_at hl 0 rfl) ?_
      refine va_get (D := D) (ci := 4) (C := RX4) (T := TX4) (N := 15) hx hb hts inn_X4_reach_4 hown hAB.1 hP 38 rfl rfl 12 (by decide) (hts (.fieldLink RX4 42 "BarnBench$Net" "from" "[I") (by decide +kernel)) (fun _ h9 => h9) rfl dX4_reach_20 ?_
      refine lv_iload_n hx hb dX4_reach_23 rfl (lv_at hl 1 rfl) ?_
      refine lv_iload_n hx hb dX4_reach_24 rfl (lv_at hl 2 rfl) ?_
      refine sC_49 hx hb hAB hP hD hS h.1 dX4_reach_25 (fun nFr_3 H locs e_4 hP hD hS => ?_)
      have h := h.2
      have h := h nFr_3 e_4
      refine lv_aload_n hx hb dX4_reach_26 rfl (lv_at hl 0 rfl) ?_
      refine va_get (D := D) (ci := 4) (C := RX4) (T := TX4) (N := 15) hx hb hts inn_X4_reach_4 hown hAB.1 hP 38 rfl rfl 13 (by decide) (hts (.fieldLink RX4 45 "BarnBench$Net" "queue" "[I") (by decide +kernel)) (fun _ h9 => h9) rfl dX4_reach_27 ?_
      refine lv_aload_n hx hb dX4_reach_30 rfl (lv_at hl 0 rfl) ?_
      refine va_get (D := D) (ci := 4) (C := RX4) (T := TX4) (N := 15) hx hb hts inn_X4_reach_4 hown hAB.1 hP 38 rfl rfl 14 (by decide) (hts (.fieldLink RX4 135 "BarnBench$Net" "queued" "I") (by decide +kernel)) (fun _ h9 => h9) rfl dX4_reach_31 ?_
      refine lv_iload_n hx hb dX4_reach_34 rfl (lv_at hl 1 rfl) ?_
      refine sC_50 hx hb hAB hP hD hS h.1 dX4_reach_35 (fun nQu_5 H locs e_6 hP hD hS => ?_)
      have h := h.2
      have h := h nQu_5 e_6
      refine lv_aload_n hx hb dX4_reach_36 rfl (lv_at hl 0 rfl) ?_
      refine lv_dup hx hb dX4_reach_37 rfl ?_
      refine va_get (D := D) (ci := 4) (C := RX4) (T := TX4) (N := 15) hx hb hts inn_X4_reach_4 hown hAB.1 hP 38 rfl rfl 14 (by decide) (hts (.fieldLink RX4 135 "BarnBench$Net" "queued" "I") (by decide +kernel)) (fun _ h9 => h9) rfl dX4_reach_38 ?_
      refine lv_iconst (v := 1) hx hb dX4_reach_41 (by decide) ?_
      refine lv_iadd hx hb dX4_reach_42 ?_
      refine fC_38_queued hx hb hAB hP hD hS hts inn_X4_reach_4 hown (hts (.fieldLink RX4 135 "BarnBench$Net" "queued" "I") (by decide +kernel)) dX4_reach_43 (fun nQd_7 H locs e_8 hP hD hS => ?_)
      have h := h nQd_7 e_8
      exact rt_v (nQd_7, nFr_3, nQu_5) hQ hx hb hr hlk hP hD hS ⟨Nat.zero_le _, Nat.zero_le _⟩ dX4_reach_46 h
def wp_X4_roomBetween_b15 (Qp : Int32 → Prop) (a2 : Int32) (nER : Nat → Int32) (nMR : Nat → Int32) (nPa : Nat → Int32) (nTh : Nat → Int32) (y_2 : Int32) (x3_1 : Int32) : Prop :=
  ((¬ (a2 / 2) = x3_1 → ((y_2 = 0 → Qp 1073741824) ∧
   (¬ y_2 = 0 → vp_in (((a2 / 2) * 12) + x3_1) 144 ∧ Qp (nPa (Int32.toNatClampNeg (((a2 / 2) * 12) + x3_1)))))) ∧
   ((a2 / 2) = x3_1 → ((y_2 = 0 → wp_X4_roomOff nER nMR nTh x3_1 (fun (r_6 : Int32) => Qp r_6)) ∧
   (¬ y_2 = 0 → wp_X4_roomOn nER nMR nTh x3_1 (fun (r_7 : Int32) => Qp r_7)))))
def wp_X4_roomBetween (nER : Nat → Int32) (nMR : Nat → Int32) (nTh : Nat → Int32) (nPa : Nat → Int32) (a1 : Int32) (a2 : Int32) (Qp : Int32 → Prop) : Prop :=
  ∀ x3_8 : Int32, x3_8 = (a1 / 2) → ((¬ (a1 - a1 / 2 * 2) = 0 → wp_X4_roomBetween_b15 Qp a2 nER nMR nPa nTh 0 x3_8) ∧
   ((a1 - a1 / 2 * 2) = 0 → wp_X4_roomBetween_b15 Qp a2 nER nMR nPa nTh 1 x3_8))
theorem inn_X4_roomBetween_4 : ∀ w ∈ u_ws RX4 TX4 15, w ∈ wsX4_roomBetween := fun _ h => List.mem_cons_of_mem _ (List.mem_append_right _ h)
def rm_X4_roomBetween : Room := { frames := 1, cells := 0, slots := 0, locals := 21 }
set_option maxHeartbeats 4000000 in
set_option maxRecDepth 100000 in
theorem ct_X4_roomBetween {l : Launch} {D : va_G} {cI cJ cZ cE cD cK : ClassId} {ad : Nat → Nat} {bd dd : Nat → Nat → Nat} {bHK : Int32} {bHP : Int32} {bPF : Int32} {bWC : Int32} {bRi : Int32} {bBe : Int32} {bFi : Int32} {bWa : Nat → Int32} {dB : Nat → Int32} {dS : Nat → Int32} {dN : Nat → Nat → Int64} {tC : Int32} {tKi : Nat → Int32} {tEa : Nat → Int32} {tHa : Nat → Int32} {tPr : Nat → Int32} {tEx : Nat → Int32} {tSt : Nat → Int32} {tTo : Nat → Int32} {tBe : Nat → Int32} {kC : Int32} {kKi : Nat → Int32} {kEa : Nat → Int32} {kHa : Nat → Int32} {kPr : Nat → Int32} {kEx : Nat → Int32} {kSt : Nat → Int32} {kTo : Nat → Int32} {kBe : Nat → Int32} {aC : Int32} {aWh : Nat → Int32} {aTa : Nat → Int32} {aWa : Nat → Int32} {iRo : Nat → Int32} {iEa : Nat → Int32} {iLa : Nat → Int32} {cC : Int32} {nC : Int32} {nFo : Int32} {nQd : Int32} {nRo : Nat → Int32} {nBe : Nat → Int32} {nEa : Nat → Int32} {nMi : Nat → Int32} {nHa : Nat → Int32} {nER : Nat → Int32} {nMR : Nat → Int32} {nTh : Nat → Int32} {nPa : Nat → Int32} {nOu : Nat → Int32} {nFr : Nat → Int32} {nQu : Nat → Int32} {eM : Nat} {eL : Nat → Int32} {eC : Nat → Int64} {eS : Nat → Int64} {eB : Nat → Nat → Int32} {eE : Nat → Nat → Int32} {eF : Nat → Nat → Int32} {eG : Nat → Nat → Int32}   {a1 : Int32} {a2 : Int32} {Qp : Int32 → Prop}   (h : wp_X4_roomBetween nER nMR nTh nPa a1 a2 Qp) : CTi l yX4_roomBetween wsX4_roomBetween rm_X4_roomBetween D (tyL cI cJ cZ cE cD cK) [.ref (ad 38), .int a1, .int a2] (WC cI cJ cE cD ad bd dd bHK bHP bPF bWC bRi bBe bFi bWa dB dS dN tC tKi tEa tHa tPr tEx tSt tTo tBe kC kKi kEa kHa kPr kEx kSt kTo kBe aC aWh aTa aWa iRo iEa iLa cC nC nFo nQd nRo nBe nEa nMi nHa nER nMR nTh nPa nOu nFr nQu eM eL eC eS eB eE eF eG) (fun (r : Int32) (u : Unit) => Qp r ) (fun u : Unit => (WC cI cJ cE cD ad bd dd bHK bHP bPF bWC bRi bBe bFi bWa dB dS dN tC tKi tEa tHa tPr tEx tSt tTo tBe kC kKi kEa kHa kPr kEx kSt kTo kBe aC aWh aTa aWa iRo iEa iLa cC nC nFo nQd nRo nBe nEa nMi nHa nER nMR nTh nPa nOu nFr nQu eM eL eC eS eB eE eF eG)) 0 0 := by
  refine ent_i (cc := cX4_roomBetween) (maxL := 5) (ret := (some .int)) (by decide) rfl (Nat.le_of_ble_eq_true rfl) ?_
  intro p e s m args below meth c A Q hQ hx hb hr hml hown hts hlk hA hAB hP hD hS ls hl
  have hown : s.vm.findClass RX4 = some m.cls := hown
  have hl : lv_has ls 5 [(0, .ref (ad 38)), (1, .int a1), (2, .int a2)] := hl
  generalize hH : s.heap = H at hP ⊢
  have hS : va_S A s.heap H [] := by rw [← hH]; exact hS
  clear hH
  generalize ([] : List Loc) = locs at hS ⊢
  have B15 : ∀ (y_2 : Int32) (x3_1 : Int32), wp_X4_roomBetween_b15 Qp a2 nER nMR nPa nTh y_2 x3_1 → ∀ (H : Heap) (locs : List Loc) (ls : Array Slot), va_P D vwCl (WC cI cJ cE cD ad bd dd bHK bHP bPF bWC bRi bBe bFi bWa dB dS dN tC tKi tEa tHa tPr tEx tSt tTo tBe kC kKi kEa kHa kPr kEx kSt kTo kBe aC aWh aTa aWa iRo iEa iLa cC nC nFo nQd nRo nBe nEa nMi nHa nER nMR nTh nPa nOu nFr nQu eM eL eC eS eB eE eF eG) H → va_D A (WC cI cJ cE cD ad bd dd bHK bHP bPF bWC bRi bBe bFi bWa dB dS dN tC tKi tEa tHa tPr tEx tSt tTo tBe kC kKi kEa kHa kPr kEx kSt kTo kBe aC aWh aTa aWa iRo iEa iLa cC nC nFo nQd nRo nBe nEa nMi nHa nER nMR nTh nPa nOu nFr nQu eM eL eC eS eB eE eF eG) → va_S A s.heap H locs → lv_has ls 5 [(0, .ref (ad 38)), (2, .int a2), (3, .int x3_1)] → W p l e (headSpec wsX4_roomBetween rm_X4_roomBetween).room s m args below meth c H locs 0 0 Q (F0 m 15 ls [.int y_2]) := by
    intro y_2 x3_1 h H locs ls hP hD hS hl
    refine lv_istore (lv' := [(4, .int y_2), (0, .ref (ad 38)), (2, .int a2), (3, .int x3_1)]) hx hb dX4_roomBetween_15 hl (by decide) rfl (fun ls hl => ?_)
    refine lv_iload_n hx hb dX4_roomBetween_17 rfl (lv_at hl 2 rfl) ?_
    refine lv_iconst (v := 2) hx hb dX4_roomBetween_18 (by decide) ?_
    refine lv_idiv hx hb dX4_roomBetween_19 (by decide) ?_
    refine lv_iload_n hx hb dX4_roomBetween_20 rfl (lv_at hl 3 rfl) ?_
    refine lv_icmp_ne (tgt := 43) hx hb dX4_roomBetween_21 (by decide) (fun c_3 => ?_) (fun c_3 => ?_)
    · have h := h.1 c_3
      refine lv_iload hx hb dX4_roomBetween_43 (lv_at hl 0 rfl) ?_
      refine lv_if_eq (tgt := 64) hx hb dX4_roomBetween_45 (by decide) (fun c_4 => ?_) (fun c_4 => ?_)
      · have h := h.1 c_4
        refine lv_ldc (v := 1073741824) hx hb hown (hts (.constant RX4 104 1073741824) (by decide +kernel)) dX4_roomBetween_64 ?_
        exact rt_i () hQ hx hb hr hlk hP hD hS ⟨Nat.zero_le _, Nat.zero_le _⟩ dX4_roomBetween_66 h
      · have h := h.2 c_4
        refine lv_aload_n hx hb dX4_roomBetween_48 rfl (lv_at hl 1 rfl) ?_
        refine va_get (D := D) (ci := 4) (C := RX4) (T := TX4) (N := 15) hx hb hts inn_X4_roomBetween_4 hown hAB.1 hP 38 rfl rfl 10 (by decide) (hts (.fieldLink RX4 36 "BarnBench$Net" "passed" "[I") (by decide +kernel)) (fun _ h9 => h9) rfl dX4_roomBetween_49 ?_
        refine lv_iload_n hx hb dX4_roomBetween_52 rfl (lv_at hl 2 rfl) ?_
        refine lv_iconst (v := 2) hx hb dX4_roomBetween_53 (by decide) ?_
        refine lv_idiv hx hb dX4_roomBetween_54 (by decide) ?_
        refine lv_bipush (v := 12) hx hb dX4_roomBetween_55 (by decide) ?_
        refine lv_imul hx hb dX4_roomBetween_57 ?_
        refine lv_iload_n hx hb dX4_roomBetween_58 rfl (lv_at hl 3 rfl) ?_
        refine lv_iadd hx hb dX4_roomBetween_59 ?_
        refine va_iald hx hb hAB.1 hP 47 0 rfl rfl h.1 dX4_roomBetween_60 ?_
        have h := h.2
        refine lv_goto (tgt := 66) hx hb dX4_roomBetween_61 (by decide) ?_
        exact rt_i () hQ hx hb hr hlk hP hD hS ⟨Nat.zero_le _, Nat.zero_le _⟩ dX4_roomBetween_66 h
    · have h := h.2 c_3
      refine lv_iload hx hb dX4_roomBetween_24 (lv_at hl 0 rfl) ?_
      refine lv_if_eq (tgt := 37) hx hb dX4_roomBetween_26 (by decide) (fun c_5 => ?_) (fun c_5 => ?_)
      · have h := h.1 c_5
        refine lv_aload_n hx hb dX4_roomBetween_37 rfl (lv_at hl 1 rfl) ?_
        refine lv_iload_n hx hb dX4_roomBetween_38 rfl (lv_at hl 3 rfl) ?_
        refine cl_i hD hS hA (va_runV (As := [.int x3_1]) (rest := []) ⟨hx, hb, hml, hown, hts⟩ (ct_X4_roomOff h H.size) (cwV 1 hts gX4_roomBetween_X4_roomOff rfl rfl rfl (by decide +kernel) ⟨Nat.le_of_ble_eq_true rfl, Nat.le_of_ble_eq_true rfl⟩) ⟨CPre.blind, va_recv hAB.1 hP (ci := 4) (q0 := 38) rfl rfl, wd_pre hAB hP hD hS hA⟩ rfl rfl hl.1 rfl (lv_room (Nat.le_of_ble_eq_true rfl)) dX4_roomBetween_39 ⟨Nat.zero_le _, Nat.zero_le _⟩) (fun r_6 u H locs h hP hD hS => ?_)
        exact rt_i () hQ hx hb hr hlk hP hD hS ⟨Nat.zero_le _, Nat.zero_le _⟩ dX4_roomBetween_42 h
      · have h := h.2 c_5
        refine lv_aload_n hx hb dX4_roomBetween_29 rfl (lv_at hl 1 rfl) ?_
        refine lv_iload_n hx hb dX4_roomBetween_30 rfl (lv_at hl 3 rfl) ?_
        refine cl_i hD hS hA (va_runV (As := [.int x3_1]) (rest := []) ⟨hx, hb, hml, hown, hts⟩ (ct_X4_roomOn h H.size) (cwV 1 hts gX4_roomBetween_X4_roomOn rfl rfl rfl (by decide +kernel) ⟨Nat.le_of_ble_eq_true rfl, Nat.le_of_ble_eq_true rfl⟩) ⟨CPre.blind, va_recv hAB.1 hP (ci := 4) (q0 := 38) rfl rfl, wd_pre hAB hP hD hS hA⟩ rfl rfl hl.1 rfl (lv_room (Nat.le_of_ble_eq_true rfl)) dX4_roomBetween_31 ⟨Nat.zero_le _, Nat.zero_le _⟩) (fun r_7 u H locs h hP hD hS => ?_)
        refine lv_goto (tgt := 42) hx hb dX4_roomBetween_34 (by decide) ?_
        exact rt_i () hQ hx hb hr hlk hP hD hS ⟨Nat.zero_le _, Nat.zero_le _⟩ dX4_roomBetween_42 h
  refine lv_iload_n hx hb dX4_roomBetween_0 rfl (lv_at hl 1 rfl) ?_
  refine lv_iconst (v := 2) hx hb dX4_roomBetween_1 (by decide) ?_
  refine lv_idiv hx hb dX4_roomBetween_2 (by decide) ?_
  refine lv_topi (fun x3_8 e_9 => ?_)
  have h := h x3_8 e_9
  refine lv_istore_n (lv' := [(3, .int x3_8), (0, .ref (ad 38)), (1, .int a1), (2, .int a2)]) hx hb dX4_roomBetween_3 rfl hl (by decide) rfl (fun ls hl => ?_)
  refine lv_iload_n hx hb dX4_roomBetween_4 rfl (lv_at hl 2 rfl) ?_
  refine lv_iconst (v := 2) hx hb dX4_roomBetween_5 (by decide) ?_
  refine lv_irem hx hb dX4_roomBetween_6 (by decide) ?_
  refine lv_if_ne (tgt := 14) hx hb dX4_roomBetween_7 (by decide) (fun c_10 => ?_) (fun c_10 => ?_)
  · have h := h.1 c_10
    refine lv_iconst (v := 0) hx hb dX4_roomBetween_14 (by decide) ?_
    exact B15 0 x3_8 h H locs ls hP hD hS (lv_sub hl [1, 3, 0] rfl)
  · have h := h.2 c_10
    refine lv_iconst (v := 1) hx hb dX4_roomBetween_10 (by decide) ?_
    refine lv_goto (tgt := 15) hx hb dX4_roomBetween_11 (by decide) ?_
    exact B15 1 x3_8 h H locs ls hP hD hS (lv_sub hl [1, 3, 0] rfl)
def wp_X4_roomOfWay_L12 (nER : Nat → Int32) (nFr : Nat → Int32) (nMR : Nat → Int32) (nPa : Nat → Int32) (nTh : Nat → Int32) (x12 : (Int32) → Prop) : Nat → (Int32) → (Int32) → (Int32) → Prop
  | 0, _, _, _ => False
  | n12 + 1, x2_3, x3_4, x4_5 =>
  ((24 ≤ x4_5 → x12 x2_3) ∧
   (¬ 24 ≤ x4_5 → vp_in x3_4 24 ∧ (((nFr (Int32.toNatClampNeg x3_4)) < 0 → x12 x2_3) ∧
   (¬ (nFr (Int32.toNatClampNeg x3_4)) < 0 → vp_in x3_4 24 ∧ wp_X4_roomBetween nER nMR nTh nPa (nFr (Int32.toNatClampNeg x3_4)) x3_4 (fun (r_9 : Int32) => ∀ x2_10 : Int32, x2_10 = (if r_9 < x2_3 then r_9 else x2_3) → vp_in x3_4 24 ∧ ∀ x3_12 : Int32, x3_12 = (nFr (Int32.toNatClampNeg x3_4)) → ∀ x4_14 : Int32, x4_14 = x4_5 + 1 → (wp_X4_roomOfWay_L12 nER nFr nMR nPa nTh x12 n12) x2_10 x3_12 x4_14)))))
def wp_X4_roomOfWay (nER : Nat → Int32) (nMR : Nat → Int32) (nTh : Nat → Int32) (nPa : Nat → Int32) (nFr : Nat → Int32) (a1 : Int32) (Qp : Int32 → Prop) : Prop :=
  ∀ x3_1 : Int32, x3_1 = ((2 * a1) + 1) → (∃ n12 : Nat, wp_X4_roomOfWay_L12 nER nFr nMR nPa nTh (fun (x2_6 : Int32) => Qp x2_6) n12 1073741824 x3_1 0)
theorem inn_X4_roomOfWay_4 : ∀ w ∈ u_ws RX4 TX4 15, w ∈ wsX4_roomOfWay := fun _ h => List.mem_cons_of_mem _ (List.mem_append_right _ h)
def rm_X4_roomOfWay : Room := { frames := 2, cells := 0, slots := 0, locals := 45 }
set_option maxHeartbeats 4000000 in
set_option maxRecDepth 100000 in
theorem ct_X4_roomOfWay {l : Launch} {D : va_G} {cI cJ cZ cE cD cK : ClassId} {ad : Nat → Nat} {bd dd : Nat → Nat → Nat} {bHK : Int32} {bHP : Int32} {bPF : Int32} {bWC : Int32} {bRi : Int32} {bBe : Int32} {bFi : Int32} {bWa : Nat → Int32} {dB : Nat → Int32} {dS : Nat → Int32} {dN : Nat → Nat → Int64} {tC : Int32} {tKi : Nat → Int32} {tEa : Nat → Int32} {tHa : Nat → Int32} {tPr : Nat → Int32} {tEx : Nat → Int32} {tSt : Nat → Int32} {tTo : Nat → Int32} {tBe : Nat → Int32} {kC : Int32} {kKi : Nat → Int32} {kEa : Nat → Int32} {kHa : Nat → Int32} {kPr : Nat → Int32} {kEx : Nat → Int32} {kSt : Nat → Int32} {kTo : Nat → Int32} {kBe : Nat → Int32} {aC : Int32} {aWh : Nat → Int32} {aTa : Nat → Int32} {aWa : Nat → Int32} {iRo : Nat → Int32} {iEa : Nat → Int32} {iLa : Nat → Int32} {cC : Int32} {nC : Int32} {nFo : Int32} {nQd : Int32} {nRo : Nat → Int32} {nBe : Nat → Int32} {nEa : Nat → Int32} {nMi : Nat → Int32} {nHa : Nat → Int32} {nER : Nat → Int32} {nMR : Nat → Int32} {nTh : Nat → Int32} {nPa : Nat → Int32} {nOu : Nat → Int32} {nFr : Nat → Int32} {nQu : Nat → Int32} {eM : Nat} {eL : Nat → Int32} {eC : Nat → Int64} {eS : Nat → Int64} {eB : Nat → Nat → Int32} {eE : Nat → Nat → Int32} {eF : Nat → Nat → Int32} {eG : Nat → Nat → Int32}   {a1 : Int32} {Qp : Int32 → Prop}   (h : wp_X4_roomOfWay nER nMR nTh nPa nFr a1 Qp) : CTi l yX4_roomOfWay wsX4_roomOfWay rm_X4_roomOfWay D (tyL cI cJ cZ cE cD cK) [.ref (ad 38), .int a1] (WC cI cJ cE cD ad bd dd bHK bHP bPF bWC bRi bBe bFi bWa dB dS dN tC tKi tEa tHa tPr tEx tSt tTo tBe kC kKi kEa kHa kPr kEx kSt kTo kBe aC aWh aTa aWa iRo iEa iLa cC nC nFo nQd nRo nBe nEa nMi nHa nER nMR nTh nPa nOu nFr nQu eM eL eC eS eB eE eF eG) (fun (r : Int32) (u : Unit) => Qp r ) (fun u : Unit => (WC cI cJ cE cD ad bd dd bHK bHP bPF bWC bRi bBe bFi bWa dB dS dN tC tKi tEa tHa tPr tEx tSt tTo tBe kC kKi kEa kHa kPr kEx kSt kTo kBe aC aWh aTa aWa iRo iEa iLa cC nC nFo nQd nRo nBe nEa nMi nHa nER nMR nTh nPa nOu nFr nQu eM eL eC eS eB eE eF eG)) 0 0 := by
  refine ent_i (cc := cX4_roomOfWay) (maxL := 5) (ret := (some .int)) (by decide) rfl (Nat.le_of_ble_eq_true rfl) ?_
  intro p e s m args below meth c A Q hQ hx hb hr hml hown hts hlk hA hAB hP hD hS ls hl
  have hown : s.vm.findClass RX4 = some m.cls := hown
  have hl : lv_has ls 5 [(0, .ref (ad 38)), (1, .int a1)] := hl
  generalize hH : s.heap = H at hP ⊢
  have hS : va_S A s.heap H [] := by rw [← hH]; exact hS
  clear hH
  generalize ([] : List Loc) = locs at hS ⊢
  refine lv_ldc (v := 1073741824) hx hb hown (hts (.constant RX4 104 1073741824) (by decide +kernel)) dX4_roomOfWay_0 ?_
  refine lv_istore_n (lv' := [(2, .int 1073741824), (0, .ref (ad 38)), (1, .int a1)]) hx hb dX4_roomOfWay_2 rfl hl (by decide) rfl (fun ls hl => ?_)
  refine lv_iconst (v := 2) hx hb dX4_roomOfWay_3 (by decide) ?_
  refine lv_iload_n hx hb dX4_roomOfWay_4 rfl (lv_at hl 2 rfl) ?_
  refine lv_imul hx hb dX4_roomOfWay_5 ?_
  refine lv_iconst (v := 1) hx hb dX4_roomOfWay_6 (by decide) ?_
  refine lv_iadd hx hb dX4_roomOfWay_7 ?_
  refine lv_topi (fun x3_1 e_2 => ?_)
  have h := h x3_1 e_2
  refine lv_istore_n (lv' := [(3, .int x3_1), (2, .int 1073741824), (0, .ref (ad 38)), (1, .int a1)]) hx hb dX4_roomOfWay_8 rfl hl (by decide) rfl (fun ls hl => ?_)
  refine lv_iconst (v := 0) hx hb dX4_roomOfWay_9 (by decide) ?_
  refine lv_istore (lv' := [(4, .int 0), (3, .int x3_1), (2, .int 1073741824), (0, .ref (ad 38)), (1, .int a1)]) hx hb dX4_roomOfWay_10 hl (by decide) rfl (fun ls hl => ?_)
  have L12 : ∀ (x12 : (Int32) → Prop) (hk12 : ∀ (x2_6 : Int32), x12 x2_6 → ∀ (H : Heap) (locs : List Loc) (ls : Array Slot), va_P D vwCl (WC cI cJ cE cD ad bd dd bHK bHP bPF bWC bRi bBe bFi bWa dB dS dN tC tKi tEa tHa tPr tEx tSt tTo tBe kC kKi kEa kHa kPr kEx kSt kTo kBe aC aWh aTa aWa iRo iEa iLa cC nC nFo nQd nRo nBe nEa nMi nHa nER nMR nTh nPa nOu nFr nQu eM eL eC eS eB eE eF eG) H → va_D A (WC cI cJ cE cD ad bd dd bHK bHP bPF bWC bRi bBe bFi bWa dB dS dN tC tKi tEa tHa tPr tEx tSt tTo tBe kC kKi kEa kHa kPr kEx kSt kTo kBe aC aWh aTa aWa iRo iEa iLa cC nC nFo nQd nRo nBe nEa nMi nHa nER nMR nTh nPa nOu nFr nQu eM eL eC eS eB eE eF eG) → va_S A s.heap H locs → lv_has ls 5 [(2, .int x2_6)] → W p l e (headSpec wsX4_roomOfWay rm_X4_roomOfWay).room s m args below meth c H locs 0 0 Q (F0 m 57 ls [])) (n12 : Nat) (x2_3 : Int32) (x3_4 : Int32) (x4_5 : Int32), wp_X4_roomOfWay_L12 nER nFr nMR nPa nTh x12 n12 x2_3 x3_4 x4_5 → ∀ (H : Heap) (locs : List Loc) (ls : Array Slot), va_P D vwCl (WC cI cJ cE cD ad bd dd bHK bHP bPF bWC bRi bBe bFi bWa dB dS dN tC tKi tEa tHa tPr tEx tSt tTo tBe kC kKi kEa kHa kPr kEx kSt kTo kBe aC aWh aTa aWa iRo iEa iLa cC nC nFo nQd nRo nBe nEa nMi nHa nER nMR nTh nPa nOu nFr nQu eM eL eC eS eB eE eF eG) H → va_D A (WC cI cJ cE cD ad bd dd bHK bHP bPF bWC bRi bBe bFi bWa dB dS dN tC tKi tEa tHa tPr tEx tSt tTo tBe kC kKi kEa kHa kPr kEx kSt kTo kBe aC aWh aTa aWa iRo iEa iLa cC nC nFo nQd nRo nBe nEa nMi nHa nER nMR nTh nPa nOu nFr nQu eM eL eC eS eB eE eF eG) → va_S A s.heap H locs → lv_has ls 5 [(0, .ref (ad 38)), (2, .int x2_3), (3, .int x3_4), (4, .int x4_5)] → W p l e (headSpec wsX4_roomOfWay rm_X4_roomOfWay).room s m args below meth c H locs 0 0 Q (F0 m 12 ls []) := by
    intro x12 hk12 n12
    induction n12 with
    | zero => intro x2_3 x3_4 x4_5 h; exact False.elim h
    | succ n12 ih12 =>
      intro x2_3 x3_4 x4_5 h H locs ls hP hD hS hl
      refine lv_iload hx hb dX4_roomOfWay_12 (lv_at hl 3 rfl) ?_
      refine lv_bipush (v := 24) hx hb dX4_roomOfWay_14 (by decide) ?_
      refine lv_icmp_ge (tgt := 57) hx hb dX4_roomOfWay_16 (by decide) (fun c_7 => ?_) (fun c_7 => ?_)
      · have h := h.1 c_7
        exact hk12 x2_3 h H locs ls hP hD hS (lv_sub hl [1] rfl)
      · have h := h.2 c_7
        refine lv_aload_n hx hb dX4_roomOfWay_19 rfl (lv_at hl 0 rfl) ?_
        refine va_get (D := D) (ci := 4) (C := RX4) (T := TX4) (N := 15) hx hb hts inn_X4_roomOfWay_4 hown hAB.1 hP 38 rfl rfl 12 (by decide) (hts (.fieldLink RX4 42 "BarnBench$Net" "from" "[I") (by decide +kernel)) (fun _ h9 => h9) rfl dX4_roomOfWay_20 ?_
        refine lv_iload_n hx hb dX4_roomOfWay_23 rfl (lv_at hl 2 rfl) ?_
        refine va_iald hx hb hAB.1 hP 49 0 rfl rfl h.1 dX4_roomOfWay_24 ?_
        have h := h.2
        refine lv_if_lt (tgt := 57) hx hb dX4_roomOfWay_25 (by decide) (fun c_8 => ?_) (fun c_8 => ?_)
        · have h := h.1 c_8
          exact hk12 x2_3 h H locs ls hP hD hS (lv_sub hl [1] rfl)
        · have h := h.2 c_8
          refine lv_iload_n hx hb dX4_roomOfWay_28 rfl (lv_at hl 1 rfl) ?_
          refine lv_aload_n hx hb dX4_roomOfWay_29 rfl (lv_at hl 0 rfl) ?_
          refine lv_aload_n hx hb dX4_roomOfWay_30 rfl (lv_at hl 0 rfl) ?_
          refine va_get (D := D) (ci := 4) (C := RX4) (T := TX4) (N := 15) hx hb hts inn_X4_roomOfWay_4 hown hAB.1 hP 38 rfl rfl 12 (by decide) (hts (.fieldLink RX4 42 "BarnBench$Net" "from" "[I") (by decide +kernel)) (fun _ h9 => h9) rfl dX4_roomOfWay_31 ?_
          refine lv_iload_n hx hb dX4_roomOfWay_34 rfl (lv_at hl 2 rfl) ?_
          refine va_iald hx hb hAB.1 hP 49 0 rfl rfl h.1 dX4_roomOfWay_35 ?_
          have h := h.2
          refine lv_iload_n hx hb dX4_roomOfWay_36 rfl (lv_at hl 2 rfl) ?_
          refine cl_i hD hS hA (va_runV (As := [.int (nFr (Int32.toNatClampNeg x3_4)), .int x3_4]) (rest := [.int x2_3]) ⟨hx, hb, hml, hown, hts⟩ (ct_X4_roomBetween h H.size) (cwV 2 hts gX4_roomOfWay_X4_roomBetween rfl rfl rfl (by decide +kernel) ⟨Nat.le_of_ble_eq_true rfl, Nat.le_of_ble_eq_true rfl⟩) ⟨CPre.blind, va_recv hAB.1 hP (ci := 4) (q0 := 38) rfl rfl, wd_pre hAB hP hD hS hA⟩ rfl rfl hl.1 rfl (lv_room (Nat.le_of_ble_eq_true rfl)) dX4_roomOfWay_37 ⟨Nat.zero_le _, Nat.zero_le _⟩) (fun r_9 u H locs h hP hD hS => ?_)
          refine va_mmin (rest := []) hx hb (by rw [hml]; exact hl.1.symm) hown (hts (.methodLink RX4 151 Lib.Math.min.name) (by decide +kernel)) (hts (.static Lib.Math.min.name) (by decide +kernel)) (hts (.initialized "java/lang/Math") (by decide +kernel)) (hts (.code Lib.Math.min.name Lib.Math.min.code 2 (some .int)) (by decide +kernel)) (Nat.le_of_ble_eq_true rfl) (Nat.le_of_ble_eq_true rfl) (Nat.zero_le _) (Nat.zero_le _) dX4_roomOfWay_40 ?_
          refine lv_topi (fun x2_10 e_11 => ?_)
          have h := h x2_10 e_11
          refine lv_istore_n (lv' := [(2, .int x2_10), (0, .ref (ad 38)), (3, .int x3_4), (4, .int x4_5)]) hx hb dX4_roomOfWay_43 rfl hl (by decide) rfl (fun ls hl => ?_)
          refine lv_aload_n hx hb dX4_roomOfWay_44 rfl (lv_at hl 1 rfl) ?_
          refine va_get (D := D) (ci := 4) (C := RX4) (T := TX4) (N := 15) hx hb hts inn_X4_roomOfWay_4 hown hAB.1 hP 38 rfl rfl 12 (by decide) (hts (.fieldLink RX4 42 "BarnBench$Net" "from" "[I") (by decide +kernel)) (fun _ h9 => h9) rfl dX4_roomOfWay_45 ?_
          refine lv_iload_n hx hb dX4_roomOfWay_48 rfl (lv_at hl 2 rfl) ?_
          refine va_iald hx hb hAB.1 hP 49 0 rfl rfl h.1 dX4_roomOfWay_49 ?_
          have h := h.2
          refine lv_topi (fun x3_12 e_13 => ?_)
          have h := h x3_12 e_13
          refine lv_istore_n (lv' := [(3, .int x3_12), (2, .int x2_10), (0, .ref (ad 38)), (4, .int x4_5)]) hx hb dX4_roomOfWay_50 rfl hl (by decide) rfl (fun ls hl => ?_)
          obtain ⟨x4_14, e_15⟩ : ∃ y : Int32, y = x4_5 + 1 := ⟨_, rfl⟩
          have h := h x4_14 e_15
          refine lv_iinc (v := x4_14) (lv' := [(4, .int x4_14), (3, .int x3_12), (2, .int x2_10), (0, .ref (ad 38))]) hx hb dX4_roomOfWay_51 hl (k := 3) rfl (by rw [e_15]; rfl) (by decide) rfl (fun ls hl => ?_)
          refine lv_goto (tgt := 12) hx hb dX4_roomOfWay_54 (by decide) ?_
          exact ih12 x2_10 x3_12 x4_14 h H locs ls hP hD hS (lv_sub hl [3, 2, 1, 0] rfl)
  obtain ⟨n12, h⟩ := h
  refine L12 _ (fun x2_6 h H locs ls hP hD hS hl => ?_) n12 1073741824 x3_1 0 h H locs ls hP hD hS (lv_sub hl [3, 2, 1, 0] rfl)
  refine lv_iload_n hx hb dX4_roomOfWay_57 rfl (lv_at hl 0 rfl) ?_
  exact rt_i () hQ hx hb hr hlk hP hD hS ⟨Nat.zero_le _, Nat.zero_le _⟩ dX4_roomOfWay_58 h
def wp_X4_flowBetween_b49 (Qp : (Nat → Int32) → (Nat → Int32) → Prop) (y_1 : Int32) (y_2 : Int32) (y_3 : Int32) (nTh_4 : Nat → Int32) (nPa_5 : Nat → Int32) : Prop :=
  vp_in y_1 12 ∧ ∀ nTh_6 : Nat → Int32, nTh_6 = upd nTh_4 (Int32.toNatClampNeg y_1) (y_2 + y_3) → Qp nTh_6 nPa_5
def wp_X4_flowBetween_b21 (Qp : (Nat → Int32) → (Nat → Int32) → Prop) (a3 : Int32) (y_10 : Int32) (x4_8 : Int32) (x5_9 : Int32) (nTh_11 : Nat → Int32) (nPa_12 : Nat → Int32) : Prop :=
  ((¬ x5_9 = x4_8 → ((y_10 = 0 → vp_in ((x4_8 * 12) + x5_9) 144 ∧ vp_in ((x4_8 * 12) + x5_9) 144 ∧ ∀ nPa_15 : Nat → Int32, nPa_15 = upd nPa_12 (Int32.toNatClampNeg ((x4_8 * 12) + x5_9)) ((nPa_12 (Int32.toNatClampNeg ((x4_8 * 12) + x5_9))) + a3) → Qp nTh_11 nPa_15) ∧
   (¬ y_10 = 0 → vp_in ((x5_9 * 12) + x4_8) 144 ∧ vp_in ((x5_9 * 12) + x4_8) 144 ∧ ∀ nPa_17 : Nat → Int32, nPa_17 = upd nPa_12 (Int32.toNatClampNeg ((x5_9 * 12) + x4_8)) ((nPa_12 (Int32.toNatClampNeg ((x5_9 * 12) + x4_8))) - a3) → Qp nTh_11 nPa_17))) ∧
   (x5_9 = x4_8 → vp_in x4_8 12 ∧ ((y_10 = 0 → wp_X4_flowBetween_b49 Qp x4_8 (nTh_11 (Int32.toNatClampNeg x4_8)) (-a3) nTh_11 nPa_12) ∧
   (¬ y_10 = 0 → wp_X4_flowBetween_b49 Qp x4_8 (nTh_11 (Int32.toNatClampNeg x4_8)) a3 nTh_11 nPa_12))))
def wp_X4_flowBetween (nTh : Nat → Int32) (nPa : Nat → Int32) (a1 : Int32) (a2 : Int32) (a3 : Int32) (Qp : (Nat → Int32) → (Nat → Int32) → Prop) : Prop :=
  ∀ x4_20 : Int32, x4_20 = (a1 / 2) → ∀ x5_22 : Int32, x5_22 = (a2 / 2) → ((¬ (a1 - a1 / 2 * 2) = 0 → wp_X4_flowBetween_b21 Qp a3 0 x4_20 x5_22 nTh nPa) ∧
   ((a1 - a1 / 2 * 2) = 0 → wp_X4_flowBetween_b21 Qp a3 1 x4_20 x5_22 nTh nPa))
theorem inn_X4_flowBetween_4 : ∀ w ∈ u_ws RX4 TX4 15, w ∈ wsX4_flowBetween := fun _ h => List.mem_cons_of_mem _ (List.mem_append_right _ h)
def rm_X4_flowBetween : Room := { frames := 0, cells := 0, slots := 0, locals := 0 }
set_option maxHeartbeats 4000000 in
set_option maxRecDepth 100000 in
theorem ct_X4_flowBetween {l : Launch} {D : va_G} {cI cJ cZ cE cD cK : ClassId} {ad : Nat → Nat} {bd dd : Nat → Nat → Nat} {bHK : Int32} {bHP : Int32} {bPF : Int32} {bWC : Int32} {bRi : Int32} {bBe : Int32} {bFi : Int32} {bWa : Nat → Int32} {dB : Nat → Int32} {dS : Nat → Int32} {dN : Nat → Nat → Int64} {tC : Int32} {tKi : Nat → Int32} {tEa : Nat → Int32} {tHa : Nat → Int32} {tPr : Nat → Int32} {tEx : Nat → Int32} {tSt : Nat → Int32} {tTo : Nat → Int32} {tBe : Nat → Int32} {kC : Int32} {kKi : Nat → Int32} {kEa : Nat → Int32} {kHa : Nat → Int32} {kPr : Nat → Int32} {kEx : Nat → Int32} {kSt : Nat → Int32} {kTo : Nat → Int32} {kBe : Nat → Int32} {aC : Int32} {aWh : Nat → Int32} {aTa : Nat → Int32} {aWa : Nat → Int32} {iRo : Nat → Int32} {iEa : Nat → Int32} {iLa : Nat → Int32} {cC : Int32} {nC : Int32} {nFo : Int32} {nQd : Int32} {nRo : Nat → Int32} {nBe : Nat → Int32} {nEa : Nat → Int32} {nMi : Nat → Int32} {nHa : Nat → Int32} {nER : Nat → Int32} {nMR : Nat → Int32} {nTh : Nat → Int32} {nPa : Nat → Int32} {nOu : Nat → Int32} {nFr : Nat → Int32} {nQu : Nat → Int32} {eM : Nat} {eL : Nat → Int32} {eC : Nat → Int64} {eS : Nat → Int64} {eB : Nat → Nat → Int32} {eE : Nat → Nat → Int32} {eF : Nat → Nat → Int32} {eG : Nat → Nat → Int32}   {a1 : Int32} {a2 : Int32} {a3 : Int32} {Qp : (Nat → Int32) → (Nat → Int32) → Prop}   (h : wp_X4_flowBetween nTh nPa a1 a2 a3 Qp) : CTv l yX4_flowBetween wsX4_flowBetween rm_X4_flowBetween D (tyL cI cJ cZ cE cD cK) [.ref (ad 38), .int a1, .int a2, .int a3] (WC cI cJ cE cD ad bd dd bHK bHP bPF bWC bRi bBe bFi bWa dB dS dN tC tKi tEa tHa tPr tEx tSt tTo tBe kC kKi kEa kHa kPr kEx kSt kTo kBe aC aWh aTa aWa iRo iEa iLa cC nC nFo nQd nRo nBe nEa nMi nHa nER nMR nTh nPa nOu nFr nQu eM eL eC eS eB eE eF eG) (fun u : (Nat → Int32) × (Nat → Int32) => Qp u.1 u.2) (fun u : (Nat → Int32) × (Nat → Int32) => (WC cI cJ cE cD ad bd dd bHK bHP bPF bWC bRi bBe bFi bWa dB dS dN tC tKi tEa tHa tPr tEx tSt tTo tBe kC kKi kEa kHa kPr kEx kSt kTo kBe aC aWh aTa aWa iRo iEa iLa cC nC nFo nQd nRo nBe nEa nMi nHa nER nMR u.1 u.2 nOu nFr nQu eM eL eC eS eB eE eF eG)) 0 0 := by
  refine ent_v (cc := cX4_flowBetween) (maxL := 7) (ret := none) (by decide) rfl (Nat.le_of_ble_eq_true rfl) ?_
  intro p e s m args below meth c A Q hQ hx hb hr hml hown hts hlk hA hAB hP hD hS ls hl
  have hown : s.vm.findClass RX4 = some m.cls := hown
  have hl : lv_has ls 7 [(0, .ref (ad 38)), (1, .int a1), (2, .int a2), (3, .int a3)] := hl
  generalize hH : s.heap = H at hP ⊢
  have hS : va_S A s.heap H [] := by rw [← hH]; exact hS
  clear hH
  generalize ([] : List Loc) = locs at hS ⊢
  have B49 : ∀ (y_1 : Int32) (y_2 : Int32) (y_3 : Int32) (nTh_4 : Nat → Int32) (nPa_5 : Nat → Int32), wp_X4_flowBetween_b49 Qp y_1 y_2 y_3 nTh_4 nPa_5 → ∀ (H : Heap) (locs : List Loc) (ls : Array Slot), va_P D vwCl (WC cI cJ cE cD ad bd dd bHK bHP bPF bWC bRi bBe bFi bWa dB dS dN tC tKi tEa tHa tPr tEx tSt tTo tBe kC kKi kEa kHa kPr kEx kSt kTo kBe aC aWh aTa aWa iRo iEa iLa cC nC nFo nQd nRo nBe nEa nMi nHa nER nMR nTh_4 nPa_5 nOu nFr nQu eM eL eC eS eB eE eF eG) H → va_D A (WC cI cJ cE cD ad bd dd bHK bHP bPF bWC bRi bBe bFi bWa dB dS dN tC tKi tEa tHa tPr tEx tSt tTo tBe kC kKi kEa kHa kPr kEx kSt kTo kBe aC aWh aTa aWa iRo iEa iLa cC nC nFo nQd nRo nBe nEa nMi nHa nER nMR nTh_4 nPa_5 nOu nFr nQu eM eL eC eS eB eE eF eG) → va_S A s.heap H locs → lv_has ls 7 [] → W p l e (headSpec wsX4_flowBetween rm_X4_flowBetween).room s m args below meth c H locs 0 0 Q (F0 m 49 ls [.int y_3, .int y_2, .int y_1, .ref (ad 46)]) := by
    intro y_1 y_2 y_3 nTh_4 nPa_5 h H locs ls hP hD hS hl
    refine lv_iadd hx hb dX4_flowBetween_49 ?_
    refine sC_46 hx hb hAB hP hD hS h.1 dX4_flowBetween_50 (fun nTh_6 H locs e_7 hP hD hS => ?_)
    have h := h.2
    have h := h nTh_6 e_7
    refine lv_goto (tgt := 96) hx hb dX4_flowBetween_51 (by decide) ?_
    exact rt_v (nTh_6, nPa_5) hQ hx hb hr hlk hP hD hS ⟨Nat.zero_le _, Nat.zero_le _⟩ dX4_flowBetween_96 h
  have B21 : ∀ (y_10 : Int32) (x4_8 : Int32) (x5_9 : Int32) (nTh_11 : Nat → Int32) (nPa_12 : Nat → Int32), wp_X4_flowBetween_b21 Qp a3 y_10 x4_8 x5_9 nTh_11 nPa_12 → ∀ (H : Heap) (locs : List Loc) (ls : Array Slot), va_P D vwCl (WC cI cJ cE cD ad bd dd bHK bHP bPF bWC bRi bBe bFi bWa dB dS dN tC tKi tEa tHa tPr tEx tSt tTo tBe kC kKi kEa kHa kPr kEx kSt kTo kBe aC aWh aTa aWa iRo iEa iLa cC nC nFo nQd nRo nBe nEa nMi nHa nER nMR nTh_11 nPa_12 nOu nFr nQu eM eL eC eS eB eE eF eG) H → va_D A (WC cI cJ cE cD ad bd dd bHK bHP bPF bWC bRi bBe bFi bWa dB dS dN tC tKi tEa tHa tPr tEx tSt tTo tBe kC kKi kEa kHa kPr kEx kSt kTo kBe aC aWh aTa aWa iRo iEa iLa cC nC nFo nQd nRo nBe nEa nMi nHa nER nMR nTh_11 nPa_12 nOu nFr nQu eM eL eC eS eB eE eF eG) → va_S A s.heap H locs → lv_has ls 7 [(0, .ref (ad 38)), (3, .int a3), (4, .int x4_8), (5, .int x5_9)] → W p l e (headSpec wsX4_flowBetween rm_X4_flowBetween).room s m args below meth c H locs 0 0 Q (F0 m 21 ls [.int y_10]) := by
    intro y_10 x4_8 x5_9 nTh_11 nPa_12 h H locs ls hP hD hS hl
    refine lv_istore (lv' := [(6, .int y_10), (0, .ref (ad 38)), (3, .int a3), (4, .int x4_8), (5, .int x5_9)]) hx hb dX4_flowBetween_21 hl (by decide) rfl (fun ls hl => ?_)
    refine lv_iload hx hb dX4_flowBetween_23 (lv_at hl 4 rfl) ?_
    refine lv_iload hx hb dX4_flowBetween_25 (lv_at hl 3 rfl) ?_
    refine lv_icmp_ne (tgt := 54) hx hb dX4_flowBetween_27 (by decide) (fun c_13 => ?_) (fun c_13 => ?_)
    · have h := h.1 c_13
      refine lv_iload hx hb dX4_flowBetween_54 (lv_at hl 0 rfl) ?_
      refine lv_if_eq (tgt := 79) hx hb dX4_flowBetween_56 (by decide) (fun c_14 => ?_) (fun c_14 => ?_)
      · have h := h.1 c_14
        refine lv_aload_n hx hb dX4_flowBetween_79 rfl (lv_at hl 1 rfl) ?_
        refine va_get (D := D) (ci := 4) (C := RX4) (T := TX4) (N := 15) hx hb hts inn_X4_flowBetween_4 hown hAB.1 hP 38 rfl rfl 10 (by decide) (hts (.fieldLink RX4 36 "BarnBench$Net" "passed" "[I") (by decide +kernel)) (fun _ h9 => h9) rfl dX4_flowBetween_80 ?_
        refine lv_iload hx hb dX4_flowBetween_83 (lv_at hl 3 rfl) ?_
        refine lv_bipush (v := 12) hx hb dX4_flowBetween_85 (by decide) ?_
        refine lv_imul hx hb dX4_flowBetween_87 ?_
        refine lv_iload hx hb dX4_flowBetween_88 (lv_at hl 4 rfl) ?_
        refine lv_iadd hx hb dX4_flowBetween_90 ?_
        refine lv_dup2_11 hx hb dX4_flowBetween_91 rfl rfl ?_
        refine va_iald hx hb hAB.1 hP 47 0 rfl rfl h.1 dX4_flowBetween_92 ?_
        have h := h.2
        refine lv_iload_n hx hb dX4_flowBetween_93 rfl (lv_at hl 2 rfl) ?_
        refine lv_iadd hx hb dX4_flowBetween_94 ?_
        refine sC_47 hx hb hAB hP hD hS h.1 dX4_flowBetween_95 (fun nPa_15 H locs e_16 hP hD hS => ?_)
        have h := h.2
        have h := h nPa_15 e_16
        exact rt_v (nTh_11, nPa_15) hQ hx hb hr hlk hP hD hS ⟨Nat.zero_le _, Nat.zero_le _⟩ dX4_flowBetween_96 h
      · have h := h.2 c_14
        refine lv_aload_n hx hb dX4_flowBetween_59 rfl (lv_at hl 1 rfl) ?_
        refine va_get (D := D) (ci := 4) (C := RX4) (T := TX4) (N := 15) hx hb hts inn_X4_flowBetween_4 hown hAB.1 hP 38 rfl rfl 10 (by decide) (hts (.fieldLink RX4 36 "BarnBench$Net" "passed" "[I") (by decide +kernel)) (fun _ h9 => h9) rfl dX4_flowBetween_60 ?_
        refine lv_iload hx hb dX4_flowBetween_63 (lv_at hl 4 rfl) ?_
        refine lv_bipush (v := 12) hx hb dX4_flowBetween_65 (by decide) ?_
        refine lv_imul hx hb dX4_flowBetween_67 ?_
        refine lv_iload hx hb dX4_flowBetween_68 (lv_at hl 3 rfl) ?_
        refine lv_iadd hx hb dX4_flowBetween_70 ?_
        refine lv_dup2_11 hx hb dX4_flowBetween_71 rfl rfl ?_
        refine va_iald hx hb hAB.1 hP 47 0 rfl rfl h.1 dX4_flowBetween_72 ?_
        have h := h.2
        refine lv_iload_n hx hb dX4_flowBetween_73 rfl (lv_at hl 2 rfl) ?_
        refine lv_isub hx hb dX4_flowBetween_74 ?_
        refine sC_47 hx hb hAB hP hD hS h.1 dX4_flowBetween_75 (fun nPa_17 H locs e_18 hP hD hS => ?_)
        have h := h.2
        have h := h nPa_17 e_18
        refine lv_goto (tgt := 96) hx hb dX4_flowBetween_76 (by decide) ?_
        exact rt_v (nTh_11, nPa_17) hQ hx hb hr hlk hP hD hS ⟨Nat.zero_le _, Nat.zero_le _⟩ dX4_flowBetween_96 h
    · have h := h.2 c_13
      refine lv_aload_n hx hb dX4_flowBetween_30 rfl (lv_at hl 1 rfl) ?_
      refine va_get (D := D) (ci := 4) (C := RX4) (T := TX4) (N := 15) hx hb hts inn_X4_flowBetween_4 hown hAB.1 hP 38 rfl rfl 9 (by decide) (hts (.fieldLink RX4 33 "BarnBench$Net" "through" "[I") (by decide +kernel)) (fun _ h9 => h9) rfl dX4_flowBetween_31 ?_
      refine lv_iload hx hb dX4_flowBetween_34 (lv_at hl 3 rfl) ?_
      refine lv_dup2_11 hx hb dX4_flowBetween_36 rfl rfl ?_
      refine va_iald hx hb hAB.1 hP 46 0 rfl rfl h.1 dX4_flowBetween_37 ?_
      have h := h.2
      refine lv_iload hx hb dX4_flowBetween_38 (lv_at hl 0 rfl) ?_
      refine lv_if_eq (tgt := 47) hx hb dX4_flowBetween_40 (by decide) (fun c_19 => ?_) (fun c_19 => ?_)
      · have h := h.1 c_19
        refine lv_iload_n hx hb dX4_flowBetween_47 rfl (lv_at hl 2 rfl) ?_
        refine lv_ineg hx hb dX4_flowBetween_48 ?_
        exact B49 x4_8 (nTh_11 (Int32.toNatClampNeg x4_8)) (-a3) nTh_11 nPa_12 h H locs ls hP hD hS (lv_sub hl [] rfl)
      · have h := h.2 c_19
        refine lv_iload_n hx hb dX4_flowBetween_43 rfl (lv_at hl 2 rfl) ?_
        refine lv_goto (tgt := 49) hx hb dX4_flowBetween_44 (by decide) ?_
        exact B49 x4_8 (nTh_11 (Int32.toNatClampNeg x4_8)) a3 nTh_11 nPa_12 h H locs ls hP hD hS (lv_sub hl [] rfl)
  refine lv_iload_n hx hb dX4_flowBetween_0 rfl (lv_at hl 1 rfl) ?_
  refine lv_iconst (v := 2) hx hb dX4_flowBetween_1 (by decide) ?_
  refine lv_idiv hx hb dX4_flowBetween_2 (by decide) ?_
  refine lv_topi (fun x4_20 e_21 => ?_)
  have h := h x4_20 e_21
  refine lv_istore (lv' := [(4, .int x4_20), (0, .ref (ad 38)), (1, .int a1), (2, .int a2), (3, .int a3)]) hx hb dX4_flowBetween_3 hl (by decide) rfl (fun ls hl => ?_)
  refine lv_iload_n hx hb dX4_flowBetween_5 rfl (lv_at hl 3 rfl) ?_
  refine lv_iconst (v := 2) hx hb dX4_flowBetween_6 (by decide) ?_
  refine lv_idiv hx hb dX4_flowBetween_7 (by decide) ?_
  refine lv_topi (fun x5_22 e_23 => ?_)
  have h := h x5_22 e_23
  refine lv_istore (lv' := [(5, .int x5_22), (4, .int x4_20), (0, .ref (ad 38)), (1, .int a1), (2, .int a2), (3, .int a3)]) hx hb dX4_flowBetween_8 hl (by decide) rfl (fun ls hl => ?_)
  refine lv_iload_n hx hb dX4_flowBetween_10 rfl (lv_at hl 3 rfl) ?_
  refine lv_iconst (v := 2) hx hb dX4_flowBetween_11 (by decide) ?_
  refine lv_irem hx hb dX4_flowBetween_12 (by decide) ?_
  refine lv_if_ne (tgt := 20) hx hb dX4_flowBetween_13 (by decide) (fun c_24 => ?_) (fun c_24 => ?_)
  · have h := h.1 c_24
    refine lv_iconst (v := 0) hx hb dX4_flowBetween_20 (by decide) ?_
    exact B21 0 x4_20 x5_22 nTh nPa h H locs ls hP hD hS (lv_sub hl [2, 5, 1, 0] rfl)
  · have h := h.2 c_24
    refine lv_iconst (v := 1) hx hb dX4_flowBetween_16 (by decide) ?_
    refine lv_goto (tgt := 21) hx hb dX4_flowBetween_17 (by decide) ?_
    exact B21 1 x4_20 x5_22 nTh nPa h H locs ls hP hD hS (lv_sub hl [2, 5, 1, 0] rfl)
def wp_X4_flowAlong_L9 (a2 : Int32) (nFr : Nat → Int32) (x9 : (Nat → Int32) → (Nat → Int32) → Prop) : Nat → (Int32) → (Int32) → (Nat → Int32) → (Nat → Int32) → Prop
  | 0, _, _, _, _ => False
  | n9 + 1, x3_3, x4_4, nTh_5, nPa_6 =>
  ((24 ≤ x4_4 → x9 nTh_5 nPa_6) ∧
   (¬ 24 ≤ x4_4 → vp_in x3_3 24 ∧ (((nFr (Int32.toNatClampNeg x3_3)) < 0 → x9 nTh_5 nPa_6) ∧
   (¬ (nFr (Int32.toNatClampNeg x3_3)) < 0 → vp_in x3_3 24 ∧ wp_X4_flowBetween nTh_5 nPa_6 (nFr (Int32.toNatClampNeg x3_3)) x3_3 a2 (fun (nTh_11 : Nat → Int32) (nPa_12 : Nat → Int32) => vp_in x3_3 24 ∧ ∀ x3_13 : Int32, x3_13 = (nFr (Int32.toNatClampNeg x3_3)) → ∀ x4_15 : Int32, x4_15 = x4_4 + 1 → (wp_X4_flowAlong_L9 a2 nFr x9 n9) x3_13 x4_15 nTh_11 nPa_12)))))
def wp_X4_flowAlong (nTh : Nat → Int32) (nPa : Nat → Int32) (nOu : Nat → Int32) (nFr : Nat → Int32) (a1 : Int32) (a2 : Int32) (Qp : (Nat → Int32) → (Nat → Int32) → (Nat → Int32) → Prop) : Prop :=
  ∀ x3_1 : Int32, x3_1 = ((2 * a1) + 1) → (∃ n9 : Nat, wp_X4_flowAlong_L9 a2 nFr (fun (nTh_7 : Nat → Int32) (nPa_8 : Nat → Int32) => vp_in a1 12 ∧ vp_in a1 12 ∧ ∀ nOu_17 : Nat → Int32, nOu_17 = upd nOu (Int32.toNatClampNeg a1) ((nOu (Int32.toNatClampNeg a1)) + a2) → Qp nTh_7 nPa_8 nOu_17) n9 x3_1 0 nTh nPa)
theorem inn_X4_flowAlong_4 : ∀ w ∈ u_ws RX4 TX4 15, w ∈ wsX4_flowAlong := fun _ h => List.mem_cons_of_mem _ (List.mem_append_right _ h)
def rm_X4_flowAlong : Room := { frames := 1, cells := 0, slots := 0, locals := 26 }
set_option maxHeartbeats 4000000 in
set_option maxRecDepth 100000 in
theorem ct_X4_flowAlong {l : Launch} {D : va_G} {cI cJ cZ cE cD cK : ClassId} {ad : Nat → Nat} {bd dd : Nat → Nat → Nat} {bHK : Int32} {bHP : Int32} {bPF : Int32} {bWC : Int32} {bRi : Int32} {bBe : Int32} {bFi : Int32} {bWa : Nat → Int32} {dB : Nat → Int32} {dS : Nat → Int32} {dN : Nat → Nat → Int64} {tC : Int32} {tKi : Nat → Int32} {tEa : Nat → Int32} {tHa : Nat → Int32} {tPr : Nat → Int32} {tEx : Nat → Int32} {tSt : Nat → Int32} {tTo : Nat → Int32} {tBe : Nat → Int32} {kC : Int32} {kKi : Nat → Int32} {kEa : Nat → Int32} {kHa : Nat → Int32} {kPr : Nat → Int32} {kEx : Nat → Int32} {kSt : Nat → Int32} {kTo : Nat → Int32} {kBe : Nat → Int32} {aC : Int32} {aWh : Nat → Int32} {aTa : Nat → Int32} {aWa : Nat → Int32} {iRo : Nat → Int32} {iEa : Nat → Int32} {iLa : Nat → Int32} {cC : Int32} {nC : Int32} {nFo : Int32} {nQd : Int32} {nRo : Nat → Int32} {nBe : Nat → Int32} {nEa : Nat → Int32} {nMi : Nat → Int32} {nHa : Nat → Int32} {nER : Nat → Int32} {nMR : Nat → Int32} {nTh : Nat → Int32} {nPa : Nat → Int32} {nOu : Nat → Int32} {nFr : Nat → Int32} {nQu : Nat → Int32} {eM : Nat} {eL : Nat → Int32} {eC : Nat → Int64} {eS : Nat → Int64} {eB : Nat → Nat → Int32} {eE : Nat → Nat → Int32} {eF : Nat → Nat → Int32} {eG : Nat → Nat → Int32}   {a1 : Int32} {a2 : Int32} {Qp : (Nat → Int32) → (Nat → Int32) → (Nat → Int32) → Prop}   (h : wp_X4_flowAlong nTh nPa nOu nFr a1 a2 Qp) : CTv l yX4_flowAlong wsX4_flowAlong rm_X4_flowAlong D (tyL cI cJ cZ cE cD cK) [.ref (ad 38), .int a1, .int a2] (WC cI cJ cE cD ad bd dd bHK bHP bPF bWC bRi bBe bFi bWa dB dS dN tC tKi tEa tHa tPr tEx tSt tTo tBe kC kKi kEa kHa kPr kEx kSt kTo kBe aC aWh aTa aWa iRo iEa iLa cC nC nFo nQd nRo nBe nEa nMi nHa nER nMR nTh nPa nOu nFr nQu eM eL eC eS eB eE eF eG) (fun u : (Nat → Int32) × (Nat → Int32) × (Nat → Int32) => Qp u.1 u.2.1 u.2.2) (fun u : (Nat → Int32) × (Nat → Int32) × (Nat → Int32) => (WC cI cJ cE cD ad bd dd bHK bHP bPF bWC bRi bBe bFi bWa dB dS dN tC tKi tEa tHa tPr tEx tSt tTo tBe kC kKi kEa kHa kPr kEx kSt kTo kBe aC aWh aTa aWa iRo iEa iLa cC nC nFo nQd nRo nBe nEa nMi nHa nER nMR u.1 u.2.1 u.2.2 nFr nQu eM eL eC eS eB eE eF eG)) 0 0 := by
  refine ent_v (cc := cX4_flowAlong) (maxL := 5) (ret := none) (by decide) rfl (Nat.le_of_ble_eq_true rfl) ?_
  intro p e s m args below meth c A Q hQ hx hb hr hml hown hts hlk hA hAB hP hD hS ls hl
  have hown : s.vm.findClass RX4 = some m.cls := hown
  have hl : lv_has ls 5 [(0, .ref (ad 38)), (1, .int a1), (2, .int a2)] := hl
  generalize hH : s.heap = H at hP ⊢
  have hS : va_S A s.heap H [] := by rw [← hH]; exact hS
  clear hH
  generalize ([] : List Loc) = locs at hS ⊢
  refine lv_iconst (v := 2) hx hb dX4_flowAlong_0 (by decide) ?_
  refine lv_iload_n hx hb dX4_flowAlong_1 rfl (lv_at hl 1 rfl) ?_
  refine lv_imul hx hb dX4_flowAlong_2 ?_
  refine lv_iconst (v := 1) hx hb dX4_flowAlong_3 (by decide) ?_
  refine lv_iadd hx hb dX4_flowAlong_4 ?_
  refine lv_topi (fun x3_1 e_2 => ?_)
  have h := h x3_1 e_2
  refine lv_istore_n (lv' := [(3, .int x3_1), (0, .ref (ad 38)), (1, .int a1), (2, .int a2)]) hx hb dX4_flowAlong_5 rfl hl (by decide) rfl (fun ls hl => ?_)
  refine lv_iconst (v := 0) hx hb dX4_flowAlong_6 (by decide) ?_
  refine lv_istore (lv' := [(4, .int 0), (3, .int x3_1), (0, .ref (ad 38)), (1, .int a1), (2, .int a2)]) hx hb dX4_flowAlong_7 hl (by decide) rfl (fun ls hl => ?_)
  have L9 : ∀ (x9 : (Nat → Int32) → (Nat → Int32) → Prop) (hk9 : ∀ (nTh_7 : Nat → Int32) (nPa_8 : Nat → Int32), x9 nTh_7 nPa_8 → ∀ (H : Heap) (locs : List Loc) (ls : Array Slot), va_P D vwCl (WC cI cJ cE cD ad bd dd bHK bHP bPF bWC bRi bBe bFi bWa dB dS dN tC tKi tEa tHa tPr tEx tSt tTo tBe kC kKi kEa kHa kPr kEx kSt kTo kBe aC aWh aTa aWa iRo iEa iLa cC nC nFo nQd nRo nBe nEa nMi nHa nER nMR nTh_7 nPa_8 nOu nFr nQu eM eL eC eS eB eE eF eG) H → va_D A (WC cI cJ cE cD ad bd dd bHK bHP bPF bWC bRi bBe bFi bWa dB dS dN tC tKi tEa tHa tPr tEx tSt tTo tBe kC kKi kEa kHa kPr kEx kSt kTo kBe aC aWh aTa aWa iRo iEa iLa cC nC nFo nQd nRo nBe nEa nMi nHa nER nMR nTh_7 nPa_8 nOu nFr nQu eM eL eC eS eB eE eF eG) → va_S A s.heap H locs → lv_has ls 5 [(0, .ref (ad 38)), (1, .int a1), (2, .int a2)] → W p l e (headSpec wsX4_flowAlong rm_X4_flowAlong).room s m args below meth c H locs 0 0 Q (F0 m 50 ls [])) (n9 : Nat) (x3_3 : Int32) (x4_4 : Int32) (nTh_5 : Nat → Int32) (nPa_6 : Nat → Int32), wp_X4_flowAlong_L9 a2 nFr x9 n9 x3_3 x4_4 nTh_5 nPa_6 → ∀ (H : Heap) (locs : List Loc) (ls : Array Slot), va_P D vwCl (WC cI cJ cE cD ad bd dd bHK bHP bPF bWC bRi bBe bFi bWa dB dS dN tC tKi tEa tHa tPr tEx tSt tTo tBe kC kKi kEa kHa kPr kEx kSt kTo kBe aC aWh aTa aWa iRo iEa iLa cC nC nFo nQd nRo nBe nEa nMi nHa nER nMR nTh_5 nPa_6 nOu nFr nQu eM eL eC eS eB eE eF eG) H → va_D A (WC cI cJ cE cD ad bd dd bHK bHP bPF bWC bRi bBe bFi bWa dB dS dN tC tKi tEa tHa tPr tEx tSt tTo tBe kC kKi kEa kHa kPr kEx kSt kTo kBe aC aWh aTa aWa iRo iEa iLa cC nC nFo nQd nRo nBe nEa nMi nHa nER nMR nTh_5 nPa_6 nOu nFr nQu eM eL eC eS eB eE eF eG) → va_S A s.heap H locs → lv_has ls 5 [(0, .ref (ad 38)), (1, .int a1), (2, .int a2), (3, .int x3_3), (4, .int x4_4)] → W p l e (headSpec wsX4_flowAlong rm_X4_flowAlong).room s m args below meth c H locs 0 0 Q (F0 m 9 ls []) := by
    intro x9 hk9 n9
    induction n9 with
    | zero => intro x3_3 x4_4 nTh_5 nPa_6 h; exact False.elim h
    | succ n9 ih9 =>
      intro x3_3 x4_4 nTh_5 nPa_6 h H locs ls hP hD hS hl
      refine lv_iload hx hb dX4_flowAlong_9 (lv_at hl 4 rfl) ?_
      refine lv_bipush (v := 24) hx hb dX4_flowAlong_11 (by decide) ?_
      refine lv_icmp_ge (tgt := 50) hx hb dX4_flowAlong_13 (by decide) (fun c_9 => ?_) (fun c_9 => ?_)
      · have h := h.1 c_9
        exact hk9 nTh_5 nPa_6 h H locs ls hP hD hS (lv_sub hl [0, 1, 2] rfl)
      · have h := h.2 c_9
        refine lv_aload_n hx hb dX4_flowAlong_16 rfl (lv_at hl 0 rfl) ?_
        refine va_get (D := D) (ci := 4) (C := RX4) (T := TX4) (N := 15) hx hb hts inn_X4_flowAlong_4 hown hAB.1 hP 38 rfl rfl 12 (by decide) (hts (.fieldLink RX4 42 "BarnBench$Net" "from" "[I") (by decide +kernel)) (fun _ h9 => h9) rfl dX4_flowAlong_17 ?_
        refine lv_iload_n hx hb dX4_flowAlong_20 rfl (lv_at hl 3 rfl) ?_
        refine va_iald hx hb hAB.1 hP 49 0 rfl rfl h.1 dX4_flowAlong_21 ?_
        have h := h.2
        refine lv_if_lt (tgt := 50) hx hb dX4_flowAlong_22 (by decide) (fun c_10 => ?_) (fun c_10 => ?_)
        · have h := h.1 c_10
          exact hk9 nTh_5 nPa_6 h H locs ls hP hD hS (lv_sub hl [0, 1, 2] rfl)
        · have h := h.2 c_10
          refine lv_aload_n hx hb dX4_flowAlong_25 rfl (lv_at hl 0 rfl) ?_
          refine lv_aload_n hx hb dX4_flowAlong_26 rfl (lv_at hl 0 rfl) ?_
          refine va_get (D := D) (ci := 4) (C := RX4) (T := TX4) (N := 15) hx hb hts inn_X4_flowAlong_4 hown hAB.1 hP 38 rfl rfl 12 (by decide) (hts (.fieldLink RX4 42 "BarnBench$Net" "from" "[I") (by decide +kernel)) (fun _ h9 => h9) rfl dX4_flowAlong_27 ?_
          refine lv_iload_n hx hb dX4_flowAlong_30 rfl (lv_at hl 3 rfl) ?_
          refine va_iald hx hb hAB.1 hP 49 0 rfl rfl h.1 dX4_flowAlong_31 ?_
          have h := h.2
          refine lv_iload_n hx hb dX4_flowAlong_32 rfl (lv_at hl 3 rfl) ?_
          refine lv_iload_n hx hb dX4_flowAlong_33 rfl (lv_at hl 2 rfl) ?_
          refine cl_v hD hS hA (va_runV (As := [.int (nFr (Int32.toNatClampNeg x3_3)), .int x3_3, .int a2]) (rest := []) ⟨hx, hb, hml, hown, hts⟩ (ct_X4_flowBetween h H.size) (cwV 3 hts gX4_flowAlong_X4_flowBetween rfl rfl rfl (by decide +kernel) ⟨Nat.le_of_ble_eq_true rfl, Nat.le_of_ble_eq_true rfl⟩) ⟨CPre.blind, va_recv hAB.1 hP (ci := 4) (q0 := 38) rfl rfl, wd_pre hAB hP hD hS hA⟩ rfl rfl hl.1 rfl (lv_room (Nat.le_of_ble_eq_true rfl)) dX4_flowAlong_34 ⟨Nat.zero_le _, Nat.zero_le _⟩) (fun u H locs h hP hD hS => ?_)
          obtain ⟨nTh_11, nPa_12⟩ := u
          have hP : va_P D vwCl (WC cI cJ cE cD ad bd dd bHK bHP bPF bWC bRi bBe bFi bWa dB dS dN tC tKi tEa tHa tPr tEx tSt tTo tBe kC kKi kEa kHa kPr kEx kSt kTo kBe aC aWh aTa aWa iRo iEa iLa cC nC nFo nQd nRo nBe nEa nMi nHa nER nMR nTh_11 nPa_12 nOu nFr nQu eM eL eC eS eB eE eF eG) H := hP
          have hD : va_D A (WC cI cJ cE cD ad bd dd bHK bHP bPF bWC bRi bBe bFi bWa dB dS dN tC tKi tEa tHa tPr tEx tSt tTo tBe kC kKi kEa kHa kPr kEx kSt kTo kBe aC aWh aTa aWa iRo iEa iLa cC nC nFo nQd nRo nBe nEa nMi nHa nER nMR nTh_11 nPa_12 nOu nFr nQu eM eL eC eS eB eE eF eG) := hD
          refine lv_aload_n hx hb dX4_flowAlong_37 rfl (lv_at hl 0 rfl) ?_
          refine va_get (D := D) (ci := 4) (C := RX4) (T := TX4) (N := 15) hx hb hts inn_X4_flowAlong_4 hown hAB.1 hP 38 rfl rfl 12 (by decide) (hts (.fieldLink RX4 42 "BarnBench$Net" "from" "[I") (by decide +kernel)) (fun _ h9 => h9) rfl dX4_flowAlong_38 ?_
          refine lv_iload_n hx hb dX4_flowAlong_41 rfl (lv_at hl 3 rfl) ?_
          refine va_iald hx hb hAB.1 hP 49 0 rfl rfl h.1 dX4_flowAlong_42 ?_
          have h := h.2
          refine lv_topi (fun x3_13 e_14 => ?_)
          have h := h x3_13 e_14
          refine lv_istore_n (lv' := [(3, .int x3_13), (0, .ref (ad 38)), (1, .int a1), (2, .int a2), (4, .int x4_4)]) hx hb dX4_flowAlong_43 rfl hl (by decide) rfl (fun ls hl => ?_)
          obtain ⟨x4_15, e_16⟩ : ∃ y : Int32, y = x4_4 + 1 := ⟨_, rfl⟩
          have h := h x4_15 e_16
          refine lv_iinc (v := x4_15) (lv' := [(4, .int x4_15), (3, .int x3_13), (0, .ref (ad 38)), (1, .int a1), (2, .int a2)]) hx hb dX4_flowAlong_44 hl (k := 4) rfl (by rw [e_16]; rfl) (by decide) rfl (fun ls hl => ?_)
          refine lv_goto (tgt := 9) hx hb dX4_flowAlong_47 (by decide) ?_
          exact ih9 x3_13 x4_15 nTh_11 nPa_12 h H locs ls hP hD hS (lv_sub hl [2, 3, 4, 1, 0] rfl)
  obtain ⟨n9, h⟩ := h
  refine L9 _ (fun nTh_7 nPa_8 h H locs ls hP hD hS hl => ?_) n9 x3_1 0 nTh nPa h H locs ls hP hD hS (lv_sub hl [2, 3, 4, 1, 0] rfl)
  refine lv_aload_n hx hb dX4_flowAlong_50 rfl (lv_at hl 0 rfl) ?_
  refine va_get (D := D) (ci := 4) (C := RX4) (T := TX4) (N := 15) hx hb hts inn_X4_flowAlong_4 hown hAB.1 hP 38 rfl rfl 11 (by decide) (hts (.fieldLink RX4 39 "BarnBench$Net" "out" "[I") (by decide +kernel)) (fun _ h9 => h9) rfl dX4_flowAlong_51 ?_
  refine lv_iload_n hx hb dX4_flowAlong_54 rfl (lv_at hl 1 rfl) ?_
  refine lv_dup2_11 hx hb dX4_flowAlong_55 rfl rfl ?_
  refine va_iald hx hb hAB.1 hP 48 0 rfl rfl h.1 dX4_flowAlong_56 ?_
  have h := h.2
  refine lv_iload_n hx hb dX4_flowAlong_57 rfl (lv_at hl 2 rfl) ?_
  refine lv_iadd hx hb dX4_flowAlong_58 ?_
  refine sC_48 hx hb hAB hP hD hS h.1 dX4_flowAlong_59 (fun nOu_17 H locs e_18 hP hD hS => ?_)
  have h := h.2
  have h := h nOu_17 e_18
  exact rt_v (nTh_7, nPa_8, nOu_17) hQ hx hb hr hlk hP hD hS ⟨Nat.zero_le _, Nat.zero_le _⟩ dX4_flowAlong_60 h
