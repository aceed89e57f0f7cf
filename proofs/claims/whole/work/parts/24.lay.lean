def wp_X4_layPairs_b37 (k5 : (Int32) → (Int32) → Prop) (x3_4 : Int32) (x4_5 : Int32) : Prop :=
  ∀ x4_6 : Int32, x4_6 = x4_5 + 1 → k5 x3_4 x4_6
def wp_X4_layPairs_L5 (a2 : Int32) (nC : Int32) (tBe : Nat → Int32) (tC : Int32) (x5 : (Int32) → Prop) : Nat → (Int32) → (Int32) → Prop
  | 0, _, _ => False
  | n5 + 1, x3_1, x4_2 =>
  ((nC ≤ x4_2 → x5 x3_1) ∧
   (¬ nC ≤ x4_2 → vp_in a2 12 ∧ wp_X7_hasBit (tBe (Int32.toNatClampNeg a2)) x4_2 (fun (r_9 : Int32) => ((r_9 = 0 → wp_X4_layPairs_b37 (wp_X4_layPairs_L5 a2 nC tBe tC x5 n5) x3_1 x4_2) ∧
   (¬ r_9 = 0 → wp_X5_allBefore tC tBe x4_2 (fun (r_11 : Int32) => ∀ x3_12 : Int32, x3_12 = (x3_1 ||| r_11) → wp_X4_layPairs_b37 (wp_X4_layPairs_L5 a2 nC tBe tC x5 n5) x3_12 x4_2))))))
def wp_X4_layPairs (tC : Int32) (tBe : Nat → Int32) (nC : Int32) (nFo : Int32) (nBe : Nat → Int32) (a2 : Int32) (Qp : (Int32) → (Nat → Int32) → Prop) : Prop :=
  (∃ n5 : Nat, wp_X4_layPairs_L5 a2 nC tBe tC (fun (x3_3 : Int32) => vp_in a2 12 ∧ vp_in a2 12 ∧ ∀ nBe_14 : Nat → Int32, nBe_14 = upd nBe (Int32.toNatClampNeg a2) ((tBe (Int32.toNatClampNeg a2)) &&& (x3_3 ^^^ (-1))) → vp_in a2 12 ∧ ∀ nFo_16 : Int32, nFo_16 = (nFo ||| (nBe_14 (Int32.toNatClampNeg a2))) → Qp nFo_16 nBe_14) n5 0 0)
theorem inn_X4_layPairs_4 : ∀ w ∈ u_ws RX4 TX4 15, w ∈ wsX4_layPairs := fun _ h => List.mem_cons_of_mem _ (List.mem_append_left _ (List.mem_append_right _ h))
theorem inn_X4_layPairs_5 : ∀ w ∈ u_ws RX5 TX5 9, w ∈ wsX4_layPairs := fun _ h => List.mem_cons_of_mem _ (List.mem_append_right _ h)
def rm_X4_layPairs : Room := { frames := 2, cells := 0, slots := 0, locals := 46 }
set_option maxHeartbeats 4000000 in
set_option maxRecDepth 100000 in
theorem ct_X4_layPairs {l : Launch} {D : va_G} {cI cJ cZ cE cD cK : ClassId} {ad : Nat → Nat} {bd dd : Nat → Nat → Nat} {bHK : Int32} {bHP : Int32} {bPF : Int32} {bWC : Int32} {bRi : Int32} {bBe : Int32} {bFi : Int32} {bWa : Nat → Int32} {dB : Nat → Int32} {dS : Nat → Int32} {dN : Nat → Nat → Int64} {tC : Int32} {tKi : Nat → Int32} {tEa : Nat → Int32} {tHa : Nat → Int32} {tPr : Nat → Int32} {tEx : Nat → Int32} {tSt : Nat → Int32} {tTo : Nat → Int32} {tBe : Nat → Int32} {kC : Int32} {kKi : Nat → Int32} {kEa : Nat → Int32} {kHa : Nat → Int32} {kPr : Nat → Int32} {kEx : Nat → Int32} {kSt : Nat → Int32} {kTo : Nat → Int32} {kBe : Nat → Int32} {aC : Int32} {aWh : Nat → Int32} {aTa : Nat → Int32} {aWa : Nat → Int32} {iRo : Nat → Int32} {iEa : Nat → Int32} {iLa : Nat → Int32} {cC : Int32} {nC : Int32} {nFo : Int32} {nQd : Int32} {nRo : Nat → Int32} {nBe : Nat → Int32} {nEa : Nat → Int32} {nMi : Nat → Int32} {nHa : Nat → Int32} {nER : Nat → Int32} {nMR : Nat → Int32} {nTh : Nat → Int32} {nPa : Nat → Int32} {nOu : Nat → Int32} {nFr : Nat → Int32} {nQu : Nat → Int32} {eM : Nat} {eL : Nat → Int32} {eC : Nat → Int64} {eS : Nat → Int64} {eB : Nat → Nat → Int32} {eE : Nat → Nat → Int32} {eF : Nat → Nat → Int32} {eG : Nat → Nat → Int32}   {a2 : Int32} {Qp : (Int32) → (Nat → Int32) → Prop}   (h : wp_X4_layPairs tC tBe nC nFo nBe a2 Qp) : CTv l yX4_layPairs wsX4_layPairs rm_X4_layPairs D (tyL cI cJ cZ cE cD cK) [.ref (ad 38), .ref (ad 10), .int a2] (WC cI cJ cE cD ad bd dd bHK bHP bPF bWC bRi bBe bFi bWa dB dS dN tC tKi tEa tHa tPr tEx tSt tTo tBe kC kKi kEa kHa kPr kEx kSt kTo kBe aC aWh aTa aWa iRo iEa iLa cC nC nFo nQd nRo nBe nEa nMi nHa nER nMR nTh nPa nOu nFr nQu eM eL eC eS eB eE eF eG) (fun u : (Int32) × (Nat → Int32) => Qp u.1 u.2) (fun u : (Int32) × (Nat → Int32) => (WC cI cJ cE cD ad bd dd bHK bHP bPF bWC bRi bBe bFi bWa dB dS dN tC tKi tEa tHa tPr tEx tSt tTo tBe kC kKi kEa kHa kPr kEx kSt kTo kBe aC aWh aTa aWa iRo iEa iLa cC nC u.1 nQd nRo u.2 nEa nMi nHa nER nMR nTh nPa nOu nFr nQu eM eL eC eS eB eE eF eG)) 0 0 := by
  refine ent_v (cc := cX4_layPairs) (maxL := 5) (ret := none) (by decide) rfl (Nat.le_of_ble_eq_true rfl) ?_
  intro p e s m args below meth c A Q hQ hx hb hr hml hown hts hlk hA hAB hP hD hS ls hl
  have hown : s.vm.findClass RX4 = some m.cls := hown
  have hl : lv_has ls 5 [(0, .ref (ad 38)), (1, .ref (ad 10)), (2, .int a2)] := hl
  generalize hH : s.heap = H at hP ⊢
  have hS : va_S A s.heap H [] := by rw [← hH]; exact hS
  clear hH
  generalize ([] : List Loc) = locs at hS ⊢
  refine lv_iconst (v := 0) hx hb dX4_layPairs_0 (by decide) ?_
  refine lv_istore_n (lv' := [(3, .int 0), (0, .ref (ad 38)), (1, .ref (ad 10)), (2, .int a2)]) hx hb dX4_layPairs_1 rfl hl (by decide) rfl (fun ls hl => ?_)
  refine lv_iconst (v := 0) hx hb dX4_layPairs_2 (by decide) ?_
  refine lv_istore (lv' := [(4, .int 0), (3, .int 0), (0, .ref (ad 38)), (1, .ref (ad 10)), (2, .int a2)]) hx hb dX4_layPairs_3 hl (by decide) rfl (fun ls hl => ?_)
  have L5 : ∀ (x5 : (Int32) → Prop) (hk5 : ∀ (x3_3 : Int32), x5 x3_3 → ∀ (H : Heap) (locs : List Loc) (ls : Array Slot), va_P D vwCl (WC cI cJ cE cD ad bd dd bHK bHP bPF bWC bRi bBe bFi bWa dB dS dN tC tKi tEa tHa tPr tEx tSt tTo tBe kC kKi kEa kHa kPr kEx kSt kTo kBe aC aWh aTa aWa iRo iEa iLa cC nC nFo nQd nRo nBe nEa nMi nHa nER nMR nTh nPa nOu nFr nQu eM eL eC eS eB eE eF eG) H → va_D A (WC cI cJ cE cD ad bd dd bHK bHP bPF bWC bRi bBe bFi bWa dB dS dN tC tKi tEa tHa tPr tEx tSt tTo tBe kC kKi kEa kHa kPr kEx kSt kTo kBe aC aWh aTa aWa iRo iEa iLa cC nC nFo nQd nRo nBe nEa nMi nHa nER nMR nTh nPa nOu nFr nQu eM eL eC eS eB eE eF eG) → va_S A s.heap H locs → lv_has ls 5 [(0, .ref (ad 38)), (1, .ref (ad 10)), (2, .int a2), (3, .int x3_3)] → W p l e (headSpec wsX4_layPairs rm_X4_layPairs).room s m args below meth c H locs 0 0 Q (F0 m 43 ls [])) (n5 : Nat) (x3_1 : Int32) (x4_2 : Int32), wp_X4_layPairs_L5 a2 nC tBe tC x5 n5 x3_1 x4_2 → ∀ (H : Heap) (locs : List Loc) (ls : Array Slot), va_P D vwCl (WC cI cJ cE cD ad bd dd bHK bHP bPF bWC bRi bBe bFi bWa dB dS dN tC tKi tEa tHa tPr tEx tSt tTo tBe kC kKi kEa kHa kPr kEx kSt kTo kBe aC aWh aTa aWa iRo iEa iLa cC nC nFo nQd nRo nBe nEa nMi nHa nER nMR nTh nPa nOu nFr nQu eM eL eC eS eB eE eF eG) H → va_D A (WC cI cJ cE cD ad bd dd bHK bHP bPF bWC bRi bBe bFi bWa dB dS dN tC tKi tEa tHa tPr tEx tSt tTo tBe kC kKi kEa kHa kPr kEx kSt kTo kBe aC aWh aTa aWa iRo iEa iLa cC nC nFo nQd nRo nBe nEa nMi nHa nER nMR nTh nPa nOu nFr nQu eM eL eC eS eB eE eF eG) → va_S A s.heap H locs → lv_has ls 5 [(0, .ref (ad 38)), (1, .ref (ad 10)), (2, .int a2), (3, .int x3_1), (4, .int x4_2)] → W p l e (headSpec wsX4_layPairs rm_X4_layPairs).room s m args below meth c H locs 0 0 Q (F0 m 5 ls []) := by
    intro x5 hk5 n5
    induction n5 with
    | zero => intro x3_1 x4_2 h; exact False.elim h
    | succ n5 ih5 =>
      intro x3_1 x4_2 h H locs ls hP hD hS hl
      have B37 : ∀ (x3_4 : Int32) (x4_5 : Int32), wp_X4_layPairs_b37 (wp_X4_layPairs_L5 a2 nC tBe tC x5 n5) x3_4 x4_5 → ∀ (H : Heap) (locs : List Loc) (ls : Array Slot), va_P D vwCl (WC cI cJ cE cD ad bd dd bHK bHP bPF bWC bRi bBe bFi bWa dB dS dN tC tKi tEa tHa tPr tEx tSt tTo tBe kC kKi kEa kHa kPr kEx kSt kTo kBe aC aWh aTa aWa iRo iEa iLa cC nC nFo nQd nRo nBe nEa nMi nHa nER nMR nTh nPa nOu nFr nQu eM eL eC eS eB eE eF eG) H → va_D A (WC cI cJ cE cD ad bd dd bHK bHP bPF bWC bRi bBe bFi bWa dB dS dN tC tKi tEa tHa tPr tEx tSt tTo tBe kC kKi kEa kHa kPr kEx kSt kTo kBe aC aWh aTa aWa iRo iEa iLa cC nC nFo nQd nRo nBe nEa nMi nHa nER nMR nTh nPa nOu nFr nQu eM eL eC eS eB eE eF eG) → va_S A s.heap H locs → lv_has ls 5 [(0, .ref (ad 38)), (1, .ref (ad 10)), (2, .int a2), (3, .int x3_4), (4, .int x4_5)] → W p l e (headSpec wsX4_layPairs rm_X4_layPairs).room s m args below meth c H locs 0 0 Q (F0 m 37 ls []) := by
        intro x3_4 x4_5 h H locs ls hP hD hS hl
        obtain ⟨x4_6, e_7⟩ : ∃ y : Int32, y = x4_5 + 1 := ⟨_, rfl⟩
        have h := h x4_6 e_7
        refine lv_iinc (v := x4_6) (lv' := [(4, .int x4_6), (0, .ref (ad 38)), (1, .ref (ad 10)), (2, .int a2), (3, .int x3_4)]) hx hb dX4_layPairs_37 hl (k := 4) rfl (by rw [e_7]; rfl) (by decide) rfl (fun ls hl => ?_)
        refine lv_goto (tgt := 5) hx hb dX4_layPairs_40 (by decide) ?_
        exact ih5 x3_4 x4_6 h H locs ls hP hD hS (lv_sub hl [1, 2, 3, 4, 0] rfl)
      refine lv_iload hx hb dX4_layPairs_5 (lv_at hl 4 rfl) ?_
      refine lv_aload_n hx hb dX4_layPairs_7 rfl (lv_at hl 0 rfl) ?_
      refine va_get (D := D) (ci := 4) (C := RX4) (T := TX4) (N := 15) hx hb hts inn_X4_layPairs_4 hown hAB.1 hP 38 rfl rfl 0 (by decide) (hts (.fieldLink RX4 54 "BarnBench$Net" "count" "I") (by decide +kernel)) (fun _ h9 => h9) rfl dX4_layPairs_8 ?_
      refine lv_icmp_ge (tgt := 43) hx hb dX4_layPairs_11 (by decide) (fun c_8 => ?_) (fun c_8 => ?_)
      · have h := h.1 c_8
        exact hk5 x3_1 h H locs ls hP hD hS (lv_sub hl [0, 1, 2, 3] rfl)
      · have h := h.2 c_8
        refine lv_aload_n hx hb dX4_layPairs_14 rfl (lv_at hl 1 rfl) ?_
        refine va_get (D := D) (ci := 5) (C := RX5) (T := TX5) (N := 9) hx hb hts inn_X4_layPairs_5 hown hAB.1 hP 10 rfl rfl 8 (by decide) (hts (.fieldLink RX4 75 "BarnBench$Tasks" "before" "[I") (by decide +kernel)) (fun _ h9 => h9) rfl dX4_layPairs_15 ?_
        refine lv_iload_n hx hb dX4_layPairs_18 rfl (lv_at hl 2 rfl) ?_
        refine va_iald hx hb hAB.1 hP 18 0 rfl rfl h.1 dX4_layPairs_19 ?_
        have h := h.2
        refine lv_iload hx hb dX4_layPairs_20 (lv_at hl 4 rfl) ?_
        refine cl_i hD hS hA (va_runSN (As := [.int (tBe (Int32.toNatClampNeg a2)), .int x4_2]) (rest := []) ⟨hx, hb, hml, hown, hts⟩ (ct_X7_hasBit h H.size) ⟨va_cnB 2 hts gX4_layPairs_X7_hasBit_n76 rfl rfl rfl (hAB.2.1 (.methodLinkNest RX4 76 yX7_hasBit RX7) (by decide +kernel)) (hts (.initialized RX7) (by decide +kernel)) (by decide +kernel) ⟨Nat.le_of_ble_eq_true rfl, Nat.le_of_ble_eq_true rfl⟩, (hts (.static yX7_hasBit) (by decide +kernel)), trivial⟩ ⟨CPre.blind, wd_pre hAB hP hD hS hA⟩ rfl rfl hl.1 rfl (lv_room (Nat.le_of_ble_eq_true rfl)) dX4_layPairs_22 ⟨Nat.zero_le _, Nat.zero_le _⟩) (fun r_9 u H locs h hP hD hS => ?_)
        refine lv_if_eq (tgt := 37) hx hb dX4_layPairs_25 (by decide) (fun c_10 => ?_) (fun c_10 => ?_)
        · have h := h.1 c_10
          exact B37 x3_1 x4_2 h H locs ls hP hD hS (lv_sub hl [0, 1, 2, 3, 4] rfl)
        · have h := h.2 c_10
          refine lv_iload_n hx hb dX4_layPairs_28 rfl (lv_at hl 3 rfl) ?_
          refine lv_aload_n hx hb dX4_layPairs_29 rfl (lv_at hl 1 rfl) ?_
          refine lv_iload hx hb dX4_layPairs_30 (lv_at hl 4 rfl) ?_
          refine cl_i hD hS hA (va_runV (As := [.int x4_2]) (rest := [.int x3_1]) ⟨hx, hb, hml, hown, hts⟩ (ct_X5_allBefore h H.size) (cwV 1 hts gX4_layPairs_X5_allBefore rfl rfl rfl (by decide +kernel) ⟨Nat.le_of_ble_eq_true rfl, Nat.le_of_ble_eq_true rfl⟩) ⟨CPre.blind, va_recv hAB.1 hP (ci := 5) (q0 := 10) rfl rfl, wd_pre hAB hP hD hS hA⟩ rfl rfl hl.1 rfl (lv_room (Nat.le_of_ble_eq_true rfl)) dX4_layPairs_32 ⟨Nat.zero_le _, Nat.zero_le _⟩) (fun r_11 u H locs h hP hD hS => ?_)
          refine lv_ior hx hb dX4_layPairs_35 ?_
          refine lv_topi (fun x3_12 e_13 => ?_)
          have h := h x3_12 e_13
          refine lv_istore_n (lv' := [(3, .int x3_12), (0, .ref (ad 38)), (1, .ref (ad 10)), (2, .int a2), (4, .int x4_2)]) hx hb dX4_layPairs_36 rfl hl (by decide) rfl (fun ls hl => ?_)
          exact B37 x3_12 x4_2 h H locs ls hP hD hS (lv_sub hl [1, 2, 3, 0, 4] rfl)
  obtain ⟨n5, h⟩ := h
  refine L5 _ (fun x3_3 h H locs ls hP hD hS hl => ?_) n5 0 0 h H locs ls hP hD hS (lv_sub hl [2, 3, 4, 1, 0] rfl)
  refine lv_aload_n hx hb dX4_layPairs_43 rfl (lv_at hl 0 rfl) ?_
  refine va_get (D := D) (ci := 4) (C := RX4) (T := TX4) (N := 15) hx hb hts inn_X4_layPairs_4 hown hAB.1 hP 38 rfl rfl 2 (by decide) (hts (.fieldLink RX4 15 "BarnBench$Net" "before" "[I") (by decide +kernel)) (fun _ h9 => h9) rfl dX4_layPairs_44 ?_
  refine lv_iload_n hx hb dX4_layPairs_47 rfl (lv_at hl 2 rfl) ?_
  refine lv_aload_n hx hb dX4_layPairs_48 rfl (lv_at hl 1 rfl) ?_
  refine va_get (D := D) (ci := 5) (C := RX5) (T := TX5) (N := 9) hx hb hts inn_X4_layPairs_5 hown hAB.1 hP 10 rfl rfl 8 (by decide) (hts (.fieldLink RX4 75 "BarnBench$Tasks" "before" "[I") (by decide +kernel)) (fun _ h9 => h9) rfl dX4_layPairs_49 ?_
  refine lv_iload_n hx hb dX4_layPairs_52 rfl (lv_at hl 2 rfl) ?_
  refine va_iald hx hb hAB.1 hP 18 0 rfl rfl h.1 dX4_layPairs_53 ?_
  have h := h.2
  refine lv_iload_n hx hb dX4_layPairs_54 rfl (lv_at hl 3 rfl) ?_
  refine lv_iconst (v := (-1)) hx hb dX4_layPairs_55 (by decide) ?_
  refine lv_ixor hx hb dX4_layPairs_56 ?_
  refine lv_iand hx hb dX4_layPairs_57 ?_
  refine sC_40 hx hb hAB hP hD hS h.1 dX4_layPairs_58 (fun nBe_14 H locs e_15 hP hD hS => ?_)
  have h := h.2
  have h := h nBe_14 e_15
  refine lv_aload_n hx hb dX4_layPairs_59 rfl (lv_at hl 0 rfl) ?_
  refine lv_dup hx hb dX4_layPairs_60 rfl ?_
  refine va_get (D := D) (ci := 4) (C := RX4) (T := TX4) (N := 15) hx hb hts inn_X4_layPairs_4 hown hAB.1 hP 38 rfl rfl 3 (by decide) (hts (.fieldLink RX4 65 "BarnBench$Net" "followed" "I") (by decide +kernel)) (fun _ h9 => h9) rfl dX4_layPairs_61 ?_
  refine lv_aload_n hx hb dX4_layPairs_64 rfl (lv_at hl 0 rfl) ?_
  refine va_get (D := D) (ci := 4) (C := RX4) (T := TX4) (N := 15) hx hb hts inn_X4_layPairs_4 hown hAB.1 hP 38 rfl rfl 2 (by decide) (hts (.fieldLink RX4 15 "BarnBench$Net" "before" "[I") (by decide +kernel)) (fun _ h9 => h9) rfl dX4_layPairs_65 ?_
  refine lv_iload_n hx hb dX4_layPairs_68 rfl (lv_at hl 2 rfl) ?_
  refine va_iald hx hb hAB.1 hP 40 0 rfl rfl h.1 dX4_layPairs_69 ?_
  have h := h.2
  refine lv_ior hx hb dX4_layPairs_70 ?_
  refine fC_38_followed hx hb hAB hP hD hS hts inn_X4_layPairs_4 hown (hts (.fieldLink RX4 65 "BarnBench$Net" "followed" "I") (by decide +kernel)) dX4_layPairs_71 (fun nFo_16 H locs e_17 hP hD hS => ?_)
  have h := h nFo_16 e_17
  exact rt_v (nFo_16, nBe_14) hQ hx hb hr hlk hP hD hS ⟨Nat.zero_le _, Nat.zero_le _⟩ dX4_layPairs_74 h
def wp_X4_layRoom_b173 (Qp : (Nat → Int32) → (Nat → Int32) → (Nat → Int32) → (Nat → Int32) → (Nat → Int32) → Prop) (y_1 : Int32) (y_2 : Int32) (y_3 : Int32) (nEa_4 : Nat → Int32) (nMi_5 : Nat → Int32) (nHa_6 : Nat → Int32) (nER_7 : Nat → Int32) (nMR_8 : Nat → Int32) : Prop :=
  vp_in y_1 12 ∧ ∀ nMR_9 : Nat → Int32, nMR_9 = upd nMR_8 (Int32.toNatClampNeg y_1) (y_2 + y_3) → Qp nEa_4 nMi_5 nHa_6 nER_7 nMR_9
def wp_X4_layRoom_b146 (Qp : (Nat → Int32) → (Nat → Int32) → (Nat → Int32) → (Nat → Int32) → (Nat → Int32) → Prop) (a2 : Int32) (tSt : Nat → Int32) (y_12 : Int32) (y_13 : Int32) (x5_11 : Int32) (nEa_14 : Nat → Int32) (nMi_15 : Nat → Int32) (nHa_16 : Nat → Int32) (nER_17 : Nat → Int32) (nMR_18 : Nat → Int32) : Prop :=
  vp_in y_12 12 ∧ ∀ nMi_19 : Nat → Int32, nMi_19 = upd nMi_15 (Int32.toNatClampNeg y_12) y_13 → vp_in a2 12 ∧ ((x5_11 = 0 → wp_X4_layRoom_b173 Qp a2 (nER_17 (Int32.toNatClampNeg a2)) 0 nEa_14 nMi_19 nHa_16 nER_17 nMR_18) ∧
   (¬ x5_11 = 0 → vp_in a2 12 ∧ wp_X4_layRoom_b173 Qp a2 (nER_17 (Int32.toNatClampNeg a2)) (tSt (Int32.toNatClampNeg a2)) nEa_14 nMi_19 nHa_16 nER_17 nMR_18))
def wp_X4_layRoom_b123 (Qp : (Nat → Int32) → (Nat → Int32) → (Nat → Int32) → (Nat → Int32) → (Nat → Int32) → Prop) (a2 : Int32) (tSt : Nat → Int32) (y_23 : Int32) (x4_22 : Int32) (nEa_24 : Nat → Int32) (nMi_25 : Nat → Int32) (nHa_26 : Nat → Int32) (nER_27 : Nat → Int32) (nMR_28 : Nat → Int32) : Prop :=
  ((y_23 = 0 → vp_in a2 12 ∧ wp_X4_layRoom_b146 Qp a2 tSt a2 (nHa_26 (Int32.toNatClampNeg a2)) y_23 nEa_24 nMi_25 nHa_26 nER_27 nMR_28) ∧
   (¬ y_23 = 0 → wp_X4_layRoom_b146 Qp a2 tSt a2 x4_22 y_23 nEa_24 nMi_25 nHa_26 nER_27 nMR_28))
def wp_X4_layRoom_b122 (Qp : (Nat → Int32) → (Nat → Int32) → (Nat → Int32) → (Nat → Int32) → (Nat → Int32) → Prop) (a2 : Int32) (tSt : Nat → Int32) (x4_30 : Int32) (nEa_31 : Nat → Int32) (nMi_32 : Nat → Int32) (nHa_33 : Nat → Int32) (nER_34 : Nat → Int32) (nMR_35 : Nat → Int32) : Prop :=
  wp_X4_layRoom_b123 Qp a2 tSt 0 x4_30 nEa_31 nMi_32 nHa_33 nER_34 nMR_35
def wp_X4_layRoom_b81 (Qp : (Nat → Int32) → (Nat → Int32) → (Nat → Int32) → (Nat → Int32) → (Nat → Int32) → Prop) (a2 : Int32) (tEx : Nat → Int32) (tKi : Nat → Int32) (tSt : Nat → Int32) (y_36 : Int32) (y_37 : Int32) (nEa_38 : Nat → Int32) (nMi_39 : Nat → Int32) (nHa_40 : Nat → Int32) (nER_41 : Nat → Int32) (nMR_42 : Nat → Int32) : Prop :=
  vp_in y_36 12 ∧ ∀ nER_43 : Nat → Int32, nER_43 = upd nER_41 (Int32.toNatClampNeg y_36) y_37 → vp_in a2 12 ∧ vp_in a2 12 ∧ ∀ x4_45 : Int32, x4_45 = ((nEa_38 (Int32.toNatClampNeg a2)) - (tEx (Int32.toNatClampNeg a2))) → vp_in a2 12 ∧ ((¬ (tKi (Int32.toNatClampNeg a2)) = 2 → wp_X4_layRoom_b122 Qp a2 tSt x4_45 nEa_38 nMi_39 nHa_40 nER_43 nMR_42) ∧
   ((tKi (Int32.toNatClampNeg a2)) = 2 → vp_in a2 12 ∧ ((x4_45 ≤ (nHa_40 (Int32.toNatClampNeg a2)) → wp_X4_layRoom_b122 Qp a2 tSt x4_45 nEa_38 nMi_39 nHa_40 nER_43 nMR_42) ∧
   (¬ x4_45 ≤ (nHa_40 (Int32.toNatClampNeg a2)) → wp_X4_layRoom_b123 Qp a2 tSt 1 x4_45 nEa_38 nMi_39 nHa_40 nER_43 nMR_42))))
def wp_X4_layRoom_b44 (Qp : (Nat → Int32) → (Nat → Int32) → (Nat → Int32) → (Nat → Int32) → (Nat → Int32) → Prop) (a2 : Int32) (tEx : Nat → Int32) (tKi : Nat → Int32) (tPr : Nat → Int32) (tSt : Nat → Int32) (y_49 : Int32) (nEa_50 : Nat → Int32) (nMi_51 : Nat → Int32) (nHa_52 : Nat → Int32) (nER_53 : Nat → Int32) (nMR_54 : Nat → Int32) : Prop :=
  vp_in a2 12 ∧ vp_in a2 12 ∧ (((nEa_50 (Int32.toNatClampNeg a2)) ≤ (nHa_52 (Int32.toNatClampNeg a2)) → wp_X4_layRoom_b81 Qp a2 tEx tKi tSt a2 0 nEa_50 nMi_51 nHa_52 nER_53 nMR_54) ∧
   (¬ (nEa_50 (Int32.toNatClampNeg a2)) ≤ (nHa_52 (Int32.toNatClampNeg a2)) → vp_in a2 12 ∧ wp_X4_layRoom_b81 Qp a2 tEx tKi tSt a2 (if 0 < ((tPr (Int32.toNatClampNeg a2)) - y_49) then ((tPr (Int32.toNatClampNeg a2)) - y_49) else 0) nEa_50 nMi_51 nHa_52 nER_53 nMR_54))
def wp_X4_layRoom (tKi : Nat → Int32) (tEa : Nat → Int32) (tHa : Nat → Int32) (tPr : Nat → Int32) (tEx : Nat → Int32) (tSt : Nat → Int32) (nEa : Nat → Int32) (nMi : Nat → Int32) (nHa : Nat → Int32) (nER : Nat → Int32) (nMR : Nat → Int32) (a2 : Int32) (Qp : (Nat → Int32) → (Nat → Int32) → (Nat → Int32) → (Nat → Int32) → (Nat → Int32) → Prop) : Prop :=
  vp_in a2 12 ∧ vp_in a2 12 ∧ ∀ nEa_56 : Nat → Int32, nEa_56 = upd nEa (Int32.toNatClampNeg a2) (tEa (Int32.toNatClampNeg a2)) → vp_in a2 12 ∧ vp_in a2 12 ∧ ∀ nHa_58 : Nat → Int32, nHa_58 = upd nHa (Int32.toNatClampNeg a2) (tHa (Int32.toNatClampNeg a2)) → vp_in a2 12 ∧ ((¬ (tKi (Int32.toNatClampNeg a2)) = 4 → wp_X4_layRoom_b44 Qp a2 tEx tKi tPr tSt 0 nEa_56 nMi nHa_58 nER nMR) ∧
   ((tKi (Int32.toNatClampNeg a2)) = 4 → vp_in a2 12 ∧ wp_X4_layRoom_b44 Qp a2 tEx tKi tPr tSt (tEx (Int32.toNatClampNeg a2)) nEa_56 nMi nHa_58 nER nMR))
theorem inn_X4_layRoom_4 : ∀ w ∈ u_ws RX4 TX4 15, w ∈ wsX4_layRoom := fun _ h => List.mem_cons_of_mem _ (List.mem_append_left _ (List.mem_append_right _ h))
theorem inn_X4_layRoom_5 : ∀ w ∈ u_ws RX5 TX5 9, w ∈ wsX4_layRoom := fun _ h => List.mem_cons_of_mem _ (List.mem_append_right _ h)
def rm_X4_layRoom : Room := { frames := 1, cells := 0, slots := 0, locals := 23 }
set_option maxHeartbeats 4000000 in
set_option maxRecDepth 100000 in
theorem ct_X4_layRoom {l : Launch} {D : va_G} {cI cJ cZ cE cD cK : ClassId} {ad : Nat → Nat} {bd dd : Nat → Nat → Nat} {bHK : Int32} {bHP : Int32} {bPF : Int32} {bWC : Int32} {bRi : Int32} {bBe : Int32} {bFi : Int32} {bWa : Nat → Int32} {dB : Nat → Int32} {dS : Nat → Int32} {dN : Nat → Nat → Int64} {tC : Int32} {tKi : Nat → Int32} {tEa : Nat → Int32} {tHa : Nat → Int32} {tPr : Nat → Int32} {tEx : Nat → Int32} {tSt : Nat → Int32} {tTo : Nat → Int32} {tBe : Nat → Int32} {kC : Int32} {kKi : Nat → Int32} {kEa : Nat → Int32} {kHa : Nat → Int32} {kPr : Nat → Int32} {kEx : Nat → Int32} {kSt : Nat → Int32} {kTo : Nat → Int32} {kBe : Nat → Int32} {aC : Int32} {aWh : Nat → Int32} {aTa : Nat → Int32} {aWa : Nat → Int32} {iRo : Nat → Int32} {iEa : Nat → Int32} {iLa : Nat → Int32} {cC : Int32} {nC : Int32} {nFo : Int32} {nQd : Int32} {nRo : Nat → Int32} {nBe : Nat → Int32} {nEa : Nat → Int32} {nMi : Nat → Int32} {nHa : Nat → Int32} {nER : Nat → Int32} {nMR : Nat → Int32} {nTh : Nat → Int32} {nPa : Nat → Int32} {nOu : Nat → Int32} {nFr : Nat → Int32} {nQu : Nat → Int32} {eM : Nat} {eL : Nat → Int32} {eC : Nat → Int64} {eS : Nat → Int64} {eB : Nat → Nat → Int32} {eE : Nat → Nat → Int32} {eF : Nat → Nat → Int32} {eG : Nat → Nat → Int32}   {a2 : Int32} {Qp : (Nat → Int32) → (Nat → Int32) → (Nat → Int32) → (Nat → Int32) → (Nat → Int32) → Prop}   (h : wp_X4_layRoom tKi tEa tHa tPr tEx tSt nEa nMi nHa nER nMR a2 Qp) : CTv l yX4_layRoom wsX4_layRoom rm_X4_layRoom D (tyL cI cJ cZ cE cD cK) [.ref (ad 38), .ref (ad 10), .int a2] (WC cI cJ cE cD ad bd dd bHK bHP bPF bWC bRi bBe bFi bWa dB dS dN tC tKi tEa tHa tPr tEx tSt tTo tBe kC kKi kEa kHa kPr kEx kSt kTo kBe aC aWh aTa aWa iRo iEa iLa cC nC nFo nQd nRo nBe nEa nMi nHa nER nMR nTh nPa nOu nFr nQu eM eL eC eS eB eE eF eG) (fun u : (Nat → Int32) × (Nat → Int32) × (Nat → Int32) × (Nat → Int32) × (Nat → Int32) => Qp u.1 u.2.1 u.2.2.1 u.2.2.2.1 u.2.2.2.2) (fun u : (Nat → Int32) × (Nat → Int32) × (Nat → Int32) × (Nat → Int32) × (Nat → Int32) => (WC cI cJ cE cD ad bd dd bHK bHP bPF bWC bRi bBe bFi bWa dB dS dN tC tKi tEa tHa tPr tEx tSt tTo tBe kC kKi kEa kHa kPr kEx kSt kTo kBe aC aWh aTa aWa iRo iEa iLa cC nC nFo nQd nRo nBe u.1 u.2.1 u.2.2.1 u.2.2.2.1 u.2.2.2.2 nTh nPa nOu nFr nQu eM eL eC eS eB eE eF eG)) 0 0 := by
  refine ent_v (cc := cX4_layRoom) (maxL := 6) (ret := none) (by decide) rfl (Nat.le_of_ble_eq_true rfl) ?_
  intro p e s m args below meth c A Q hQ hx hb hr hml hown hts hlk hA hAB hP hD hS ls hl
  have hown : s.vm.findClass RX4 = some m.cls := hown
  have hl : lv_has ls 6 [(0, .ref (ad 38)), (1, .ref (ad 10)), (2, .int a2)] := hl
  generalize hH : s.heap = H at hP ⊢
  have hS : va_S A s.heap H [] := by rw [← hH]; exact hS
  clear hH
  generalize ([] : List Loc) = locs at hS ⊢
  have B173 : ∀ (y_1 : Int32) (y_2 : Int32) (y_3 : Int32) (nEa_4 : Nat → Int32) (nMi_5 : Nat → Int32) (nHa_6 : Nat → Int32) (nER_7 : Nat → Int32) (nMR_8 : Nat → Int32), wp_X4_layRoom_b173 Qp y_1 y_2 y_3 nEa_4 nMi_5 nHa_6 nER_7 nMR_8 → ∀ (H : Heap) (locs : List Loc) (ls : Array Slot), va_P D vwCl (WC cI cJ cE cD ad bd dd bHK bHP bPF bWC bRi bBe bFi bWa dB dS dN tC tKi tEa tHa tPr tEx tSt tTo tBe kC kKi kEa kHa kPr kEx kSt kTo kBe aC aWh aTa aWa iRo iEa iLa cC nC nFo nQd nRo nBe nEa_4 nMi_5 nHa_6 nER_7 nMR_8 nTh nPa nOu nFr nQu eM eL eC eS eB eE eF eG) H → va_D A (WC cI cJ cE cD ad bd dd bHK bHP bPF bWC bRi bBe bFi bWa dB dS dN tC tKi tEa tHa tPr tEx tSt tTo tBe kC kKi kEa kHa kPr kEx kSt kTo kBe aC aWh aTa aWa iRo iEa iLa cC nC nFo nQd nRo nBe nEa_4 nMi_5 nHa_6 nER_7 nMR_8 nTh nPa nOu nFr nQu eM eL eC eS eB eE eF eG) → va_S A s.heap H locs → lv_has ls 6 [] → W p l e (headSpec wsX4_layRoom rm_X4_layRoom).room s m args below meth c H locs 0 0 Q (F0 m 173 ls [.int y_3, .int y_2, .int y_1, .ref (ad 45)]) := by
    intro y_1 y_2 y_3 nEa_4 nMi_5 nHa_6 nER_7 nMR_8 h H locs ls hP hD hS hl
    refine lv_iadd hx hb dX4_layRoom_173 ?_
    refine sC_45 hx hb hAB hP hD hS h.1 dX4_layRoom_174 (fun nMR_9 H locs e_10 hP hD hS => ?_)
    have h := h.2
    have h := h nMR_9 e_10
    exact rt_v (nEa_4, nMi_5, nHa_6, nER_7, nMR_9) hQ hx hb hr hlk hP hD hS ⟨Nat.zero_le _, Nat.zero_le _⟩ dX4_layRoom_175 h
  have B146 : ∀ (y_12 : Int32) (y_13 : Int32) (x5_11 : Int32) (nEa_14 : Nat → Int32) (nMi_15 : Nat → Int32) (nHa_16 : Nat → Int32) (nER_17 : Nat → Int32) (nMR_18 : Nat → Int32), wp_X4_layRoom_b146 Qp a2 tSt y_12 y_13 x5_11 nEa_14 nMi_15 nHa_16 nER_17 nMR_18 → ∀ (H : Heap) (locs : List Loc) (ls : Array Slot), va_P D vwCl (WC cI cJ cE cD ad bd dd bHK bHP bPF bWC bRi bBe bFi bWa dB dS dN tC tKi tEa tHa tPr tEx tSt tTo tBe kC kKi kEa kHa kPr kEx kSt kTo kBe aC aWh aTa aWa iRo iEa iLa cC nC nFo nQd nRo nBe nEa_14 nMi_15 nHa_16 nER_17 nMR_18 nTh nPa nOu nFr nQu eM eL eC eS eB eE eF eG) H → va_D A (WC cI cJ cE cD ad bd dd bHK bHP bPF bWC bRi bBe bFi bWa dB dS dN tC tKi tEa tHa tPr tEx tSt tTo tBe kC kKi kEa kHa kPr kEx kSt kTo kBe aC aWh aTa aWa iRo iEa iLa cC nC nFo nQd nRo nBe nEa_14 nMi_15 nHa_16 nER_17 nMR_18 nTh nPa nOu nFr nQu eM eL eC eS eB eE eF eG) → va_S A s.heap H locs → lv_has ls 6 [(0, .ref (ad 38)), (1, .ref (ad 10)), (2, .int a2), (5, .int x5_11)] → W p l e (headSpec wsX4_layRoom rm_X4_layRoom).room s m args below meth c H locs 0 0 Q (F0 m 146 ls [.int y_13, .int y_12, .ref (ad 42)]) := by
    intro y_12 y_13 x5_11 nEa_14 nMi_15 nHa_16 nER_17 nMR_18 h H locs ls hP hD hS hl
    refine sC_42 hx hb hAB hP hD hS h.1 dX4_layRoom_146 (fun nMi_19 H locs e_20 hP hD hS => ?_)
    have h := h.2
    have h := h nMi_19 e_20
    refine lv_aload_n hx hb dX4_layRoom_147 rfl (lv_at hl 0 rfl) ?_
    refine va_get (D := D) (ci := 4) (C := RX4) (T := TX4) (N := 15) hx hb hts inn_X4_layRoom_4 hown hAB.1 hP 38 rfl rfl 8 (by decide) (hts (.fieldLink RX4 30 "BarnBench$Net" "midRoom" "[I") (by decide +kernel)) (fun _ h9 => h9) rfl dX4_layRoom_148 ?_
    refine lv_iload_n hx hb dX4_layRoom_151 rfl (lv_at hl 2 rfl) ?_
    refine lv_aload_n hx hb dX4_layRoom_152 rfl (lv_at hl 0 rfl) ?_
    refine va_get (D := D) (ci := 4) (C := RX4) (T := TX4) (N := 15) hx hb hts inn_X4_layRoom_4 hown hAB.1 hP 38 rfl rfl 7 (by decide) (hts (.fieldLink RX4 27 "BarnBench$Net" "easyRoom" "[I") (by decide +kernel)) (fun _ h9 => h9) rfl dX4_layRoom_153 ?_
    refine lv_iload_n hx hb dX4_layRoom_156 rfl (lv_at hl 2 rfl) ?_
    refine va_iald hx hb hAB.1 hP 44 0 rfl rfl h.1 dX4_layRoom_157 ?_
    have h := h.2
    refine lv_iload hx hb dX4_layRoom_158 (lv_at hl 3 rfl) ?_
    refine lv_if_eq (tgt := 172) hx hb dX4_layRoom_160 (by decide) (fun c_21 => ?_) (fun c_21 => ?_)
    · have h := h.1 c_21
      refine lv_iconst (v := 0) hx hb dX4_layRoom_172 (by decide) ?_
      exact B173 a2 (nER_17 (Int32.toNatClampNeg a2)) 0 nEa_14 nMi_19 nHa_16 nER_17 nMR_18 h H locs ls hP hD hS (lv_sub hl [] rfl)
    · have h := h.2 c_21
      refine lv_aload_n hx hb dX4_layRoom_163 rfl (lv_at hl 1 rfl) ?_
      refine va_get (D := D) (ci := 5) (C := RX5) (T := TX5) (N := 9) hx hb hts inn_X4_layRoom_5 hown hAB.1 hP 10 rfl rfl 6 (by decide) (hts (.fieldLink RX4 101 "BarnBench$Tasks" "step" "[I") (by decide +kernel)) (fun _ h9 => h9) rfl dX4_layRoom_164 ?_
      refine lv_iload_n hx hb dX4_layRoom_167 rfl (lv_at hl 2 rfl) ?_
      refine va_iald hx hb hAB.1 hP 16 0 rfl rfl h.1 dX4_layRoom_168 ?_
      have h := h.2
      refine lv_goto (tgt := 173) hx hb dX4_layRoom_169 (by decide) ?_
      exact B173 a2 (nER_17 (Int32.toNatClampNeg a2)) (tSt (Int32.toNatClampNeg a2)) nEa_14 nMi_19 nHa_16 nER_17 nMR_18 h H locs ls hP hD hS (lv_sub hl [] rfl)
  have B123 : ∀ (y_23 : Int32) (x4_22 : Int32) (nEa_24 : Nat → Int32) (nMi_25 : Nat → Int32) (nHa_26 : Nat → Int32) (nER_27 : Nat → Int32) (nMR_28 : Nat → Int32), wp_X4_layRoom_b123 Qp a2 tSt y_23 x4_22 nEa_24 nMi_25 nHa_26 nER_27 nMR_28 → ∀ (H : Heap) (locs : List Loc) (ls : Array Slot), va_P D vwCl (WC cI cJ cE cD ad bd dd bHK bHP bPF bWC bRi bBe bFi bWa dB dS dN tC tKi tEa tHa tPr tEx tSt tTo tBe kC kKi kEa kHa kPr kEx kSt kTo kBe aC aWh aTa aWa iRo iEa iLa cC nC nFo nQd nRo nBe nEa_24 nMi_25 nHa_26 nER_27 nMR_28 nTh nPa nOu nFr nQu eM eL eC eS eB eE eF eG) H → va_D A (WC cI cJ cE cD ad bd dd bHK bHP bPF bWC bRi bBe bFi bWa dB dS dN tC tKi tEa tHa tPr tEx tSt tTo tBe kC kKi kEa kHa kPr kEx kSt kTo kBe aC aWh aTa aWa iRo iEa iLa cC nC nFo nQd nRo nBe nEa_24 nMi_25 nHa_26 nER_27 nMR_28 nTh nPa nOu nFr nQu eM eL eC eS eB eE eF eG) → va_S A s.heap H locs → lv_has ls 6 [(0, .ref (ad 38)), (1, .ref (ad 10)), (2, .int a2), (4, .int x4_22)] → W p l e (headSpec wsX4_layRoom rm_X4_layRoom).room s m args below meth c H locs 0 0 Q (F0 m 123 ls [.int y_23]) := by
    intro y_23 x4_22 nEa_24 nMi_25 nHa_26 nER_27 nMR_28 h H locs ls hP hD hS hl
    refine lv_istore (lv' := [(5, .int y_23), (0, .ref (ad 38)), (1, .ref (ad 10)), (2, .int a2), (4, .int x4_22)]) hx hb dX4_layRoom_123 hl (by decide) rfl (fun ls hl => ?_)
    refine lv_aload_n hx hb dX4_layRoom_125 rfl (lv_at hl 1 rfl) ?_
    refine va_get (D := D) (ci := 4) (C := RX4) (T := TX4) (N := 15) hx hb hts inn_X4_layRoom_4 hown hAB.1 hP 38 rfl rfl 5 (by decide) (hts (.fieldLink RX4 21 "BarnBench$Net" "mid" "[I") (by decide +kernel)) (fun _ h9 => h9) rfl dX4_layRoom_126 ?_
    refine lv_iload_n hx hb dX4_layRoom_129 rfl (lv_at hl 3 rfl) ?_
    refine lv_iload hx hb dX4_layRoom_130 (lv_at hl 0 rfl) ?_
    refine lv_if_eq (tgt := 140) hx hb dX4_layRoom_132 (by decide) (fun c_29 => ?_) (fun c_29 => ?_)
    · have h := h.1 c_29
      refine lv_aload_n hx hb dX4_layRoom_140 rfl (lv_at hl 1 rfl) ?_
      refine va_get (D := D) (ci := 4) (C := RX4) (T := TX4) (N := 15) hx hb hts inn_X4_layRoom_4 hown hAB.1 hP 38 rfl rfl 6 (by decide) (hts (.fieldLink RX4 24 "BarnBench$Net" "hard" "[I") (by decide +kernel)) (fun _ h9 => h9) rfl dX4_layRoom_141 ?_
      refine lv_iload_n hx hb dX4_layRoom_144 rfl (lv_at hl 3 rfl) ?_
      refine va_iald hx hb hAB.1 hP 43 0 rfl rfl h.1 dX4_layRoom_145 ?_
      have h := h.2
      exact B146 a2 (nHa_26 (Int32.toNatClampNeg a2)) y_23 nEa_24 nMi_25 nHa_26 nER_27 nMR_28 h H locs ls hP hD hS (lv_sub hl [1, 2, 3, 0] rfl)
    · have h := h.2 c_29
      refine lv_iload hx hb dX4_layRoom_135 (lv_at hl 4 rfl) ?_
      refine lv_goto (tgt := 146) hx hb dX4_layRoom_137 (by decide) ?_
      exact B146 a2 x4_22 y_23 nEa_24 nMi_25 nHa_26 nER_27 nMR_28 h H locs ls hP hD hS (lv_sub hl [1, 2, 3, 0] rfl)
  have B122 : ∀ (x4_30 : Int32) (nEa_31 : Nat → Int32) (nMi_32 : Nat → Int32) (nHa_33 : Nat → Int32) (nER_34 : Nat → Int32) (nMR_35 : Nat → Int32), wp_X4_layRoom_b122 Qp a2 tSt x4_30 nEa_31 nMi_32 nHa_33 nER_34 nMR_35 → ∀ (H : Heap) (locs : List Loc) (ls : Array Slot), va_P D vwCl (WC cI cJ cE cD ad bd dd bHK bHP bPF bWC bRi bBe bFi bWa dB dS dN tC tKi tEa tHa tPr tEx tSt tTo tBe kC kKi kEa kHa kPr kEx kSt kTo kBe aC aWh aTa aWa iRo iEa iLa cC nC nFo nQd nRo nBe nEa_31 nMi_32 nHa_33 nER_34 nMR_35 nTh nPa nOu nFr nQu eM eL eC eS eB eE eF eG) H → va_D A (WC cI cJ cE cD ad bd dd bHK bHP bPF bWC bRi bBe bFi bWa dB dS dN tC tKi tEa tHa tPr tEx tSt tTo tBe kC kKi kEa kHa kPr kEx kSt kTo kBe aC aWh aTa aWa iRo iEa iLa cC nC nFo nQd nRo nBe nEa_31 nMi_32 nHa_33 nER_34 nMR_35 nTh nPa nOu nFr nQu eM eL eC eS eB eE eF eG) → va_S A s.heap H locs → lv_has ls 6 [(0, .ref (ad 38)), (1, .ref (ad 10)), (2, .int a2), (4, .int x4_30)] → W p l e (headSpec wsX4_layRoom rm_X4_layRoom).room s m args below meth c H locs 0 0 Q (F0 m 122 ls []) := by
    intro x4_30 nEa_31 nMi_32 nHa_33 nER_34 nMR_35 h H locs ls hP hD hS hl
    refine lv_iconst (v := 0) hx hb dX4_layRoom_122 (by decide) ?_
    exact B123 0 x4_30 nEa_31 nMi_32 nHa_33 nER_34 nMR_35 h H locs ls hP hD hS (lv_sub hl [0, 1, 2, 3] rfl)
  have B81 : ∀ (y_36 : Int32) (y_37 : Int32) (nEa_38 : Nat → Int32) (nMi_39 : Nat → Int32) (nHa_40 : Nat → Int32) (nER_41 : Nat → Int32) (nMR_42 : Nat → Int32), wp_X4_layRoom_b81 Qp a2 tEx tKi tSt y_36 y_37 nEa_38 nMi_39 nHa_40 nER_41 nMR_42 → ∀ (H : Heap) (locs : List Loc) (ls : Array Slot), va_P D vwCl (WC cI cJ cE cD ad bd dd bHK bHP bPF bWC bRi bBe bFi bWa dB dS dN tC tKi tEa tHa tPr tEx tSt tTo tBe kC kKi kEa kHa kPr kEx kSt kTo kBe aC aWh aTa aWa iRo iEa iLa cC nC nFo nQd nRo nBe nEa_38 nMi_39 nHa_40 nER_41 nMR_42 nTh nPa nOu nFr nQu eM eL eC eS eB eE eF eG) H → va_D A (WC cI cJ cE cD ad bd dd bHK bHP bPF bWC bRi bBe bFi bWa dB dS dN tC tKi tEa tHa tPr tEx tSt tTo tBe kC kKi kEa kHa kPr kEx kSt kTo kBe aC aWh aTa aWa iRo iEa iLa cC nC nFo nQd nRo nBe nEa_38 nMi_39 nHa_40 nER_41 nMR_42 nTh nPa nOu nFr nQu eM eL eC eS eB eE eF eG) → va_S A s.heap H locs → lv_has ls 6 [(0, .ref (ad 38)), (1, .ref (ad 10)), (2, .int a2)] → W p l e (headSpec wsX4_layRoom rm_X4_layRoom).room s m args below meth c H locs 0 0 Q (F0 m 81 ls [.int y_37, .int y_36, .ref (ad 44)]) := by
    intro y_36 y_37 nEa_38 nMi_39 nHa_40 nER_41 nMR_42 h H locs ls hP hD hS hl
    refine sC_44 hx hb hAB hP hD hS h.1 dX4_layRoom_81 (fun nER_43 H locs e_44 hP hD hS => ?_)
    have h := h.2
    have h := h nER_43 e_44
    refine lv_aload_n hx hb dX4_layRoom_82 rfl (lv_at hl 0 rfl) ?_
    refine va_get (D := D) (ci := 4) (C := RX4) (T := TX4) (N := 15) hx hb hts inn_X4_layRoom_4 hown hAB.1 hP 38 rfl rfl 4 (by decide) (hts (.fieldLink RX4 18 "BarnBench$Net" "easy" "[I") (by decide +kernel)) (fun _ h9 => h9) rfl dX4_layRoom_83 ?_
    refine lv_iload_n hx hb dX4_layRoom_86 rfl (lv_at hl 2 rfl) ?_
    refine va_iald hx hb hAB.1 hP 41 0 rfl rfl h.1 dX4_layRoom_87 ?_
    have h := h.2
    refine lv_aload_n hx hb dX4_layRoom_88 rfl (lv_at hl 1 rfl) ?_
    refine va_get (D := D) (ci := 5) (C := RX5) (T := TX5) (N := 9) hx hb hts inn_X4_layRoom_5 hown hAB.1 hP 10 rfl rfl 5 (by decide) (hts (.fieldLink RX4 89 "BarnBench$Tasks" "extra" "[I") (by decide +kernel)) (fun _ h9 => h9) rfl dX4_layRoom_89 ?_
    refine lv_iload_n hx hb dX4_layRoom_92 rfl (lv_at hl 2 rfl) ?_
    refine va_iald hx hb hAB.1 hP 15 0 rfl rfl h.1 dX4_layRoom_93 ?_
    have h := h.2
    refine lv_isub hx hb dX4_layRoom_94 ?_
    refine lv_topi (fun x4_45 e_46 => ?_)
    have h := h x4_45 e_46
    refine lv_istore (lv' := [(4, .int x4_45), (0, .ref (ad 38)), (1, .ref (ad 10)), (2, .int a2)]) hx hb dX4_layRoom_95 hl (by decide) rfl (fun ls hl => ?_)
    refine lv_aload_n hx hb dX4_layRoom_97 rfl (lv_at hl 2 rfl) ?_
    refine va_get (D := D) (ci := 5) (C := RX5) (T := TX5) (N := 9) hx hb hts inn_X4_layRoom_5 hown hAB.1 hP 10 rfl rfl 1 (by decide) (hts (.fieldLink RX4 86 "BarnBench$Tasks" "kind" "[I") (by decide +kernel)) (fun _ h9 => h9) rfl dX4_layRoom_98 ?_
    refine lv_iload_n hx hb dX4_layRoom_101 rfl (lv_at hl 3 rfl) ?_
    refine va_iald hx hb hAB.1 hP 11 0 rfl rfl h.1 dX4_layRoom_102 ?_
    have h := h.2
    refine lv_iconst (v := 2) hx hb dX4_layRoom_103 (by decide) ?_
    refine lv_icmp_ne (tgt := 122) hx hb dX4_layRoom_104 (by decide) (fun c_47 => ?_) (fun c_47 => ?_)
    · have h := h.1 c_47
      exact B122 x4_45 nEa_38 nMi_39 nHa_40 nER_43 nMR_42 h H locs ls hP hD hS (lv_sub hl [1, 2, 3, 0] rfl)
    · have h := h.2 c_47
      refine lv_iload hx hb dX4_layRoom_107 (lv_at hl 0 rfl) ?_
      refine lv_aload_n hx hb dX4_layRoom_109 rfl (lv_at hl 1 rfl) ?_
      refine va_get (D := D) (ci := 4) (C := RX4) (T := TX4) (N := 15) hx hb hts inn_X4_layRoom_4 hown hAB.1 hP 38 rfl rfl 6 (by decide) (hts (.fieldLink RX4 24 "BarnBench$Net" "hard" "[I") (by decide +kernel)) (fun _ h9 => h9) rfl dX4_layRoom_110 ?_
      refine lv_iload_n hx hb dX4_layRoom_113 rfl (lv_at hl 3 rfl) ?_
      refine va_iald hx hb hAB.1 hP 43 0 rfl rfl h.1 dX4_layRoom_114 ?_
      have h := h.2
      refine lv_icmp_le (tgt := 122) hx hb dX4_layRoom_115 (by decide) (fun c_48 => ?_) (fun c_48 => ?_)
      · have h := h.1 c_48
        exact B122 x4_45 nEa_38 nMi_39 nHa_40 nER_43 nMR_42 h H locs ls hP hD hS (lv_sub hl [1, 2, 3, 0] rfl)
      · have h := h.2 c_48
        refine lv_iconst (v := 1) hx hb dX4_layRoom_118 (by decide) ?_
        refine lv_goto (tgt := 123) hx hb dX4_layRoom_119 (by decide) ?_
        exact B123 1 x4_45 nEa_38 nMi_39 nHa_40 nER_43 nMR_42 h H locs ls hP hD hS (lv_sub hl [1, 2, 3, 0] rfl)
  have B44 : ∀ (y_49 : Int32) (nEa_50 : Nat → Int32) (nMi_51 : Nat → Int32) (nHa_52 : Nat → Int32) (nER_53 : Nat → Int32) (nMR_54 : Nat → Int32), wp_X4_layRoom_b44 Qp a2 tEx tKi tPr tSt y_49 nEa_50 nMi_51 nHa_52 nER_53 nMR_54 → ∀ (H : Heap) (locs : List Loc) (ls : Array Slot), va_P D vwCl (WC cI cJ cE cD ad bd dd bHK bHP bPF bWC bRi bBe bFi bWa dB dS dN tC tKi tEa tHa tPr tEx tSt tTo tBe kC kKi kEa kHa kPr kEx kSt kTo kBe aC aWh aTa aWa iRo iEa iLa cC nC nFo nQd nRo nBe nEa_50 nMi_51 nHa_52 nER_53 nMR_54 nTh nPa nOu nFr nQu eM eL eC eS eB eE eF eG) H → va_D A (WC cI cJ cE cD ad bd dd bHK bHP bPF bWC bRi bBe bFi bWa dB dS dN tC tKi tEa tHa tPr tEx tSt tTo tBe kC kKi kEa kHa kPr kEx kSt kTo kBe aC aWh aTa aWa iRo iEa iLa cC nC nFo nQd nRo nBe nEa_50 nMi_51 nHa_52 nER_53 nMR_54 nTh nPa nOu nFr nQu eM eL eC eS eB eE eF eG) → va_S A s.heap H locs → lv_has ls 6 [(0, .ref (ad 38)), (1, .ref (ad 10)), (2, .int a2)] → W p l e (headSpec wsX4_layRoom rm_X4_layRoom).room s m args below meth c H locs 0 0 Q (F0 m 44 ls [.int y_49]) := by
    intro y_49 nEa_50 nMi_51 nHa_52 nER_53 nMR_54 h H locs ls hP hD hS hl
    refine lv_istore_n (lv' := [(3, .int y_49), (0, .ref (ad 38)), (1, .ref (ad 10)), (2, .int a2)]) hx hb dX4_layRoom_44 rfl hl (by decide) rfl (fun ls hl => ?_)
    refine lv_aload_n hx hb dX4_layRoom_45 rfl (lv_at hl 1 rfl) ?_
    refine va_get (D := D) (ci := 4) (C := RX4) (T := TX4) (N := 15) hx hb hts inn_X4_layRoom_4 hown hAB.1 hP 38 rfl rfl 7 (by decide) (hts (.fieldLink RX4 27 "BarnBench$Net" "easyRoom" "[I") (by decide +kernel)) (fun _ h9 => h9) rfl dX4_layRoom_46 ?_
    refine lv_iload_n hx hb dX4_layRoom_49 rfl (lv_at hl 3 rfl) ?_
    refine lv_aload_n hx hb dX4_layRoom_50 rfl (lv_at hl 1 rfl) ?_
    refine va_get (D := D) (ci := 4) (C := RX4) (T := TX4) (N := 15) hx hb hts inn_X4_layRoom_4 hown hAB.1 hP 38 rfl rfl 4 (by decide) (hts (.fieldLink RX4 18 "BarnBench$Net" "easy" "[I") (by decide +kernel)) (fun _ h9 => h9) rfl dX4_layRoom_51 ?_
    refine lv_iload_n hx hb dX4_layRoom_54 rfl (lv_at hl 3 rfl) ?_
    refine va_iald hx hb hAB.1 hP 41 0 rfl rfl h.1 dX4_layRoom_55 ?_
    have h := h.2
    refine lv_aload_n hx hb dX4_layRoom_56 rfl (lv_at hl 1 rfl) ?_
    refine va_get (D := D) (ci := 4) (C := RX4) (T := TX4) (N := 15) hx hb hts inn_X4_layRoom_4 hown hAB.1 hP 38 rfl rfl 6 (by decide) (hts (.fieldLink RX4 24 "BarnBench$Net" "hard" "[I") (by decide +kernel)) (fun _ h9 => h9) rfl dX4_layRoom_57 ?_
    refine lv_iload_n hx hb dX4_layRoom_60 rfl (lv_at hl 3 rfl) ?_
    refine va_iald hx hb hAB.1 hP 43 0 rfl rfl h.1 dX4_layRoom_61 ?_
    have h := h.2
    refine lv_icmp_le (tgt := 80) hx hb dX4_layRoom_62 (by decide) (fun c_55 => ?_) (fun c_55 => ?_)
    · have h := h.1 c_55
      refine lv_iconst (v := 0) hx hb dX4_layRoom_80 (by decide) ?_
      exact B81 a2 0 nEa_50 nMi_51 nHa_52 nER_53 nMR_54 h H locs ls hP hD hS (lv_sub hl [1, 2, 3] rfl)
    · have h := h.2 c_55
      refine lv_iconst (v := 0) hx hb dX4_layRoom_65 (by decide) ?_
      refine lv_aload_n hx hb dX4_layRoom_66 rfl (lv_at hl 2 rfl) ?_
      refine va_get (D := D) (ci := 5) (C := RX5) (T := TX5) (N := 9) hx hb hts inn_X4_layRoom_5 hown hAB.1 hP 10 rfl rfl 4 (by decide) (hts (.fieldLink RX4 92 "BarnBench$Tasks" "price" "[I") (by decide +kernel)) (fun _ h9 => h9) rfl dX4_layRoom_67 ?_
      refine lv_iload_n hx hb dX4_layRoom_70 rfl (lv_at hl 3 rfl) ?_
      refine va_iald hx hb hAB.1 hP 14 0 rfl rfl h.1 dX4_layRoom_71 ?_
      have h := h.2
      refine lv_iload_n hx hb dX4_layRoom_72 rfl (lv_at hl 0 rfl) ?_
      refine lv_isub hx hb dX4_layRoom_73 ?_
      refine va_mmax (rest := [.int a2, .ref (ad 44)]) hx hb (by rw [hml]; exact hl.1.symm) hown (hts (.methodLink RX4 95 Lib.Math.max.name) (by decide +kernel)) (hts (.static Lib.Math.max.name) (by decide +kernel)) (hts (.initialized "java/lang/Math") (by decide +kernel)) (hts (.code Lib.Math.max.name Lib.Math.max.code 2 (some .int)) (by decide +kernel)) (Nat.le_of_ble_eq_true rfl) (Nat.le_of_ble_eq_true rfl) (Nat.zero_le _) (Nat.zero_le _) dX4_layRoom_74 ?_
      refine lv_goto (tgt := 81) hx hb dX4_layRoom_77 (by decide) ?_
      exact B81 a2 (if 0 < ((tPr (Int32.toNatClampNeg a2)) - y_49) then ((tPr (Int32.toNatClampNeg a2)) - y_49) else 0) nEa_50 nMi_51 nHa_52 nER_53 nMR_54 h H locs ls hP hD hS (lv_sub hl [1, 2, 3] rfl)
  refine lv_aload_n hx hb dX4_layRoom_0 rfl (lv_at hl 0 rfl) ?_
  refine va_get (D := D) (ci := 4) (C := RX4) (T := TX4) (N := 15) hx hb hts inn_X4_layRoom_4 hown hAB.1 hP 38 rfl rfl 4 (by decide) (hts (.fieldLink RX4 18 "BarnBench$Net" "easy" "[I") (by decide +kernel)) (fun _ h9 => h9) rfl dX4_layRoom_1 ?_
  refine lv_iload_n hx hb dX4_layRoom_4 rfl (lv_at hl 2 rfl) ?_
  refine lv_aload_n hx hb dX4_layRoom_5 rfl (lv_at hl 1 rfl) ?_
  refine va_get (D := D) (ci := 5) (C := RX5) (T := TX5) (N := 9) hx hb hts inn_X4_layRoom_5 hown hAB.1 hP 10 rfl rfl 2 (by decide) (hts (.fieldLink RX4 84 "BarnBench$Tasks" "easy" "[I") (by decide +kernel)) (fun _ h9 => h9) rfl dX4_layRoom_6 ?_
  refine lv_iload_n hx hb dX4_layRoom_9 rfl (lv_at hl 2 rfl) ?_
  refine va_iald hx hb hAB.1 hP 12 0 rfl rfl h.1 dX4_layRoom_10 ?_
  have h := h.2
  refine sC_41 hx hb hAB hP hD hS h.1 dX4_layRoom_11 (fun nEa_56 H locs e_57 hP hD hS => ?_)
  have h := h.2
  have h := h nEa_56 e_57
  refine lv_aload_n hx hb dX4_layRoom_12 rfl (lv_at hl 0 rfl) ?_
  refine va_get (D := D) (ci := 4) (C := RX4) (T := TX4) (N := 15) hx hb hts inn_X4_layRoom_4 hown hAB.1 hP 38 rfl rfl 6 (by decide) (hts (.fieldLink RX4 24 "BarnBench$Net" "hard" "[I") (by decide +kernel)) (fun _ h9 => h9) rfl dX4_layRoom_13 ?_
  refine lv_iload_n hx hb dX4_layRoom_16 rfl (lv_at hl 2 rfl) ?_
  refine lv_aload_n hx hb dX4_layRoom_17 rfl (lv_at hl 1 rfl) ?_
  refine va_get (D := D) (ci := 5) (C := RX5) (T := TX5) (N := 9) hx hb hts inn_X4_layRoom_5 hown hAB.1 hP 10 rfl rfl 3 (by decide) (hts (.fieldLink RX4 85 "BarnBench$Tasks" "hard" "[I") (by decide +kernel)) (fun _ h9 => h9) rfl dX4_layRoom_18 ?_
  refine lv_iload_n hx hb dX4_layRoom_21 rfl (lv_at hl 2 rfl) ?_
  refine va_iald hx hb hAB.1 hP 13 0 rfl rfl h.1 dX4_layRoom_22 ?_
  have h := h.2
  refine sC_43 hx hb hAB hP hD hS h.1 dX4_layRoom_23 (fun nHa_58 H locs e_59 hP hD hS => ?_)
  have h := h.2
  have h := h nHa_58 e_59
  refine lv_aload_n hx hb dX4_layRoom_24 rfl (lv_at hl 1 rfl) ?_
  refine va_get (D := D) (ci := 5) (C := RX5) (T := TX5) (N := 9) hx hb hts inn_X4_layRoom_5 hown hAB.1 hP 10 rfl rfl 1 (by decide) (hts (.fieldLink RX4 86 "BarnBench$Tasks" "kind" "[I") (by decide +kernel)) (fun _ h9 => h9) rfl dX4_layRoom_25 ?_
  refine lv_iload_n hx hb dX4_layRoom_28 rfl (lv_at hl 2 rfl) ?_
  refine va_iald hx hb hAB.1 hP 11 0 rfl rfl h.1 dX4_layRoom_29 ?_
  have h := h.2
  refine lv_iconst (v := 4) hx hb dX4_layRoom_30 (by decide) ?_
  refine lv_icmp_ne (tgt := 43) hx hb dX4_layRoom_31 (by decide) (fun c_60 => ?_) (fun c_60 => ?_)
  · have h := h.1 c_60
    refine lv_iconst (v := 0) hx hb dX4_layRoom_43 (by decide) ?_
    exact B44 0 nEa_56 nMi nHa_58 nER nMR h H locs ls hP hD hS (lv_sub hl [0, 1, 2] rfl)
  · have h := h.2 c_60
    refine lv_aload_n hx hb dX4_layRoom_34 rfl (lv_at hl 1 rfl) ?_
    refine va_get (D := D) (ci := 5) (C := RX5) (T := TX5) (N := 9) hx hb hts inn_X4_layRoom_5 hown hAB.1 hP 10 rfl rfl 5 (by decide) (hts (.fieldLink RX4 89 "BarnBench$Tasks" "extra" "[I") (by decide +kernel)) (fun _ h9 => h9) rfl dX4_layRoom_35 ?_
    refine lv_iload_n hx hb dX4_layRoom_38 rfl (lv_at hl 2 rfl) ?_
    refine va_iald hx hb hAB.1 hP 15 0 rfl rfl h.1 dX4_layRoom_39 ?_
    have h := h.2
    refine lv_goto (tgt := 44) hx hb dX4_layRoom_40 (by decide) ?_
    exact B44 (tEx (Int32.toNatClampNeg a2)) nEa_56 nMi nHa_58 nER nMR h H locs ls hP hD hS (lv_sub hl [0, 1, 2] rfl)
def wp_X4_lay_L47 (tBe : Nat → Int32) (tC : Int32) (tEa : Nat → Int32) (tEx : Nat → Int32) (tHa : Nat → Int32) (tKi : Nat → Int32) (tPr : Nat → Int32) (tSt : Nat → Int32) (nC_1 : Int32) (x47 : (Int32) → (Nat → Int32) → (Nat → Int32) → (Nat → Int32) → (Nat → Int32) → (Nat → Int32) → (Nat → Int32) → Prop) : Nat → (Int32) → (Int32) → (Nat → Int32) → (Nat → Int32) → (Nat → Int32) → (Nat → Int32) → (Nat → Int32) → (Nat → Int32) → Prop
  | 0, _, _, _, _, _, _, _, _ => False
  | n47 + 1, x2_12, nFo_13, nBe_14, nEa_15, nMi_16, nHa_17, nER_18, nMR_19 =>
  ((nC_1 ≤ x2_12 → x47 nFo_13 nBe_14 nEa_15 nMi_16 nHa_17 nER_18 nMR_19) ∧
   (¬ nC_1 ≤ x2_12 → wp_X4_layPairs tC tBe nC_1 nFo_13 nBe_14 x2_12 (fun (nFo_28 : Int32) (nBe_29 : Nat → Int32) => wp_X4_layRoom tKi tEa tHa tPr tEx tSt nEa_15 nMi_16 nHa_17 nER_18 nMR_19 x2_12 (fun (nEa_30 : Nat → Int32) (nMi_31 : Nat → Int32) (nHa_32 : Nat → Int32) (nER_33 : Nat → Int32) (nMR_34 : Nat → Int32) => ∀ x2_35 : Int32, x2_35 = x2_12 + 1 → (wp_X4_lay_L47 tBe tC tEa tEx tHa tKi tPr tSt nC_1 x47 n47) x2_35 nFo_28 nBe_29 nEa_30 nMi_31 nHa_32 nER_33 nMR_34))))
def wp_X4_lay (tC : Int32) (tKi : Nat → Int32) (tEa : Nat → Int32) (tHa : Nat → Int32) (tPr : Nat → Int32) (tEx : Nat → Int32) (tSt : Nat → Int32) (tBe : Nat → Int32) (nC : Int32) (nFo : Int32) (nRo : Nat → Int32) (nBe : Nat → Int32) (nEa : Nat → Int32) (nMi : Nat → Int32) (nHa : Nat → Int32) (nER : Nat → Int32) (nMR : Nat → Int32) (nTh : Nat → Int32) (nPa : Nat → Int32) (nOu : Nat → Int32)  (Qp : (Int32) → (Int32) → (Nat → Int32) → (Nat → Int32) → (Nat → Int32) → (Nat → Int32) → (Nat → Int32) → (Nat → Int32) → (Nat → Int32) → (Nat → Int32) → (Nat → Int32) → (Nat → Int32) → Prop) : Prop :=
  ∀ nC_1 : Int32, nC_1 = tC → wp_X5_arrange nRo tC tBe (fun (nRo_3 : Nat → Int32) => ∀ nTh_4 : Nat → Int32, nTh_4 = jFill nTh 12 0 → ∀ nPa_6 : Nat → Int32, nPa_6 = jFill nPa 144 0 → ∀ nOu_8 : Nat → Int32, nOu_8 = jFill nOu 12 0 → ∀ nFo_10 : Int32, nFo_10 = 0 → (∃ n47 : Nat, wp_X4_lay_L47 tBe tC tEa tEx tHa tKi tPr tSt nC_1 (fun (nFo_20 : Int32) (nBe_21 : Nat → Int32) (nEa_22 : Nat → Int32) (nMi_23 : Nat → Int32) (nHa_24 : Nat → Int32) (nER_25 : Nat → Int32) (nMR_26 : Nat → Int32) => Qp nC_1 nFo_20 nRo_3 nBe_21 nEa_22 nMi_23 nHa_24 nER_25 nMR_26 nTh_4 nPa_6 nOu_8) n47 0 nFo_10 nBe nEa nMi nHa nER nMR))
theorem inn_X4_lay_4 : ∀ w ∈ u_ws RX4 TX4 15, w ∈ wsX4_lay := fun _ h => List.mem_cons_of_mem _ (List.mem_append_right _ h)
theorem inn_X4_lay_5 : ∀ w ∈ u_ws RX5 TX5 9, w ∈ wsX4_lay := fun _ h => List.mem_cons_of_mem _ (List.mem_append_left _ (List.mem_append_right _ h))
def rm_X4_lay : Room := { frames := 3, cells := 0, slots := 0, locals := 70 }
set_option maxHeartbeats 4000000 in
set_option maxRecDepth 100000 in
theorem ct_X4_lay {l : Launch} {D : va_G} {cI cJ cZ cE cD cK : ClassId} {ad : Nat → Nat} {bd dd : Nat → Nat → Nat} {bHK : Int32} {bHP : Int32} {bPF : Int32} {bWC : Int32} {bRi : Int32} {bBe : Int32} {bFi : Int32} {bWa : Nat → Int32} {dB : Nat → Int32} {dS : Nat → Int32} {dN : Nat → Nat → Int64} {tC : Int32} {tKi : Nat → Int32} {tEa : Nat → Int32} {tHa : Nat → Int32} {tPr : Nat → Int32} {tEx : Nat → Int32} {tSt : Nat → Int32} {tTo : Nat → Int32} {tBe : Nat → Int32} {kC : Int32} {kKi : Nat → Int32} {kEa : Nat → Int32} {kHa : Nat → Int32} {kPr : Nat → Int32} {kEx : Nat → Int32} {kSt : Nat → Int32} {kTo : Nat → Int32} {kBe : Nat → Int32} {aC : Int32} {aWh : Nat → Int32} {aTa : Nat → Int32} {aWa : Nat → Int32} {iRo : Nat → Int32} {iEa : Nat → Int32} {iLa : Nat → Int32} {cC : Int32} {nC : Int32} {nFo : Int32} {nQd : Int32} {nRo : Nat → Int32} {nBe : Nat → Int32} {nEa : Nat → Int32} {nMi : Nat → Int32} {nHa : Nat → Int32} {nER : Nat → Int32} {nMR : Nat → Int32} {nTh : Nat → Int32} {nPa : Nat → Int32} {nOu : Nat → Int32} {nFr : Nat → Int32} {nQu : Nat → Int32} {eM : Nat} {eL : Nat → Int32} {eC : Nat → Int64} {eS : Nat → Int64} {eB : Nat → Nat → Int32} {eE : Nat → Nat → Int32} {eF : Nat → Nat → Int32} {eG : Nat → Nat → Int32}    {Qp : (Int32) → (Int32) → (Nat → Int32) → (Nat → Int32) → (Nat → Int32) → (Nat → Int32) → (Nat → Int32) → (Nat → Int32) → (Nat → Int32) → (Nat → Int32) → (Nat → Int32) → (Nat → Int32) → Prop}   (h : wp_X4_lay tC tKi tEa tHa tPr tEx tSt tBe nC nFo nRo nBe nEa nMi nHa nER nMR nTh nPa nOu Qp) : CTv l yX4_lay wsX4_lay rm_X4_lay D (tyL cI cJ cZ cE cD cK) [.ref (ad 38), .ref (ad 10)] (WC cI cJ cE cD ad bd dd bHK bHP bPF bWC bRi bBe bFi bWa dB dS dN tC tKi tEa tHa tPr tEx tSt tTo tBe kC kKi kEa kHa kPr kEx kSt kTo kBe aC aWh aTa aWa iRo iEa iLa cC nC nFo nQd nRo nBe nEa nMi nHa nER nMR nTh nPa nOu nFr nQu eM eL eC eS eB eE eF eG) (fun u : (Int32) × (Int32) × (Nat → Int32) × (Nat → Int32) × (Nat → Int32) × (Nat → Int32) × (Nat → Int32) × (Nat → Int32) × (Nat → Int32) × (Nat → Int32) × (Nat → Int32) × (Nat → Int32) => Qp u.1 u.2.1 u.2.2.1 u.2.2.2.1 u.2.2.2.2.1 u.2.2.2.2.2.1 u.2.2.2.2.2.2.1 u.2.2.2.2.2.2.2.1 u.2.2.2.2.2.2.2.2.1 u.2.2.2.2.2.2.2.2.2.1 u.2.2.2.2.2.2.2.2.2.2.1 u.2.2.2.2.2.2.2.2.2.2.2) (fun u : (Int32) × (Int32) × (Nat → Int32) × (Nat → Int32) × (Nat → Int32) × (Nat → Int32) × (Nat → Int32) × (Nat → Int32) × (Nat → Int32) × (Nat → Int32) × (Nat → Int32) × (Nat → Int32) => (WC cI cJ cE cD ad bd dd bHK bHP bPF bWC bRi bBe bFi bWa dB dS dN tC tKi tEa tHa tPr tEx tSt tTo tBe kC kKi kEa kHa kPr kEx kSt kTo kBe aC aWh aTa aWa iRo iEa iLa cC u.1 u.2.1 nQd u.2.2.1 u.2.2.2.1 u.2.2.2.2.1 u.2.2.2.2.2.1 u.2.2.2.2.2.2.1 u.2.2.2.2.2.2.2.1 u.2.2.2.2.2.2.2.2.1 u.2.2.2.2.2.2.2.2.2.1 u.2.2.2.2.2.2.2.2.2.2.1 u.2.2.2.2.2.2.2.2.2.2.2 nFr nQu eM eL eC eS eB eE eF eG)) 0 0 := by
  refine ent_v (cc := cX4_lay) (maxL := 3) (ret := none) (by decide) rfl (Nat.le_of_ble_eq_true rfl) ?_
  intro p e s m args below meth c A Q hQ hx hb hr hml hown hts hlk hA hAB hP hD hS ls hl
  have hown : s.vm.findClass RX4 = some m.cls := hown
  have hl : lv_has ls 3 [(0, .ref (ad 38)), (1, .ref (ad 10))] := hl
  generalize hH : s.heap = H at hP ⊢
  have hS : va_S A s.heap H [] := by rw [← hH]; exact hS
  clear hH
  generalize ([] : List Loc) = locs at hS ⊢
  refine lv_aload_n hx hb dX4_lay_0 rfl (lv_at hl 0 rfl) ?_
  refine lv_aload_n hx hb dX4_lay_1 rfl (lv_at hl 1 rfl) ?_
  refine va_get (D := D) (ci := 5) (C := RX5) (T := TX5) (N := 9) hx hb hts inn_X4_lay_5 hown hAB.1 hP 10 rfl rfl 0 (by decide) (hts (.fieldLink RX4 48 "BarnBench$Tasks" "count" "I") (by decide +kernel)) (fun _ h9 => h9) rfl dX4_lay_2 ?_
  refine fC_38_count hx hb hAB hP hD hS hts inn_X4_lay_4 hown (hts (.fieldLink RX4 54 "BarnBench$Net" "count" "I") (by decide +kernel)) dX4_lay_5 (fun nC_1 H locs e_2 hP hD hS => ?_)
  have h := h nC_1 e_2
  refine lv_aload_n hx hb dX4_lay_8 rfl (lv_at hl 1 rfl) ?_
  refine lv_aload_n hx hb dX4_lay_9 rfl (lv_at hl 0 rfl) ?_
  refine va_get (D := D) (ci := 4) (C := RX4) (T := TX4) (N := 15) hx hb hts inn_X4_lay_4 hown hAB.1 hP 38 rfl rfl 1 (by decide) (hts (.fieldLink RX4 9 "BarnBench$Net" "row" "[I") (by decide +kernel)) (fun _ h9 => h9) rfl dX4_lay_10 ?_
  refine cl_v hD hS hA (va_runV (As := [.ref (ad 39)]) (rest := []) ⟨hx, hb, hml, hown, hts⟩ (ct_X5_arrange_2 h H.size) (cwV 1 hts gX4_lay_X5_arrange rfl rfl rfl (by decide +kernel) ⟨Nat.le_of_ble_eq_true rfl, Nat.le_of_ble_eq_true rfl⟩) ⟨CPre.blind, va_recv hAB.1 hP (ci := 5) (q0 := 10) rfl rfl, wd_pre hAB hP hD hS hA⟩ rfl rfl hl.1 rfl (lv_room (Nat.le_of_ble_eq_true rfl)) dX4_lay_13 ⟨Nat.zero_le _, Nat.zero_le _⟩) (fun nRo_3 H locs h hP hD hS => ?_)
  have hP : va_P D vwCl (WC cI cJ cE cD ad bd dd bHK bHP bPF bWC bRi bBe bFi bWa dB dS dN tC tKi tEa tHa tPr tEx tSt tTo tBe kC kKi kEa kHa kPr kEx kSt kTo kBe aC aWh aTa aWa iRo iEa iLa cC nC_1 nFo nQd nRo_3 nBe nEa nMi nHa nER nMR nTh nPa nOu nFr nQu eM eL eC eS eB eE eF eG) H := hP
  have hD : va_D A (WC cI cJ cE cD ad bd dd bHK bHP bPF bWC bRi bBe bFi bWa dB dS dN tC tKi tEa tHa tPr tEx tSt tTo tBe kC kKi kEa kHa kPr kEx kSt kTo kBe aC aWh aTa aWa iRo iEa iLa cC nC_1 nFo nQd nRo_3 nBe nEa nMi nHa nER nMR nTh nPa nOu nFr nQu eM eL eC eS eB eE eF eG) := hD
  refine lv_aload_n hx hb dX4_lay_16 rfl (lv_at hl 0 rfl) ?_
  refine va_get (D := D) (ci := 4) (C := RX4) (T := TX4) (N := 15) hx hb hts inn_X4_lay_4 hown hAB.1 hP 38 rfl rfl 9 (by decide) (hts (.fieldLink RX4 33 "BarnBench$Net" "through" "[I") (by decide +kernel)) (fun _ h9 => h9) rfl dX4_lay_17 ?_
  refine lv_iconst (v := 0) hx hb dX4_lay_20 (by decide) ?_
  refine cl_v hD hS hA (va_runS (As := [.ref (ad 46), .int 0]) (rest := []) ⟨hx, hb, hml, hown, hts⟩ (ct_J7_fill_53178 (q := 46) rfl (by decide) H.size) (va_cwS 2 hts gX4_lay_J7_fill_53178 rfl rfl rfl (by decide +kernel) ⟨Nat.le_of_ble_eq_true rfl, Nat.le_of_ble_eq_true rfl⟩) ⟨CPre.blind, wd_pre hAB hP hD hS hA⟩ rfl rfl hl.1 rfl (lv_room (Nat.le_of_ble_eq_true rfl)) dX4_lay_21 ⟨Nat.zero_le _, Nat.zero_le _⟩) (fun u H locs _ hP hD hS => ?_)
  obtain ⟨nTh_4, e_5⟩ : ∃ z, z = jFill nTh 12 0 := ⟨_, rfl⟩
  have hP : va_P D vwCl (WC cI cJ cE cD ad bd dd bHK bHP bPF bWC bRi bBe bFi bWa dB dS dN tC tKi tEa tHa tPr tEx tSt tTo tBe kC kKi kEa kHa kPr kEx kSt kTo kBe aC aWh aTa aWa iRo iEa iLa cC nC_1 nFo nQd nRo_3 nBe nEa nMi nHa nER nMR nTh_4 nPa nOu nFr nQu eM eL eC eS eB eE eF eG) H := by rw [e_5]; exact hP
  have hD : va_D A (WC cI cJ cE cD ad bd dd bHK bHP bPF bWC bRi bBe bFi bWa dB dS dN tC tKi tEa tHa tPr tEx tSt tTo tBe kC kKi kEa kHa kPr kEx kSt kTo kBe aC aWh aTa aWa iRo iEa iLa cC nC_1 nFo nQd nRo_3 nBe nEa nMi nHa nER nMR nTh_4 nPa nOu nFr nQu eM eL eC eS eB eE eF eG) := by rw [e_5]; exact hD
  have h := h nTh_4 e_5
  refine lv_aload_n hx hb dX4_lay_24 rfl (lv_at hl 0 rfl) ?_
  refine va_get (D := D) (ci := 4) (C := RX4) (T := TX4) (N := 15) hx hb hts inn_X4_lay_4 hown hAB.1 hP 38 rfl rfl 10 (by decide) (hts (.fieldLink RX4 36 "BarnBench$Net" "passed" "[I") (by decide +kernel)) (fun _ h9 => h9) rfl dX4_lay_25 ?_
  refine lv_iconst (v := 0) hx hb dX4_lay_28 (by decide) ?_
  refine cl_v hD hS hA (va_runS (As := [.ref (ad 47), .int 0]) (rest := []) ⟨hx, hb, hml, hown, hts⟩ (ct_J7_fill_53178 (q := 47) rfl (by decide) H.size) (va_cwS 2 hts gX4_lay_J7_fill_53178 rfl rfl rfl (by decide +kernel) ⟨Nat.le_of_ble_eq_true rfl, Nat.le_of_ble_eq_true rfl⟩) ⟨CPre.blind, wd_pre hAB hP hD hS hA⟩ rfl rfl hl.1 rfl (lv_room (Nat.le_of_ble_eq_true rfl)) dX4_lay_29 ⟨Nat.zero_le _, Nat.zero_le _⟩) (fun u H locs _ hP hD hS => ?_)
  obtain ⟨nPa_6, e_7⟩ : ∃ z, z = jFill nPa 144 0 := ⟨_, rfl⟩
  have hP : va_P D vwCl (WC cI cJ cE cD ad bd dd bHK bHP bPF bWC bRi bBe bFi bWa dB dS dN tC tKi tEa tHa tPr tEx tSt tTo tBe kC kKi kEa kHa kPr kEx kSt kTo kBe aC aWh aTa aWa iRo iEa iLa cC nC_1 nFo nQd nRo_3 nBe nEa nMi nHa nER nMR nTh_4 nPa_6 nOu nFr nQu eM eL eC eS eB eE eF eG) H := by rw [e_7]; exact hP
  have hD : va_D A (WC cI cJ cE cD ad bd dd bHK bHP bPF bWC bRi bBe bFi bWa dB dS dN tC tKi tEa tHa tPr tEx tSt tTo tBe kC kKi kEa kHa kPr kEx kSt kTo kBe aC aWh aTa aWa iRo iEa iLa cC nC_1 nFo nQd nRo_3 nBe nEa nMi nHa nER nMR nTh_4 nPa_6 nOu nFr nQu eM eL eC eS eB eE eF eG) := by rw [e_7]; exact hD
  have h := h nPa_6 e_7
  refine lv_aload_n hx hb dX4_lay_32 rfl (lv_at hl 0 rfl) ?_
  refine va_get (D := D) (ci := 4) (C := RX4) (T := TX4) (N := 15) hx hb hts inn_X4_lay_4 hown hAB.1 hP 38 rfl rfl 11 (by decide) (hts (.fieldLink RX4 39 "BarnBench$Net" "out" "[I") (by decide +kernel)) (fun _ h9 => h9) rfl dX4_lay_33 ?_
  refine lv_iconst (v := 0) hx hb dX4_lay_36 (by decide) ?_
  refine cl_v hD hS hA (va_runS (As := [.ref (ad 48), .int 0]) (rest := []) ⟨hx, hb, hml, hown, hts⟩ (ct_J7_fill_53178 (q := 48) rfl (by decide) H.size) (va_cwS 2 hts gX4_lay_J7_fill_53178 rfl rfl rfl (by decide +kernel) ⟨Nat.le_of_ble_eq_true rfl, Nat.le_of_ble_eq_true rfl⟩) ⟨CPre.blind, wd_pre hAB hP hD hS hA⟩ rfl rfl hl.1 rfl (lv_room (Nat.le_of_ble_eq_true rfl)) dX4_lay_37 ⟨Nat.zero_le _, Nat.zero_le _⟩) (fun u H locs _ hP hD hS => ?_)
  obtain ⟨nOu_8, e_9⟩ : ∃ z, z = jFill nOu 12 0 := ⟨_, rfl⟩
  have hP : va_P D vwCl (WC cI cJ cE cD ad bd dd bHK bHP bPF bWC bRi bBe bFi bWa dB dS dN tC tKi tEa tHa tPr tEx tSt tTo tBe kC kKi kEa kHa kPr kEx kSt kTo kBe aC aWh aTa aWa iRo iEa iLa cC nC_1 nFo nQd nRo_3 nBe nEa nMi nHa nER nMR nTh_4 nPa_6 nOu_8 nFr nQu eM eL eC eS eB eE eF eG) H := by rw [e_9]; exact hP
  have hD : va_D A (WC cI cJ cE cD ad bd dd bHK bHP bPF bWC bRi bBe bFi bWa dB dS dN tC tKi tEa tHa tPr tEx tSt tTo tBe kC kKi kEa kHa kPr kEx kSt kTo kBe aC aWh aTa aWa iRo iEa iLa cC nC_1 nFo nQd nRo_3 nBe nEa nMi nHa nER nMR nTh_4 nPa_6 nOu_8 nFr nQu eM eL eC eS eB eE eF eG) := by rw [e_9]; exact hD
  have h := h nOu_8 e_9
  refine lv_aload_n hx hb dX4_lay_40 rfl (lv_at hl 0 rfl) ?_
  refine lv_iconst (v := 0) hx hb dX4_lay_41 (by decide) ?_
  refine fC_38_followed hx hb hAB hP hD hS hts inn_X4_lay_4 hown (hts (.fieldLink RX4 65 "BarnBench$Net" "followed" "I") (by decide +kernel)) dX4_lay_42 (fun nFo_10 H locs e_11 hP hD hS => ?_)
  have h := h nFo_10 e_11
  refine lv_iconst (v := 0) hx hb dX4_lay_45 (by decide) ?_
  refine lv_istore_n (lv' := [(2, .int 0), (0, .ref (ad 38)), (1, .ref (ad 10))]) hx hb dX4_lay_46 rfl hl (by decide) rfl (fun ls hl => ?_)
  have L47 : ∀ (x47 : (Int32) → (Nat → Int32) → (Nat → Int32) → (Nat → Int32) → (Nat → Int32) → (Nat → Int32) → (Nat → Int32) → Prop) (hk47 : ∀ (nFo_20 : Int32) (nBe_21 : Nat → Int32) (nEa_22 : Nat → Int32) (nMi_23 : Nat → Int32) (nHa_24 : Nat → Int32) (nER_25 : Nat → Int32) (nMR_26 : Nat → Int32), x47 nFo_20 nBe_21 nEa_22 nMi_23 nHa_24 nER_25 nMR_26 → ∀ (H : Heap) (locs : List Loc) (ls : Array Slot), va_P D vwCl (WC cI cJ cE cD ad bd dd bHK bHP bPF bWC bRi bBe bFi bWa dB dS dN tC tKi tEa tHa tPr tEx tSt tTo tBe kC kKi kEa kHa kPr kEx kSt kTo kBe aC aWh aTa aWa iRo iEa iLa cC nC_1 nFo_20 nQd nRo_3 nBe_21 nEa_22 nMi_23 nHa_24 nER_25 nMR_26 nTh_4 nPa_6 nOu_8 nFr nQu eM eL eC eS eB eE eF eG) H → va_D A (WC cI cJ cE cD ad bd dd bHK bHP bPF bWC bRi bBe bFi bWa dB dS dN tC tKi tEa tHa tPr tEx tSt tTo tBe kC kKi kEa kHa kPr kEx kSt kTo kBe aC aWh aTa aWa iRo iEa iLa cC nC_1 nFo_20 nQd nRo_3 nBe_21 nEa_22 nMi_23 nHa_24 nER_25 nMR_26 nTh_4 nPa_6 nOu_8 nFr nQu eM eL eC eS eB eE eF eG) → va_S A s.heap H locs → lv_has ls 3 [] → W p l e (headSpec wsX4_lay rm_X4_lay).room s m args below meth c H locs 0 0 Q (F0 m 73 ls [])) (n47 : Nat) (x2_12 : Int32) (nFo_13 : Int32) (nBe_14 : Nat → Int32) (nEa_15 : Nat → Int32) (nMi_16 : Nat → Int32) (nHa_17 : Nat → Int32) (nER_18 : Nat → Int32) (nMR_19 : Nat → Int32), wp_X4_lay_L47 tBe tC tEa tEx tHa tKi tPr tSt nC_1 x47 n47 x2_12 nFo_13 nBe_14 nEa_15 nMi_16 nHa_17 nER_18 nMR_19 → ∀ (H : Heap) (locs : List Loc) (ls : Array Slot), va_P D vwCl (WC cI cJ cE cD ad bd dd bHK bHP bPF bWC bRi bBe bFi bWa dB dS dN tC tKi tEa tHa tPr tEx tSt tTo tBe kC kKi kEa kHa kPr kEx kSt kTo kBe aC aWh aTa aWa iRo iEa iLa cC nC_1 nFo_13 nQd nRo_3 nBe_14 nEa_15 nMi_16 nHa_17 nER_18 nMR_19 nTh_4 nPa_6 nOu_8 nFr nQu eM eL eC eS eB eE eF eG) H → va_D A (WC cI cJ cE cD ad bd dd bHK bHP bPF bWC bRi bBe bFi bWa dB dS dN tC tKi tEa tHa tPr tEx tSt tTo tBe kC kKi kEa kHa kPr kEx kSt kTo kBe aC aWh aTa aWa iRo iEa iLa cC nC_1 nFo_13 nQd nRo_3 nBe_14 nEa_15 nMi_16 nHa_17 nER_18 nMR_19 nTh_4 nPa_6 nOu_8 nFr nQu eM eL eC eS eB eE eF eG) → va_S A s.heap H locs → lv_has ls 3 [(0, .ref (ad 38)), (1, .ref (ad 10)), (2, .int x2_12)] → W p l e (headSpec wsX4_lay rm_X4_lay).room s m args below meth c H locs 0 0 Q (F0 m 47 ls []) := by
    intro x47 hk47 n47
    induction n47 with
    | zero => intro x2_12 nFo_13 nBe_14 nEa_15 nMi_16 nHa_17 nER_18 nMR_19 h; exact False.elim h
    | succ n47 ih47 =>
      intro x2_12 nFo_13 nBe_14 nEa_15 nMi_16 nHa_17 nER_18 nMR_19 h H locs ls hP hD hS hl
      refine lv_iload_n hx hb dX4_lay_47 rfl (lv_at hl 2 rfl) ?_
      refine lv_aload_n hx hb dX4_lay_48 rfl (lv_at hl 0 rfl) ?_
      refine va_get (D := D) (ci := 4) (C := RX4) (T := TX4) (N := 15) hx hb hts inn_X4_lay_4 hown hAB.1 hP 38 rfl rfl 0 (by decide) (hts (.fieldLink RX4 54 "BarnBench$Net" "count" "I") (by decide +kernel)) (fun _ h9 => h9) rfl dX4_lay_49 ?_
      refine lv_icmp_ge (tgt := 73) hx hb dX4_lay_52 (by decide) (fun c_27 => ?_) (fun c_27 => ?_)
      · have h := h.1 c_27
        exact hk47 nFo_13 nBe_14 nEa_15 nMi_16 nHa_17 nER_18 nMR_19 h H locs ls hP hD hS (lv_sub hl [] rfl)
      · have h := h.2 c_27
        refine lv_aload_n hx hb dX4_lay_55 rfl (lv_at hl 0 rfl) ?_
        refine lv_aload_n hx hb dX4_lay_56 rfl (lv_at hl 1 rfl) ?_
        refine lv_iload_n hx hb dX4_lay_57 rfl (lv_at hl 2 rfl) ?_
        refine cl_v hD hS hA (va_runV (As := [.ref (ad 10), .int x2_12]) (rest := []) ⟨hx, hb, hml, hown, hts⟩ (ct_X4_layPairs h H.size) (cwV 2 hts gX4_lay_X4_layPairs rfl rfl rfl (by decide +kernel) ⟨Nat.le_of_ble_eq_true rfl, Nat.le_of_ble_eq_true rfl⟩) ⟨CPre.blind, va_recv hAB.1 hP (ci := 4) (q0 := 38) rfl rfl, wd_pre hAB hP hD hS hA⟩ rfl rfl hl.1 rfl (lv_room (Nat.le_of_ble_eq_true rfl)) dX4_lay_58 ⟨Nat.zero_le _, Nat.zero_le _⟩) (fun u H locs h hP hD hS => ?_)
        obtain ⟨nFo_28, nBe_29⟩ := u
        have hP : va_P D vwCl (WC cI cJ cE cD ad bd dd bHK bHP bPF bWC bRi bBe bFi bWa dB dS dN tC tKi tEa tHa tPr tEx tSt tTo tBe kC kKi kEa kHa kPr kEx kSt kTo kBe aC aWh aTa aWa iRo iEa iLa cC nC_1 nFo_28 nQd nRo_3 nBe_29 nEa_15 nMi_16 nHa_17 nER_18 nMR_19 nTh_4 nPa_6 nOu_8 nFr nQu eM eL eC eS eB eE eF eG) H := hP
        have hD : va_D A (WC cI cJ cE cD ad bd dd bHK bHP bPF bWC bRi bBe bFi bWa dB dS dN tC tKi tEa tHa tPr tEx tSt tTo tBe kC kKi kEa kHa kPr kEx kSt kTo kBe aC aWh aTa aWa iRo iEa iLa cC nC_1 nFo_28 nQd nRo_3 nBe_29 nEa_15 nMi_16 nHa_17 nER_18 nMR_19 nTh_4 nPa_6 nOu_8 nFr nQu eM eL eC eS eB eE eF eG) := hD
        refine lv_aload_n hx hb dX4_lay_61 rfl (lv_at hl 0 rfl) ?_
        refine lv_aload_n hx hb dX4_lay_62 rfl (lv_at hl 1 rfl) ?_
        refine lv_iload_n hx hb dX4_lay_63 rfl (lv_at hl 2 rfl) ?_
        refine cl_v hD hS hA (va_runV (As := [.ref (ad 10), .int x2_12]) (rest := []) ⟨hx, hb, hml, hown, hts⟩ (ct_X4_layRoom h H.size) (cwV 2 hts gX4_lay_X4_layRoom rfl rfl rfl (by decide +kernel) ⟨Nat.le_of_ble_eq_true rfl, Nat.le_of_ble_eq_true rfl⟩) ⟨CPre.blind, va_recv hAB.1 hP (ci := 4) (q0 := 38) rfl rfl, wd_pre hAB hP hD hS hA⟩ rfl rfl hl.1 rfl (lv_room (Nat.le_of_ble_eq_true rfl)) dX4_lay_64 ⟨Nat.zero_le _, Nat.zero_le _⟩) (fun u H locs h hP hD hS => ?_)
        obtain ⟨nEa_30, nMi_31, nHa_32, nER_33, nMR_34⟩ := u
        have hP : va_P D vwCl (WC cI cJ cE cD ad bd dd bHK bHP bPF bWC bRi bBe bFi bWa dB dS dN tC tKi tEa tHa tPr tEx tSt tTo tBe kC kKi kEa kHa kPr kEx kSt kTo kBe aC aWh aTa aWa iRo iEa iLa cC nC_1 nFo_28 nQd nRo_3 nBe_29 nEa_30 nMi_31 nHa_32 nER_33 nMR_34 nTh_4 nPa_6 nOu_8 nFr nQu eM eL eC eS eB eE eF eG) H := hP
        have hD : va_D A (WC cI cJ cE cD ad bd dd bHK bHP bPF bWC bRi bBe bFi bWa dB dS dN tC tKi tEa tHa tPr tEx tSt tTo tBe kC kKi kEa kHa kPr kEx kSt kTo kBe aC aWh aTa aWa iRo iEa iLa cC nC_1 nFo_28 nQd nRo_3 nBe_29 nEa_30 nMi_31 nHa_32 nER_33 nMR_34 nTh_4 nPa_6 nOu_8 nFr nQu eM eL eC eS eB eE eF eG) := hD
        obtain ⟨x2_35, e_36⟩ : ∃ y : Int32, y = x2_12 + 1 := ⟨_, rfl⟩
        have h := h x2_35 e_36
        refine lv_iinc (v := x2_35) (lv' := [(2, .int x2_35), (0, .ref (ad 38)), (1, .ref (ad 10))]) hx hb dX4_lay_67 hl (k := 2) rfl (by rw [e_36]; rfl) (by decide) rfl (fun ls hl => ?_)
        refine lv_goto (tgt := 47) hx hb dX4_lay_70 (by decide) ?_
        exact ih47 x2_35 nFo_28 nBe_29 nEa_30 nMi_31 nHa_32 nER_33 nMR_34 h H locs ls hP hD hS (lv_sub hl [1, 2, 0] rfl)
  obtain ⟨n47, h⟩ := h
  refine L47 _ (fun nFo_20 nBe_21 nEa_22 nMi_23 nHa_24 nER_25 nMR_26 h H locs ls hP hD hS hl => ?_) n47 0 nFo_10 nBe nEa nMi nHa nER nMR h H locs ls hP hD hS (lv_sub hl [1, 2, 0] rfl)
  exact rt_v (nC_1, nFo_20, nRo_3, nBe_21, nEa_22, nMi_23, nHa_24, nER_25, nMR_26, nTh_4, nPa_6, nOu_8) hQ hx hb hr hlk hP hD hS ⟨Nat.zero_le _, Nat.zero_le _⟩ dX4_lay_73 h
