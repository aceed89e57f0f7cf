def wp_X7_finding (bFi : Int32) (a1 : Int32) (Qp : Int32 → (Int32) → Prop) : Prop :=
  ∀ bFi_1 : Int32, bFi_1 = (bFi + 1) → Qp a1 bFi_1
theorem inn_X7_finding_7 : ∀ w ∈ u_ws RX7 TX7 14, w ∈ wsX7_finding := fun _ h => List.mem_cons_of_mem _ (List.mem_append_right _ h)
def rm_X7_finding : Room := { frames := 0, cells := 0, slots := 0, locals := 0 }
set_option maxHeartbeats 4000000 in
set_option maxRecDepth 100000 in
theorem ct_X7_finding {l : Launch} {D : va_G} {cI cJ cZ cE cD cK : ClassId} {ad : Nat → Nat} {bd dd : Nat → Nat → Nat} {bHK : Int32} {bHP : Int32} {bPF : Int32} {bWC : Int32} {bRi : Int32} {bBe : Int32} {bFi : Int32} {bWa : Nat → Int32} {dB : Nat → Int32} {dS : Nat → Int32} {dN : Nat → Nat → Int64} {tC : Int32} {tKi : Nat → Int32} {tEa : Nat → Int32} {tHa : Nat → Int32} {tPr : Nat → Int32} {tEx : Nat → Int32} {tSt : Nat → Int32} {tTo : Nat → Int32} {tBe : Nat → Int32} {kC : Int32} {kKi : Nat → Int32} {kEa : Nat → Int32} {kHa : Nat → Int32} {kPr : Nat → Int32} {kEx : Nat → Int32} {kSt : Nat → Int32} {kTo : Nat → Int32} {kBe : Nat → Int32} {aC : Int32} {aWh : Nat → Int32} {aTa : Nat → Int32} {aWa : Nat → Int32} {iRo : Nat → Int32} {iEa : Nat → Int32} {iLa : Nat → Int32} {cC : Int32} {nC : Int32} {nFo : Int32} {nQd : Int32} {nRo : Nat → Int32} {nBe : Nat → Int32} {nEa : Nat → Int32} {nMi : Nat → Int32} {nHa : Nat → Int32} {nER : Nat → Int32} {nMR : Nat → Int32} {nTh : Nat → Int32} {nPa : Nat → Int32} {nOu : Nat → Int32} {nFr : Nat → Int32} {nQu : Nat → Int32} {eM : Nat} {eL : Nat → Int32} {eC : Nat → Int64} {eS : Nat → Int64} {eB : Nat → Nat → Int32} {eE : Nat → Nat → Int32} {eF : Nat → Nat → Int32} {eG : Nat → Nat → Int32}   {a1 : Int32} {Qp : Int32 → (Int32) → Prop}   (h : wp_X7_finding bFi a1 Qp) : CTi l yX7_finding wsX7_finding rm_X7_finding D (tyL cI cJ cZ cE cD cK) [.ref (ad 0), .int a1] (WC cI cJ cE cD ad bd dd bHK bHP bPF bWC bRi bBe bFi bWa dB dS dN tC tKi tEa tHa tPr tEx tSt tTo tBe kC kKi kEa kHa kPr kEx kSt kTo kBe aC aWh aTa aWa iRo iEa iLa cC nC nFo nQd nRo nBe nEa nMi nHa nER nMR nTh nPa nOu nFr nQu eM eL eC eS eB eE eF eG) (fun (r : Int32) (u : (Int32)) => Qp r u) (fun u : (Int32) => (WC cI cJ cE cD ad bd dd bHK bHP bPF bWC bRi bBe u bWa dB dS dN tC tKi tEa tHa tPr tEx tSt tTo tBe kC kKi kEa kHa kPr kEx kSt kTo kBe aC aWh aTa aWa iRo iEa iLa cC nC nFo nQd nRo nBe nEa nMi nHa nER nMR nTh nPa nOu nFr nQu eM eL eC eS eB eE eF eG)) 0 0 := by
  refine ent_i (cc := cX7_finding) (maxL := 2) (ret := (some .int)) (by decide) rfl (Nat.le_of_ble_eq_true rfl) ?_
  intro p e s m args below meth c A Q hQ hx hb hr hml hown hts hlk hA hAB hP hD hS ls hl
  have hown : s.vm.findClass RX7 = some m.cls := hown
  have hl : lv_has ls 2 [(0, .ref (ad 0)), (1, .int a1)] := hl
  generalize hH : s.heap = H at hP ⊢
  have hS : va_S A s.heap H [] := by rw [← hH]; exact hS
  clear hH
  generalize ([] : List Loc) = locs at hS ⊢
  refine lv_aload_n hx hb dX7_finding_0 rfl (lv_at hl 0 rfl) ?_
  refine lv_dup hx hb dX7_finding_1 rfl ?_
  refine va_get (D := D) (ci := 7) (C := RX7) (T := TX7) (N := 14) hx hb hts inn_X7_finding_7 hown hAB.1 hP 0 rfl rfl 13 (by decide) (hts (.fieldLink RX7 280 "BarnBench" "findings" "I") (by decide +kernel)) (fun _ h9 => h9) rfl dX7_finding_2 ?_
  refine lv_iconst (v := 1) hx hb dX7_finding_5 (by decide) ?_
  refine lv_iadd hx hb dX7_finding_6 ?_
  refine fC_0_findings hx hb hAB hP hD hS hts inn_X7_finding_7 hown (hts (.fieldLink RX7 280 "BarnBench" "findings" "I") (by decide +kernel)) dX7_finding_7 (fun bFi_1 H locs e_2 hP hD hS => ?_)
  have h := h bFi_1 e_2
  refine lv_iload_n hx hb dX7_finding_10 rfl (lv_at hl 1 rfl) ?_
  exact rt_i (bFi_1) hQ hx hb hr hlk hP hD hS ⟨Nat.zero_le _, Nat.zero_le _⟩ dX7_finding_11 h
def wp_X7_forgetPlans (bHP : Int32) (cC : Int32)  (Qp : (Int32) → (Int32) → Prop) : Prop :=
  ∀ bHP_1 : Int32, bHP_1 = 0 → ∀ cC_3 : Int32, cC_3 = 0 → Qp bHP_1 cC_3
theorem inn_X7_forgetPlans_3 : ∀ w ∈ u_ws RX3 TX3 3, w ∈ wsX7_forgetPlans := fun _ h => List.mem_cons_of_mem _ (List.mem_append_right _ h)
theorem inn_X7_forgetPlans_7 : ∀ w ∈ u_ws RX7 TX7 14, w ∈ wsX7_forgetPlans := fun _ h => List.mem_cons_of_mem _ (List.mem_append_left _ (List.mem_append_right _ h))
def rm_X7_forgetPlans : Room := { frames := 0, cells := 0, slots := 0, locals := 0 }
set_option maxHeartbeats 4000000 in
set_option maxRecDepth 100000 in
theorem ct_X7_forgetPlans {l : Launch} {D : va_G} {cI cJ cZ cE cD cK : ClassId} {ad : Nat → Nat} {bd dd : Nat → Nat → Nat} {bHK : Int32} {bHP : Int32} {bPF : Int32} {bWC : Int32} {bRi : Int32} {bBe : Int32} {bFi : Int32} {bWa : Nat → Int32} {dB : Nat → Int32} {dS : Nat → Int32} {dN : Nat → Nat → Int64} {tC : Int32} {tKi : Nat → Int32} {tEa : Nat → Int32} {tHa : Nat → Int32} {tPr : Nat → Int32} {tEx : Nat → Int32} {tSt : Nat → Int32} {tTo : Nat → Int32} {tBe : Nat → Int32} {kC : Int32} {kKi : Nat → Int32} {kEa : Nat → Int32} {kHa : Nat → Int32} {kPr : Nat → Int32} {kEx : Nat → Int32} {kSt : Nat → Int32} {kTo : Nat → Int32} {kBe : Nat → Int32} {aC : Int32} {aWh : Nat → Int32} {aTa : Nat → Int32} {aWa : Nat → Int32} {iRo : Nat → Int32} {iEa : Nat → Int32} {iLa : Nat → Int32} {cC : Int32} {nC : Int32} {nFo : Int32} {nQd : Int32} {nRo : Nat → Int32} {nBe : Nat → Int32} {nEa : Nat → Int32} {nMi : Nat → Int32} {nHa : Nat → Int32} {nER : Nat → Int32} {nMR : Nat → Int32} {nTh : Nat → Int32} {nPa : Nat → Int32} {nOu : Nat → Int32} {nFr : Nat → Int32} {nQu : Nat → Int32} {eM : Nat} {eL : Nat → Int32} {eC : Nat → Int64} {eS : Nat → Int64} {eB : Nat → Nat → Int32} {eE : Nat → Nat → Int32} {eF : Nat → Nat → Int32} {eG : Nat → Nat → Int32}    {Qp : (Int32) → (Int32) → Prop}   (h : wp_X7_forgetPlans bHP cC Qp) : CTv l yX7_forgetPlans wsX7_forgetPlans rm_X7_forgetPlans D (tyL cI cJ cZ cE cD cK) [.ref (ad 0)] (WC cI cJ cE cD ad bd dd bHK bHP bPF bWC bRi bBe bFi bWa dB dS dN tC tKi tEa tHa tPr tEx tSt tTo tBe kC kKi kEa kHa kPr kEx kSt kTo kBe aC aWh aTa aWa iRo iEa iLa cC nC nFo nQd nRo nBe nEa nMi nHa nER nMR nTh nPa nOu nFr nQu eM eL eC eS eB eE eF eG) (fun u : (Int32) × (Int32) => Qp u.1 u.2) (fun u : (Int32) × (Int32) => (WC cI cJ cE cD ad bd dd bHK u.1 bPF bWC bRi bBe bFi bWa dB dS dN tC tKi tEa tHa tPr tEx tSt tTo tBe kC kKi kEa kHa kPr kEx kSt kTo kBe aC aWh aTa aWa iRo iEa iLa u.2 nC nFo nQd nRo nBe nEa nMi nHa nER nMR nTh nPa nOu nFr nQu eM eL eC eS eB eE eF eG)) 0 0 := by
  refine ent_v (cc := cX7_forgetPlans) (maxL := 1) (ret := none) (by decide) rfl (Nat.le_of_ble_eq_true rfl) ?_
  intro p e s m args below meth c A Q hQ hx hb hr hml hown hts hlk hA hAB hP hD hS ls hl
  have hown : s.vm.findClass RX7 = some m.cls := hown
  have hl : lv_has ls 1 [(0, .ref (ad 0))] := hl
  generalize hH : s.heap = H at hP ⊢
  have hS : va_S A s.heap H [] := by rw [← hH]; exact hS
  clear hH
  generalize ([] : List Loc) = locs at hS ⊢
  refine lv_aload_n hx hb dX7_forgetPlans_0 rfl (lv_at hl 0 rfl) ?_
  refine lv_iconst (v := 0) hx hb dX7_forgetPlans_1 (by decide) ?_
  refine fC_0_hasPlan hx hb hAB hP hD hS hts inn_X7_forgetPlans_7 hown (hts (.fieldLink RX7 228 "BarnBench" "hasPlan" "Z") (by decide +kernel)) (by decide) dX7_forgetPlans_2 (fun bHP_1 H locs e_2 hP hD hS => ?_)
  have h := h bHP_1 e_2
  refine lv_aload_n hx hb dX7_forgetPlans_5 rfl (lv_at hl 0 rfl) ?_
  refine va_get (D := D) (ci := 7) (C := RX7) (T := TX7) (N := 14) hx hb hts inn_X7_forgetPlans_7 hown hAB.1 hP 0 rfl rfl 6 (by decide) (hts (.fieldLink RX7 43 "BarnBench" "curve" "LBarnBench$Curve;") (by decide +kernel)) (fun _ h9 => h9) rfl dX7_forgetPlans_6 ?_
  refine lv_iconst (v := 0) hx hb dX7_forgetPlans_9 (by decide) ?_
  refine fC_36_count hx hb hAB hP hD hS hts inn_X7_forgetPlans_3 hown (hts (.fieldLink RX7 216 "BarnBench$Curve" "count" "I") (by decide +kernel)) dX7_forgetPlans_10 (fun cC_3 H locs e_4 hP hD hS => ?_)
  have h := h cC_3 e_4
  exact rt_v (bHP_1, cC_3) hQ hx hb hr hlk hP hD hS ⟨Nat.zero_le _, Nat.zero_le _⟩ dX7_forgetPlans_13 h
def wp_X7_changeBefore (bHP : Int32) (tBe : Nat → Int32) (aC : Int32) (aWh : Nat → Int32) (aTa : Nat → Int32) (aWa : Nat → Int32) (cC : Int32) (a1 : Int32) (a2 : Int32) (Qp : Int32 → (Int32) → (Nat → Int32) → (Int32) → (Nat → Int32) → (Nat → Int32) → (Nat → Int32) → (Int32) → Prop) : Prop :=
  vp_in a1 12 ∧ wp_X0_add aC aWh aTa aWa 1 a1 (tBe (Int32.toNatClampNeg a1)) (fun (aC_1 : Int32) (aWh_2 : Nat → Int32) (aTa_3 : Nat → Int32) (aWa_4 : Nat → Int32) => vp_in a1 12 ∧ ∀ tBe_5 : Nat → Int32, tBe_5 = upd tBe (Int32.toNatClampNeg a1) a2 → wp_X7_forgetPlans bHP cC (fun (bHP_7 : Int32) (cC_8 : Int32) => Qp (jBits a2) bHP_7 tBe_5 aC_1 aWh_2 aTa_3 aWa_4 cC_8))
theorem inn_X7_changeBefore_5 : ∀ w ∈ u_ws RX5 TX5 9, w ∈ wsX7_changeBefore := fun _ h => List.mem_cons_of_mem _ (List.mem_append_left _ (List.mem_append_left _ (List.mem_append_right _ h)))
theorem inn_X7_changeBefore_7 : ∀ w ∈ u_ws RX7 TX7 14, w ∈ wsX7_changeBefore := fun _ h => List.mem_cons_of_mem _ (List.mem_append_left _ (List.mem_append_left _ (List.mem_append_left _ (List.mem_append_right _ h))))
def rm_X7_changeBefore : Room := { frames := 2, cells := 0, slots := 0, locals := 83 }
set_option maxHeartbeats 4000000 in
set_option maxRecDepth 100000 in
theorem ct_X7_changeBefore {l : Launch} {D : va_G} {cI cJ cZ cE cD cK : ClassId} {ad : Nat → Nat} {bd dd : Nat → Nat → Nat} {bHK : Int32} {bHP : Int32} {bPF : Int32} {bWC : Int32} {bRi : Int32} {bBe : Int32} {bFi : Int32} {bWa : Nat → Int32} {dB : Nat → Int32} {dS : Nat → Int32} {dN : Nat → Nat → Int64} {tC : Int32} {tKi : Nat → Int32} {tEa : Nat → Int32} {tHa : Nat → Int32} {tPr : Nat → Int32} {tEx : Nat → Int32} {tSt : Nat → Int32} {tTo : Nat → Int32} {tBe : Nat → Int32} {kC : Int32} {kKi : Nat → Int32} {kEa : Nat → Int32} {kHa : Nat → Int32} {kPr : Nat → Int32} {kEx : Nat → Int32} {kSt : Nat → Int32} {kTo : Nat → Int32} {kBe : Nat → Int32} {aC : Int32} {aWh : Nat → Int32} {aTa : Nat → Int32} {aWa : Nat → Int32} {iRo : Nat → Int32} {iEa : Nat → Int32} {iLa : Nat → Int32} {cC : Int32} {nC : Int32} {nFo : Int32} {nQd : Int32} {nRo : Nat → Int32} {nBe : Nat → Int32} {nEa : Nat → Int32} {nMi : Nat → Int32} {nHa : Nat → Int32} {nER : Nat → Int32} {nMR : Nat → Int32} {nTh : Nat → Int32} {nPa : Nat → Int32} {nOu : Nat → Int32} {nFr : Nat → Int32} {nQu : Nat → Int32} {eM : Nat} {eL : Nat → Int32} {eC : Nat → Int64} {eS : Nat → Int64} {eB : Nat → Nat → Int32} {eE : Nat → Nat → Int32} {eF : Nat → Nat → Int32} {eG : Nat → Nat → Int32}   {a1 : Int32} {a2 : Int32} {Qp : Int32 → (Int32) → (Nat → Int32) → (Int32) → (Nat → Int32) → (Nat → Int32) → (Nat → Int32) → (Int32) → Prop}   (h : wp_X7_changeBefore bHP tBe aC aWh aTa aWa cC a1 a2 Qp) : CTi l yX7_changeBefore wsX7_changeBefore rm_X7_changeBefore D (tyL cI cJ cZ cE cD cK) [.ref (ad 0), .int a1, .int a2] (WC cI cJ cE cD ad bd dd bHK bHP bPF bWC bRi bBe bFi bWa dB dS dN tC tKi tEa tHa tPr tEx tSt tTo tBe kC kKi kEa kHa kPr kEx kSt kTo kBe aC aWh aTa aWa iRo iEa iLa cC nC nFo nQd nRo nBe nEa nMi nHa nER nMR nTh nPa nOu nFr nQu eM eL eC eS eB eE eF eG) (fun (r : Int32) (u : (Int32) × (Nat → Int32) × (Int32) × (Nat → Int32) × (Nat → Int32) × (Nat → Int32) × (Int32)) => Qp r u.1 u.2.1 u.2.2.1 u.2.2.2.1 u.2.2.2.2.1 u.2.2.2.2.2.1 u.2.2.2.2.2.2) (fun u : (Int32) × (Nat → Int32) × (Int32) × (Nat → Int32) × (Nat → Int32) × (Nat → Int32) × (Int32) => (WC cI cJ cE cD ad bd dd bHK u.1 bPF bWC bRi bBe bFi bWa dB dS dN tC tKi tEa tHa tPr tEx tSt tTo u.2.1 kC kKi kEa kHa kPr kEx kSt kTo kBe u.2.2.1 u.2.2.2.1 u.2.2.2.2.1 u.2.2.2.2.2.1 iRo iEa iLa u.2.2.2.2.2.2 nC nFo nQd nRo nBe nEa nMi nHa nER nMR nTh nPa nOu nFr nQu eM eL eC eS eB eE eF eG)) 0 0 := by
  refine ent_i (cc := cX7_changeBefore) (maxL := 3) (ret := (some .int)) (by decide) rfl (Nat.le_of_ble_eq_true rfl) ?_
  intro p e s m args below meth c A Q hQ hx hb hr hml hown hts hlk hA hAB hP hD hS ls hl
  have hown : s.vm.findClass RX7 = some m.cls := hown
  have hl : lv_has ls 3 [(0, .ref (ad 0)), (1, .int a1), (2, .int a2)] := hl
  generalize hH : s.heap = H at hP ⊢
  have hS : va_S A s.heap H [] := by rw [← hH]; exact hS
  clear hH
  generalize ([] : List Loc) = locs at hS ⊢
  refine lv_aload_n hx hb dX7_changeBefore_0 rfl (lv_at hl 0 rfl) ?_
  refine va_get (D := D) (ci := 7) (C := RX7) (T := TX7) (N := 14) hx hb hts inn_X7_changeBefore_7 hown hAB.1 hP 0 rfl rfl 4 (by decide) (hts (.fieldLink RX7 29 "BarnBench" "acts" "LBarnBench$Acts;") (by decide +kernel)) (fun _ h9 => h9) rfl dX7_changeBefore_1 ?_
  refine lv_iconst (v := 1) hx hb dX7_changeBefore_4 (by decide) ?_
  refine lv_iload_n hx hb dX7_changeBefore_5 rfl (lv_at hl 1 rfl) ?_
  refine lv_aload_n hx hb dX7_changeBefore_6 rfl (lv_at hl 0 rfl) ?_
  refine va_get (D := D) (ci := 7) (C := RX7) (T := TX7) (N := 14) hx hb hts inn_X7_changeBefore_7 hown hAB.1 hP 0 rfl rfl 1 (by decide) (hts (.fieldLink RX7 19 "BarnBench" "tasks" "LBarnBench$Tasks;") (by decide +kernel)) (fun _ h9 => h9) rfl dX7_changeBefore_7 ?_
  refine va_get (D := D) (ci := 5) (C := RX5) (T := TX5) (N := 9) hx hb hts inn_X7_changeBefore_5 hown hAB.1 hP 10 rfl rfl 8 (by decide) (hts (.fieldLink RX7 126 "BarnBench$Tasks" "before" "[I") (by decide +kernel)) (fun _ h9 => h9) rfl dX7_changeBefore_10 ?_
  refine lv_iload_n hx hb dX7_changeBefore_13 rfl (lv_at hl 1 rfl) ?_
  refine va_iald hx hb hAB.1 hP 18 0 rfl rfl h.1 dX7_changeBefore_14 ?_
  have h := h.2
  refine cl_v hD hS hA (va_runV (As := [.int 1, .int a1, .int (tBe (Int32.toNatClampNeg a1))]) (rest := []) ⟨hx, hb, hml, hown, hts⟩ (ct_X0_add h H.size) (cwV 3 hts gX7_changeBefore_X0_add rfl rfl rfl (by decide +kernel) ⟨Nat.le_of_ble_eq_true rfl, Nat.le_of_ble_eq_true rfl⟩) ⟨CPre.blind, va_recv hAB.1 hP (ci := 0) (q0 := 28) rfl rfl, wd_pre hAB hP hD hS hA⟩ rfl rfl hl.1 rfl (lv_room (Nat.le_of_ble_eq_true rfl)) dX7_changeBefore_15 ⟨Nat.zero_le _, Nat.zero_le _⟩) (fun u H locs h hP hD hS => ?_)
  obtain ⟨aC_1, aWh_2, aTa_3, aWa_4⟩ := u
  have hP : va_P D vwCl (WC cI cJ cE cD ad bd dd bHK bHP bPF bWC bRi bBe bFi bWa dB dS dN tC tKi tEa tHa tPr tEx tSt tTo tBe kC kKi kEa kHa kPr kEx kSt kTo kBe aC_1 aWh_2 aTa_3 aWa_4 iRo iEa iLa cC nC nFo nQd nRo nBe nEa nMi nHa nER nMR nTh nPa nOu nFr nQu eM eL eC eS eB eE eF eG) H := hP
  have hD : va_D A (WC cI cJ cE cD ad bd dd bHK bHP bPF bWC bRi bBe bFi bWa dB dS dN tC tKi tEa tHa tPr tEx tSt tTo tBe kC kKi kEa kHa kPr kEx kSt kTo kBe aC_1 aWh_2 aTa_3 aWa_4 iRo iEa iLa cC nC nFo nQd nRo nBe nEa nMi nHa nER nMR nTh nPa nOu nFr nQu eM eL eC eS eB eE eF eG) := hD
  refine lv_aload_n hx hb dX7_changeBefore_18 rfl (lv_at hl 0 rfl) ?_
  refine va_get (D := D) (ci := 7) (C := RX7) (T := TX7) (N := 14) hx hb hts inn_X7_changeBefore_7 hown hAB.1 hP 0 rfl rfl 1 (by decide) (hts (.fieldLink RX7 19 "BarnBench" "tasks" "LBarnBench$Tasks;") (by decide +kernel)) (fun _ h9 => h9) rfl dX7_changeBefore_19 ?_
  refine va_get (D := D) (ci := 5) (C := RX5) (T := TX5) (N := 9) hx hb hts inn_X7_changeBefore_5 hown hAB.1 hP 10 rfl rfl 8 (by decide) (hts (.fieldLink RX7 126 "BarnBench$Tasks" "before" "[I") (by decide +kernel)) (fun _ h9 => h9) rfl dX7_changeBefore_22 ?_
  refine lv_iload_n hx hb dX7_changeBefore_25 rfl (lv_at hl 1 rfl) ?_
  refine lv_iload_n hx hb dX7_changeBefore_26 rfl (lv_at hl 2 rfl) ?_
  refine sC_18 hx hb hAB hP hD hS h.1 dX7_changeBefore_27 (fun tBe_5 H locs e_6 hP hD hS => ?_)
  have h := h.2
  have h := h tBe_5 e_6
  refine lv_aload_n hx hb dX7_changeBefore_28 rfl (lv_at hl 0 rfl) ?_
  refine cl_v hD hS hA (va_runV (As := []) (rest := []) ⟨hx, hb, hml, hown, hts⟩ (ct_X7_forgetPlans h H.size) (cwV 0 hts gX7_changeBefore_X7_forgetPlans rfl rfl rfl (by decide +kernel) ⟨Nat.le_of_ble_eq_true rfl, Nat.le_of_ble_eq_true rfl⟩) ⟨CPre.blind, va_recv hAB.1 hP (ci := 7) (q0 := 0) rfl rfl, wd_pre hAB hP hD hS hA⟩ rfl rfl hl.1 rfl (lv_room (Nat.le_of_ble_eq_true rfl)) dX7_changeBefore_29 ⟨Nat.zero_le _, Nat.zero_le _⟩) (fun u H locs h hP hD hS => ?_)
  obtain ⟨bHP_7, cC_8⟩ := u
  have hP : va_P D vwCl (WC cI cJ cE cD ad bd dd bHK bHP_7 bPF bWC bRi bBe bFi bWa dB dS dN tC tKi tEa tHa tPr tEx tSt tTo tBe_5 kC kKi kEa kHa kPr kEx kSt kTo kBe aC_1 aWh_2 aTa_3 aWa_4 iRo iEa iLa cC_8 nC nFo nQd nRo nBe nEa nMi nHa nER nMR nTh nPa nOu nFr nQu eM eL eC eS eB eE eF eG) H := hP
  have hD : va_D A (WC cI cJ cE cD ad bd dd bHK bHP_7 bPF bWC bRi bBe bFi bWa dB dS dN tC tKi tEa tHa tPr tEx tSt tTo tBe_5 kC kKi kEa kHa kPr kEx kSt kTo kBe aC_1 aWh_2 aTa_3 aWa_4 iRo iEa iLa cC_8 nC nFo nQd nRo nBe nEa nMi nHa nER nMR nTh nPa nOu nFr nQu eM eL eC eS eB eE eF eG) := hD
  refine lv_iload_n hx hb dX7_changeBefore_32 rfl (lv_at hl 2 rfl) ?_
  refine cl_i hD hS hA (va_runS (As := [.int a2]) (rest := []) ⟨hx, hb, hml, hown, hts⟩ (ct_J6_bitCount H.size) (va_cwS 1 hts gX7_changeBefore_J6_bitCount_0f7a4 rfl rfl rfl (by decide +kernel) ⟨Nat.le_of_ble_eq_true rfl, Nat.le_of_ble_eq_true rfl⟩) ⟨CPre.blind, wd_pre hAB hP hD hS hA⟩ rfl rfl hl.1 rfl (lv_room (Nat.le_of_ble_eq_true rfl)) dX7_changeBefore_33 ⟨Nat.zero_le _, Nat.zero_le _⟩) (fun r_9 u H locs e_10 hP hD hS => ?_)
  subst e_10
  have hP : va_P D vwCl (WC cI cJ cE cD ad bd dd bHK bHP_7 bPF bWC bRi bBe bFi bWa dB dS dN tC tKi tEa tHa tPr tEx tSt tTo tBe_5 kC kKi kEa kHa kPr kEx kSt kTo kBe aC_1 aWh_2 aTa_3 aWa_4 iRo iEa iLa cC_8 nC nFo nQd nRo nBe nEa nMi nHa nER nMR nTh nPa nOu nFr nQu eM eL eC eS eB eE eF eG) H := hP
  have hD : va_D A (WC cI cJ cE cD ad bd dd bHK bHP_7 bPF bWC bRi bBe bFi bWa dB dS dN tC tKi tEa tHa tPr tEx tSt tTo tBe_5 kC kKi kEa kHa kPr kEx kSt kTo kBe aC_1 aWh_2 aTa_3 aWa_4 iRo iEa iLa cC_8 nC nFo nQd nRo nBe nEa nMi nHa nER nMR nTh nPa nOu nFr nQu eM eL eC eS eB eE eF eG) := hD
  exact rt_i (bHP_7, tBe_5, aC_1, aWh_2, aTa_3, aWa_4, cC_8) hQ hx hb hr hlk hP hD hS ⟨Nat.zero_le _, Nat.zero_le _⟩ dX7_changeBefore_36 h
def wp_X7_isToldWrong_b152 (k69 : (Int32) → Prop) (x6_11 : Int32) : Prop :=
  ∀ x6_12 : Int32, x6_12 = x6_11 + 1 → k69 x6_12
def wp_X7_isToldWrong_b96 (Qp : Int32 → Prop) (a1 : Int32) (bWa : Nat → Int32) (tBe : Nat → Int32) (x4_2 : Int32) (k69 : (Int32) → Prop) (y_15 : Int32) (x6_14 : Int32) : Prop :=
  ((y_15 = 0 → wp_X7_isToldWrong_b152 k69 x6_14) ∧
   (¬ y_15 = 0 → vp_in a1 12 ∧ wp_X7_hasBit (tBe (Int32.toNatClampNeg a1)) x6_14 (fun (r_17 : Int32) => ((r_17 = 0 → wp_X7_isToldWrong_b152 k69 x6_14) ∧
   (¬ r_17 = 0 → vp_in (2 * x6_14) 60 ∧ vp_in ((2 * x6_14) + 1) 60 ∧ ((0 ≤ (lg_cmp (Int32.toInt64 x4_2) ((Int32.toInt64 (bWa (Int32.toNatClampNeg (2 * x6_14)))) + (Int32.toInt64 (bWa (Int32.toNatClampNeg ((2 * x6_14) + 1)))))) → wp_X7_isToldWrong_b152 k69 x6_14) ∧
   (¬ 0 ≤ (lg_cmp (Int32.toInt64 x4_2) ((Int32.toInt64 (bWa (Int32.toNatClampNeg (2 * x6_14)))) + (Int32.toInt64 (bWa (Int32.toNatClampNeg ((2 * x6_14) + 1)))))) → Qp 1)))))))
def wp_X7_isToldWrong_L69 (Qp : Int32 → Prop) (a1 : Int32) (a3 : Int32) (bWa : Nat → Int32) (tBe : Nat → Int32) (tC : Int32) (x4_2 : Int32) (x69 : Prop) : Nat → (Int32) → Prop
  | 0, _ => False
  | n69 + 1, x6_10 =>
  ((tC ≤ x6_10 → x69) ∧
   (¬ tC ≤ x6_10 → ((a3 ≤ ((2 * x6_10) + 1) → wp_X7_isToldWrong_b96 Qp a1 bWa tBe x4_2 (wp_X7_isToldWrong_L69 Qp a1 a3 bWa tBe tC x4_2 x69 n69) 0 x6_10) ∧
   (¬ a3 ≤ ((2 * x6_10) + 1) → wp_X7_isToldWrong_b96 Qp a1 bWa tBe x4_2 (wp_X7_isToldWrong_L69 Qp a1 a3 bWa tBe tC x4_2 x69 n69) 1 x6_10))))
def wp_X7_isToldWrong (bWa : Nat → Int32) (tC : Int32) (tEa : Nat → Int32) (tHa : Nat → Int32) (tBe : Nat → Int32) (a1 : Int32) (a2 : Int32) (a3 : Int32) (Qp : Int32 → Prop) : Prop :=
  ((((2 * a1) + 1) < a3 → vp_in (2 * a1) 60 ∧ ∀ x4_2 : Int32, x4_2 = (bWa (Int32.toNatClampNeg (2 * a1))) → vp_in ((2 * a1) + 1) 60 ∧ ∀ x5_4 : Int32, x5_4 = (bWa (Int32.toNatClampNeg ((2 * a1) + 1))) → wp_X5_allows tEa tHa a1 x5_4 (fun (r_6 : Int32) => ((r_6 = 0 → Qp 1) ∧
   (¬ r_6 = 0 → ((x4_2 < 0 → Qp 1) ∧
   (¬ x4_2 < 0 → (((lg_cmp ((Int32.toInt64 x4_2) + (Int32.toInt64 x5_4)) (Int32.toInt64 a2)) ≤ 0 → (∃ n69 : Nat, wp_X7_isToldWrong_L69 Qp a1 a3 bWa tBe tC x4_2 (Qp 0) n69 0)) ∧
   (¬ (lg_cmp ((Int32.toInt64 x4_2) + (Int32.toInt64 x5_4)) (Int32.toInt64 a2)) ≤ 0 → Qp 1)))))))) ∧
   (¬ ((2 * a1) + 1) < a3 → Qp 1))
theorem inn_X7_isToldWrong_5 : ∀ w ∈ u_ws RX5 TX5 9, w ∈ wsX7_isToldWrong := fun _ h => List.mem_cons_of_mem _ (List.mem_append_right _ h)
theorem inn_X7_isToldWrong_7 : ∀ w ∈ u_ws RX7 TX7 14, w ∈ wsX7_isToldWrong := fun _ h => List.mem_cons_of_mem _ (List.mem_append_left _ (List.mem_append_right _ h))
def rm_X7_isToldWrong : Room := { frames := 1, cells := 0, slots := 0, locals := 22 }
set_option maxHeartbeats 4000000 in
set_option maxRecDepth 100000 in
theorem ct_X7_isToldWrong {l : Launch} {D : va_G} {cI cJ cZ cE cD cK : ClassId} {ad : Nat → Nat} {bd dd : Nat → Nat → Nat} {bHK : Int32} {bHP : Int32} {bPF : Int32} {bWC : Int32} {bRi : Int32} {bBe : Int32} {bFi : Int32} {bWa : Nat → Int32} {dB : Nat → Int32} {dS : Nat → Int32} {dN : Nat → Nat → Int64} {tC : Int32} {tKi : Nat → Int32} {tEa : Nat → Int32} {tHa : Nat → Int32} {tPr : Nat → Int32} {tEx : Nat → Int32} {tSt : Nat → Int32} {tTo : Nat → Int32} {tBe : Nat → Int32} {kC : Int32} {kKi : Nat → Int32} {kEa : Nat → Int32} {kHa : Nat → Int32} {kPr : Nat → Int32} {kEx : Nat → Int32} {kSt : Nat → Int32} {kTo : Nat → Int32} {kBe : Nat → Int32} {aC : Int32} {aWh : Nat → Int32} {aTa : Nat → Int32} {aWa : Nat → Int32} {iRo : Nat → Int32} {iEa : Nat → Int32} {iLa : Nat → Int32} {cC : Int32} {nC : Int32} {nFo : Int32} {nQd : Int32} {nRo : Nat → Int32} {nBe : Nat → Int32} {nEa : Nat → Int32} {nMi : Nat → Int32} {nHa : Nat → Int32} {nER : Nat → Int32} {nMR : Nat → Int32} {nTh : Nat → Int32} {nPa : Nat → Int32} {nOu : Nat → Int32} {nFr : Nat → Int32} {nQu : Nat → Int32} {eM : Nat} {eL : Nat → Int32} {eC : Nat → Int64} {eS : Nat → Int64} {eB : Nat → Nat → Int32} {eE : Nat → Nat → Int32} {eF : Nat → Nat → Int32} {eG : Nat → Nat → Int32}   {a1 : Int32} {a2 : Int32} {a3 : Int32} {Qp : Int32 → Prop}   (h : wp_X7_isToldWrong bWa tC tEa tHa tBe a1 a2 a3 Qp) : CTi l yX7_isToldWrong wsX7_isToldWrong rm_X7_isToldWrong D (tyL cI cJ cZ cE cD cK) [.ref (ad 0), .int a1, .int a2, .int a3] (WC cI cJ cE cD ad bd dd bHK bHP bPF bWC bRi bBe bFi bWa dB dS dN tC tKi tEa tHa tPr tEx tSt tTo tBe kC kKi kEa kHa kPr kEx kSt kTo kBe aC aWh aTa aWa iRo iEa iLa cC nC nFo nQd nRo nBe nEa nMi nHa nER nMR nTh nPa nOu nFr nQu eM eL eC eS eB eE eF eG) (fun (r : Int32) (u : Unit) => Qp r ) (fun u : Unit => (WC cI cJ cE cD ad bd dd bHK bHP bPF bWC bRi bBe bFi bWa dB dS dN tC tKi tEa tHa tPr tEx tSt tTo tBe kC kKi kEa kHa kPr kEx kSt kTo kBe aC aWh aTa aWa iRo iEa iLa cC nC nFo nQd nRo nBe nEa nMi nHa nER nMR nTh nPa nOu nFr nQu eM eL eC eS eB eE eF eG)) 0 0 := by
  refine ent_i (cc := cX7_isToldWrong) (maxL := 8) (ret := (some .boolean)) (by decide) rfl (Nat.le_of_ble_eq_true rfl) ?_
  intro p e s m args below meth c A Q hQ hx hb hr hml hown hts hlk hA hAB hP hD hS ls hl
  have hown : s.vm.findClass RX7 = some m.cls := hown
  have hl : lv_has ls 8 [(0, .ref (ad 0)), (1, .int a1), (2, .int a2), (3, .int a3)] := hl
  generalize hH : s.heap = H at hP ⊢
  have hS : va_S A s.heap H [] := by rw [← hH]; exact hS
  clear hH
  generalize ([] : List Loc) = locs at hS ⊢
  refine lv_iconst (v := 2) hx hb dX7_isToldWrong_0 (by decide) ?_
  refine lv_iload_n hx hb dX7_isToldWrong_1 rfl (lv_at hl 1 rfl) ?_
  refine lv_imul hx hb dX7_isToldWrong_2 ?_
  refine lv_iconst (v := 1) hx hb dX7_isToldWrong_3 (by decide) ?_
  refine lv_iadd hx hb dX7_isToldWrong_4 ?_
  refine lv_iload_n hx hb dX7_isToldWrong_5 rfl (lv_at hl 3 rfl) ?_
  refine lv_icmp_lt (tgt := 11) hx hb dX7_isToldWrong_6 (by decide) (fun c_1 => ?_) (fun c_1 => ?_)
  · have h := h.1 c_1
    refine lv_aload_n hx hb dX7_isToldWrong_11 rfl (lv_at hl 0 rfl) ?_
    refine va_get (D := D) (ci := 7) (C := RX7) (T := TX7) (N := 14) hx hb hts inn_X7_isToldWrong_7 hown hAB.1 hP 0 rfl rfl 9 (by decide) (hts (.fieldLink RX7 47 "BarnBench" "waiting" "[I") (by decide +kernel)) (fun _ h9 => h9) rfl dX7_isToldWrong_12 ?_
    refine lv_iconst (v := 2) hx hb dX7_isToldWrong_15 (by decide) ?_
    refine lv_iload_n hx hb dX7_isToldWrong_16 rfl (lv_at hl 1 rfl) ?_
    refine lv_imul hx hb dX7_isToldWrong_17 ?_
    refine va_iald hx hb hAB.1 hP 51 0 rfl rfl h.1 dX7_isToldWrong_18 ?_
    have h := h.2
    refine lv_topi (fun x4_2 e_3 => ?_)
    have h := h x4_2 e_3
    refine lv_istore (lv' := [(4, .int x4_2), (0, .ref (ad 0)), (1, .int a1), (2, .int a2), (3, .int a3)]) hx hb dX7_isToldWrong_19 hl (by decide) rfl (fun ls hl => ?_)
    refine lv_aload_n hx hb dX7_isToldWrong_21 rfl (lv_at hl 1 rfl) ?_
    refine va_get (D := D) (ci := 7) (C := RX7) (T := TX7) (N := 14) hx hb hts inn_X7_isToldWrong_7 hown hAB.1 hP 0 rfl rfl 9 (by decide) (hts (.fieldLink RX7 47 "BarnBench" "waiting" "[I") (by decide +kernel)) (fun _ h9 => h9) rfl dX7_isToldWrong_22 ?_
    refine lv_iconst (v := 2) hx hb dX7_isToldWrong_25 (by decide) ?_
    refine lv_iload_n hx hb dX7_isToldWrong_26 rfl (lv_at hl 2 rfl) ?_
    refine lv_imul hx hb dX7_isToldWrong_27 ?_
    refine lv_iconst (v := 1) hx hb dX7_isToldWrong_28 (by decide) ?_
    refine lv_iadd hx hb dX7_isToldWrong_29 ?_
    refine va_iald hx hb hAB.1 hP 51 0 rfl rfl h.1 dX7_isToldWrong_30 ?_
    have h := h.2
    refine lv_topi (fun x5_4 e_5 => ?_)
    have h := h x5_4 e_5
    refine lv_istore (lv' := [(5, .int x5_4), (4, .int x4_2), (0, .ref (ad 0)), (1, .int a1), (2, .int a2), (3, .int a3)]) hx hb dX7_isToldWrong_31 hl (by decide) rfl (fun ls hl => ?_)
    refine lv_aload_n hx hb dX7_isToldWrong_33 rfl (lv_at hl 2 rfl) ?_
    refine va_get (D := D) (ci := 7) (C := RX7) (T := TX7) (N := 14) hx hb hts inn_X7_isToldWrong_7 hown hAB.1 hP 0 rfl rfl 1 (by decide) (hts (.fieldLink RX7 19 "BarnBench" "tasks" "LBarnBench$Tasks;") (by decide +kernel)) (fun _ h9 => h9) rfl dX7_isToldWrong_34 ?_
    refine lv_iload_n hx hb dX7_isToldWrong_37 rfl (lv_at hl 3 rfl) ?_
    refine lv_iload hx hb dX7_isToldWrong_38 (lv_at hl 0 rfl) ?_
    refine cl_i hD hS hA (va_runV (As := [.int a1, .int x5_4]) (rest := []) ⟨hx, hb, hml, hown, hts⟩ (ct_X5_allows h H.size) (cwV 2 hts gX7_isToldWrong_X5_allows rfl rfl rfl (by decide +kernel) ⟨Nat.le_of_ble_eq_true rfl, Nat.le_of_ble_eq_true rfl⟩) ⟨CPre.blind, va_recv hAB.1 hP (ci := 5) (q0 := 10) rfl rfl, wd_pre hAB hP hD hS hA⟩ rfl rfl hl.1 rfl (lv_room (Nat.le_of_ble_eq_true rfl)) dX7_isToldWrong_40 ⟨Nat.zero_le _, Nat.zero_le _⟩) (fun r_6 u H locs h hP hD hS => ?_)
    refine lv_if_eq (tgt := 64) hx hb dX7_isToldWrong_43 (by decide) (fun c_7 => ?_) (fun c_7 => ?_)
    · have h := h.1 c_7
      refine lv_iconst (v := 1) hx hb dX7_isToldWrong_64 (by decide) ?_
      exact rt_z () hQ hx hb hr hlk hP hD hS ⟨Nat.zero_le _, Nat.zero_le _⟩ (by decide) dX7_isToldWrong_65 h
    · have h := h.2 c_7
      refine lv_iload hx hb dX7_isToldWrong_46 (lv_at hl 1 rfl) ?_
      refine lv_if_lt (tgt := 64) hx hb dX7_isToldWrong_48 (by decide) (fun c_8 => ?_) (fun c_8 => ?_)
      · have h := h.1 c_8
        refine lv_iconst (v := 1) hx hb dX7_isToldWrong_64 (by decide) ?_
        exact rt_z () hQ hx hb hr hlk hP hD hS ⟨Nat.zero_le _, Nat.zero_le _⟩ (by decide) dX7_isToldWrong_65 h
      · have h := h.2 c_8
        refine lv_iload hx hb dX7_isToldWrong_51 (lv_at hl 1 rfl) ?_
        refine lv_i2l hx hb dX7_isToldWrong_53 rfl ?_
        refine lv_iload hx hb dX7_isToldWrong_54 (lv_at hl 0 rfl) ?_
        refine lv_i2l hx hb dX7_isToldWrong_56 rfl ?_
        refine lv_ladd hx hb dX7_isToldWrong_57 ?_
        refine lv_iload_n hx hb dX7_isToldWrong_58 rfl (lv_at hl 4 rfl) ?_
        refine lv_i2l hx hb dX7_isToldWrong_59 rfl ?_
        refine W.lcmp hx hb dX7_isToldWrong_60 ?_
        refine lv_if_le (tgt := 66) hx hb dX7_isToldWrong_61 (by decide) (fun c_9 => ?_) (fun c_9 => ?_)
        · have h := h.1 c_9
          refine lv_iconst (v := 0) hx hb dX7_isToldWrong_66 (by decide) ?_
          refine lv_istore (lv' := [(6, .int 0), (5, .int x5_4), (4, .int x4_2), (0, .ref (ad 0)), (1, .int a1), (2, .int a2), (3, .int a3)]) hx hb dX7_isToldWrong_67 hl (by decide) rfl (fun ls hl => ?_)
          have L69 : ∀ (x69 : Prop) (hk69 : x69 → ∀ (H : Heap) (locs : List Loc) (ls : Array Slot), va_P D vwCl (WC cI cJ cE cD ad bd dd bHK bHP bPF bWC bRi bBe bFi bWa dB dS dN tC tKi tEa tHa tPr tEx tSt tTo tBe kC kKi kEa kHa kPr kEx kSt kTo kBe aC aWh aTa aWa iRo iEa iLa cC nC nFo nQd nRo nBe nEa nMi nHa nER nMR nTh nPa nOu nFr nQu eM eL eC eS eB eE eF eG) H → va_D A (WC cI cJ cE cD ad bd dd bHK bHP bPF bWC bRi bBe bFi bWa dB dS dN tC tKi tEa tHa tPr tEx tSt tTo tBe kC kKi kEa kHa kPr kEx kSt kTo kBe aC aWh aTa aWa iRo iEa iLa cC nC nFo nQd nRo nBe nEa nMi nHa nER nMR nTh nPa nOu nFr nQu eM eL eC eS eB eE eF eG) → va_S A s.heap H locs → lv_has ls 8 [] → W p l e (headSpec wsX7_isToldWrong rm_X7_isToldWrong).room s m args below meth c H locs 0 0 Q (F0 m 158 ls [])) (n69 : Nat) (x6_10 : Int32), wp_X7_isToldWrong_L69 Qp a1 a3 bWa tBe tC x4_2 x69 n69 x6_10 → ∀ (H : Heap) (locs : List Loc) (ls : Array Slot), va_P D vwCl (WC cI cJ cE cD ad bd dd bHK bHP bPF bWC bRi bBe bFi bWa dB dS dN tC tKi tEa tHa tPr tEx tSt tTo tBe kC kKi kEa kHa kPr kEx kSt kTo kBe aC aWh aTa aWa iRo iEa iLa cC nC nFo nQd nRo nBe nEa nMi nHa nER nMR nTh nPa nOu nFr nQu eM eL eC eS eB eE eF eG) H → va_D A (WC cI cJ cE cD ad bd dd bHK bHP bPF bWC bRi bBe bFi bWa dB dS dN tC tKi tEa tHa tPr tEx tSt tTo tBe kC kKi kEa kHa kPr kEx kSt kTo kBe aC aWh aTa aWa iRo iEa iLa cC nC nFo nQd nRo nBe nEa nMi nHa nER nMR nTh nPa nOu nFr nQu eM eL eC eS eB eE eF eG) → va_S A s.heap H locs → lv_has ls 8 [(0, .ref (ad 0)), (1, .int a1), (3, .int a3), (4, .int x4_2), (6, .int x6_10)] → W p l e (headSpec wsX7_isToldWrong rm_X7_isToldWrong).room s m args below meth c H locs 0 0 Q (F0 m 69 ls []) := by
            intro x69 hk69 n69
            induction n69 with
            | zero => intro x6_10 h; exact False.elim h
            | succ n69 ih69 =>
              intro x6_10 h H locs ls hP hD hS hl
              have B152 : ∀ (x6_11 : Int32), wp_X7_isToldWrong_b152 (wp_X7_isToldWrong_L69 Qp a1 a3 bWa tBe tC x4_2 x69 n69) x6_11 → ∀ (H : Heap) (locs : List Loc) (ls : Array Slot), va_P D vwCl (WC cI cJ cE cD ad bd dd bHK bHP bPF bWC bRi bBe bFi bWa dB dS dN tC tKi tEa tHa tPr tEx tSt tTo tBe kC kKi kEa kHa kPr kEx kSt kTo kBe aC aWh aTa aWa iRo iEa iLa cC nC nFo nQd nRo nBe nEa nMi nHa nER nMR nTh nPa nOu nFr nQu eM eL eC eS eB eE eF eG) H → va_D A (WC cI cJ cE cD ad bd dd bHK bHP bPF bWC bRi bBe bFi bWa dB dS dN tC tKi tEa tHa tPr tEx tSt tTo tBe kC kKi kEa kHa kPr kEx kSt kTo kBe aC aWh aTa aWa iRo iEa iLa cC nC nFo nQd nRo nBe nEa nMi nHa nER nMR nTh nPa nOu nFr nQu eM eL eC eS eB eE eF eG) → va_S A s.heap H locs → lv_has ls 8 [(0, .ref (ad 0)), (1, .int a1), (3, .int a3), (4, .int x4_2), (6, .int x6_11)] → W p l e (headSpec wsX7_isToldWrong rm_X7_isToldWrong).room s m args below meth c H locs 0 0 Q (F0 m 152 ls []) := by
                intro x6_11 h H locs ls hP hD hS hl
                obtain ⟨x6_12, e_13⟩ : ∃ y : Int32, y = x6_11 + 1 := ⟨_, rfl⟩
                have h := h x6_12 e_13
                refine lv_iinc (v := x6_12) (lv' := [(6, .int x6_12), (0, .ref (ad 0)), (1, .int a1), (3, .int a3), (4, .int x4_2)]) hx hb dX7_isToldWrong_152 hl (k := 4) rfl (by rw [e_13]; rfl) (by decide) rfl (fun ls hl => ?_)
                refine lv_goto (tgt := 69) hx hb dX7_isToldWrong_155 (by decide) ?_
                exact ih69 x6_12 h H locs ls hP hD hS (lv_sub hl [1, 2, 3, 4, 0] rfl)
              have B96 : ∀ (y_15 : Int32) (x6_14 : Int32), wp_X7_isToldWrong_b96 Qp a1 bWa tBe x4_2 (wp_X7_isToldWrong_L69 Qp a1 a3 bWa tBe tC x4_2 x69 n69) y_15 x6_14 → ∀ (H : Heap) (locs : List Loc) (ls : Array Slot), va_P D vwCl (WC cI cJ cE cD ad bd dd bHK bHP bPF bWC bRi bBe bFi bWa dB dS dN tC tKi tEa tHa tPr tEx tSt tTo tBe kC kKi kEa kHa kPr kEx kSt kTo kBe aC aWh aTa aWa iRo iEa iLa cC nC nFo nQd nRo nBe nEa nMi nHa nER nMR nTh nPa nOu nFr nQu eM eL eC eS eB eE eF eG) H → va_D A (WC cI cJ cE cD ad bd dd bHK bHP bPF bWC bRi bBe bFi bWa dB dS dN tC tKi tEa tHa tPr tEx tSt tTo tBe kC kKi kEa kHa kPr kEx kSt kTo kBe aC aWh aTa aWa iRo iEa iLa cC nC nFo nQd nRo nBe nEa nMi nHa nER nMR nTh nPa nOu nFr nQu eM eL eC eS eB eE eF eG) → va_S A s.heap H locs → lv_has ls 8 [(0, .ref (ad 0)), (1, .int a1), (3, .int a3), (4, .int x4_2), (6, .int x6_14)] → W p l e (headSpec wsX7_isToldWrong rm_X7_isToldWrong).room s m args below meth c H locs 0 0 Q (F0 m 96 ls [.int y_15]) := by
                intro y_15 x6_14 h H locs ls hP hD hS hl
                refine lv_istore (lv' := [(7, .int y_15), (0, .ref (ad 0)), (1, .int a1), (3, .int a3), (4, .int x4_2), (6, .int x6_14)]) hx hb dX7_isToldWrong_96 hl (by decide) rfl (fun ls hl => ?_)
                refine lv_iload hx hb dX7_isToldWrong_98 (lv_at hl 0 rfl) ?_
                refine lv_if_eq (tgt := 152) hx hb dX7_isToldWrong_100 (by decide) (fun c_16 => ?_) (fun c_16 => ?_)
                · have h := h.1 c_16
                  exact B152 x6_14 h H locs ls hP hD hS (lv_sub hl [1, 2, 3, 4, 5] rfl)
                · have h := h.2 c_16
                  refine lv_aload_n hx hb dX7_isToldWrong_103 rfl (lv_at hl 1 rfl) ?_
                  refine va_get (D := D) (ci := 7) (C := RX7) (T := TX7) (N := 14) hx hb hts inn_X7_isToldWrong_7 hown hAB.1 hP 0 rfl rfl 1 (by decide) (hts (.fieldLink RX7 19 "BarnBench" "tasks" "LBarnBench$Tasks;") (by decide +kernel)) (fun _ h9 => h9) rfl dX7_isToldWrong_104 ?_
                  refine va_get (D := D) (ci := 5) (C := RX5) (T := TX5) (N := 9) hx hb hts inn_X7_isToldWrong_5 hown hAB.1 hP 10 rfl rfl 8 (by decide) (hts (.fieldLink RX7 126 "BarnBench$Tasks" "before" "[I") (by decide +kernel)) (fun _ h9 => h9) rfl dX7_isToldWrong_107 ?_
                  refine lv_iload_n hx hb dX7_isToldWrong_110 rfl (lv_at hl 2 rfl) ?_
                  refine va_iald hx hb hAB.1 hP 18 0 rfl rfl h.1 dX7_isToldWrong_111 ?_
                  have h := h.2
                  refine lv_iload hx hb dX7_isToldWrong_112 (lv_at hl 5 rfl) ?_
                  refine cl_i hD hS hA (va_runS (As := [.int (tBe (Int32.toNatClampNeg a1)), .int x6_14]) (rest := []) ⟨hx, hb, hml, hown, hts⟩ (ct_X7_hasBit h H.size) (va_cwS 2 hts gX7_isToldWrong_X7_hasBit rfl rfl rfl (by decide +kernel) ⟨Nat.le_of_ble_eq_true rfl, Nat.le_of_ble_eq_true rfl⟩) ⟨CPre.blind, wd_pre hAB hP hD hS hA⟩ rfl rfl hl.1 rfl (lv_room (Nat.le_of_ble_eq_true rfl)) dX7_isToldWrong_114 ⟨Nat.zero_le _, Nat.zero_le _⟩) (fun r_17 u H locs h hP hD hS => ?_)
                  refine lv_if_eq (tgt := 152) hx hb dX7_isToldWrong_117 (by decide) (fun c_18 => ?_) (fun c_18 => ?_)
                  · have h := h.1 c_18
                    exact B152 x6_14 h H locs ls hP hD hS (lv_sub hl [1, 2, 3, 4, 5] rfl)
                  · have h := h.2 c_18
                    refine lv_iload hx hb dX7_isToldWrong_120 (lv_at hl 4 rfl) ?_
                    refine lv_i2l hx hb dX7_isToldWrong_122 rfl ?_
                    refine lv_aload_n hx hb dX7_isToldWrong_123 rfl (lv_at hl 1 rfl) ?_
                    refine va_get (D := D) (ci := 7) (C := RX7) (T := TX7) (N := 14) hx hb hts inn_X7_isToldWrong_7 hown hAB.1 hP 0 rfl rfl 9 (by decide) (hts (.fieldLink RX7 47 "BarnBench" "waiting" "[I") (by decide +kernel)) (fun _ h9 => h9) rfl dX7_isToldWrong_124 ?_
                    refine lv_iconst (v := 2) hx hb dX7_isToldWrong_127 (by decide) ?_
                    refine lv_iload hx hb dX7_isToldWrong_128 (lv_at hl 5 rfl) ?_
                    refine lv_imul hx hb dX7_isToldWrong_130 ?_
                    refine va_iald hx hb hAB.1 hP 51 0 rfl rfl h.1 dX7_isToldWrong_131 ?_
                    have h := h.2
                    refine lv_i2l hx hb dX7_isToldWrong_132 rfl ?_
                    refine lv_aload_n hx hb dX7_isToldWrong_133 rfl (lv_at hl 1 rfl) ?_
                    refine va_get (D := D) (ci := 7) (C := RX7) (T := TX7) (N := 14) hx hb hts inn_X7_isToldWrong_7 hown hAB.1 hP 0 rfl rfl 9 (by decide) (hts (.fieldLink RX7 47 "BarnBench" "waiting" "[I") (by decide +kernel)) (fun _ h9 => h9) rfl dX7_isToldWrong_134 ?_
                    refine lv_iconst (v := 2) hx hb dX7_isToldWrong_137 (by decide) ?_
                    refine lv_iload hx hb dX7_isToldWrong_138 (lv_at hl 5 rfl) ?_
                    refine lv_imul hx hb dX7_isToldWrong_140 ?_
                    refine lv_iconst (v := 1) hx hb dX7_isToldWrong_141 (by decide) ?_
                    refine lv_iadd hx hb dX7_isToldWrong_142 ?_
                    refine va_iald hx hb hAB.1 hP 51 0 rfl rfl h.1 dX7_isToldWrong_143 ?_
                    have h := h.2
                    refine lv_i2l hx hb dX7_isToldWrong_144 rfl ?_
                    refine lv_ladd hx hb dX7_isToldWrong_145 ?_
                    refine W.lcmp hx hb dX7_isToldWrong_146 ?_
                    refine lv_if_ge (tgt := 152) hx hb dX7_isToldWrong_147 (by decide) (fun c_19 => ?_) (fun c_19 => ?_)
                    · have h := h.1 c_19
                      exact B152 x6_14 h H locs ls hP hD hS (lv_sub hl [1, 2, 3, 4, 5] rfl)
                    · have h := h.2 c_19
                      refine lv_iconst (v := 1) hx hb dX7_isToldWrong_150 (by decide) ?_
                      exact rt_z () hQ hx hb hr hlk hP hD hS ⟨Nat.zero_le _, Nat.zero_le _⟩ (by decide) dX7_isToldWrong_151 h
              refine lv_iload hx hb dX7_isToldWrong_69 (lv_at hl 4 rfl) ?_
              refine lv_aload_n hx hb dX7_isToldWrong_71 rfl (lv_at hl 0 rfl) ?_
              refine va_get (D := D) (ci := 7) (C := RX7) (T := TX7) (N := 14) hx hb hts inn_X7_isToldWrong_7 hown hAB.1 hP 0 rfl rfl 1 (by decide) (hts (.fieldLink RX7 19 "BarnBench" "tasks" "LBarnBench$Tasks;") (by decide +kernel)) (fun _ h9 => h9) rfl dX7_isToldWrong_72 ?_
              refine va_get (D := D) (ci := 5) (C := RX5) (T := TX5) (N := 9) hx hb hts inn_X7_isToldWrong_5 hown hAB.1 hP 10 rfl rfl 0 (by decide) (hts (.fieldLink RX7 104 "BarnBench$Tasks" "count" "I") (by decide +kernel)) (fun _ h9 => h9) rfl dX7_isToldWrong_75 ?_
              refine lv_icmp_ge (tgt := 158) hx hb dX7_isToldWrong_78 (by decide) (fun c_20 => ?_) (fun c_20 => ?_)
              · have h := h.1 c_20
                exact hk69  h H locs ls hP hD hS (lv_sub hl [] rfl)
              · have h := h.2 c_20
                refine lv_iconst (v := 2) hx hb dX7_isToldWrong_81 (by decide) ?_
                refine lv_iload hx hb dX7_isToldWrong_82 (lv_at hl 4 rfl) ?_
                refine lv_imul hx hb dX7_isToldWrong_84 ?_
                refine lv_iconst (v := 1) hx hb dX7_isToldWrong_85 (by decide) ?_
                refine lv_iadd hx hb dX7_isToldWrong_86 ?_
                refine lv_iload_n hx hb dX7_isToldWrong_87 rfl (lv_at hl 2 rfl) ?_
                refine lv_icmp_ge (tgt := 95) hx hb dX7_isToldWrong_88 (by decide) (fun c_21 => ?_) (fun c_21 => ?_)
                · have h := h.1 c_21
                  refine lv_iconst (v := 0) hx hb dX7_isToldWrong_95 (by decide) ?_
                  exact B96 0 x6_10 h H locs ls hP hD hS (lv_sub hl [0, 1, 2, 3, 4] rfl)
                · have h := h.2 c_21
                  refine lv_iconst (v := 1) hx hb dX7_isToldWrong_91 (by decide) ?_
                  refine lv_goto (tgt := 96) hx hb dX7_isToldWrong_92 (by decide) ?_
                  exact B96 1 x6_10 h H locs ls hP hD hS (lv_sub hl [0, 1, 2, 3, 4] rfl)
          obtain ⟨n69, h⟩ := h
          refine L69 _ (fun  h H locs ls hP hD hS hl => ?_) n69 0 h H locs ls hP hD hS (lv_sub hl [3, 4, 6, 2, 0] rfl)
          refine lv_iconst (v := 0) hx hb dX7_isToldWrong_158 (by decide) ?_
          exact rt_z () hQ hx hb hr hlk hP hD hS ⟨Nat.zero_le _, Nat.zero_le _⟩ (by decide) dX7_isToldWrong_159 h
        · have h := h.2 c_9
          refine lv_iconst (v := 1) hx hb dX7_isToldWrong_64 (by decide) ?_
          exact rt_z () hQ hx hb hr hlk hP hD hS ⟨Nat.zero_le _, Nat.zero_le _⟩ (by decide) dX7_isToldWrong_65 h
  · have h := h.2 c_1
    refine lv_iconst (v := 1) hx hb dX7_isToldWrong_9 (by decide) ?_
    exact rt_z () hQ hx hb hr hlk hP hD hS ⟨Nat.zero_le _, Nat.zero_le _⟩ (by decide) dX7_isToldWrong_10 h
def wp_X7_board_b29 (Qp : Int32 → (Int32) → (Nat → Int32) → (Nat → Int32) → (Nat → Nat → Int64) → Prop) (a1 : Int32) (a2 : Int32) (a3 : Int32) (bFi_1 : Int32) (dB_2 : Nat → Int32) (dS_3 : Nat → Int32) (dN_4 : Nat → Nat → Int64) : Prop :=
  ((0 ≤ a3 → ((a3 ≤ 24 → vp_in a1 4 ∧ ((¬ a2 = 0 → wp_X2_lay (dB_2 (Int32.toNatClampNeg a1)) (dN_4 (Int32.toNatClampNeg a1)) (dS_3 (Int32.toNatClampNeg a1)) a2 a3 (fun (dB_9 : Int32) (dN_10 : Nat → Int64) (dS_11 : Int32) => vp_in a1 4 ∧ Qp ((va_up dS_3 (Int32.toNatClampNeg a1) dS_11) (Int32.toNatClampNeg a1)) bFi_1 (va_up dB_2 (Int32.toNatClampNeg a1) dB_9) (va_up dS_3 (Int32.toNatClampNeg a1) dS_11) (va_up dN_4 (Int32.toNatClampNeg a1) dN_10))) ∧
   (a2 = 0 → wp_X2_lay (dB_2 (Int32.toNatClampNeg a1)) (dN_4 (Int32.toNatClampNeg a1)) (dS_3 (Int32.toNatClampNeg a1)) a2 0 (fun (dB_13 : Int32) (dN_14 : Nat → Int64) (dS_15 : Int32) => vp_in a1 4 ∧ Qp ((va_up dS_3 (Int32.toNatClampNeg a1) dS_15) (Int32.toNatClampNeg a1)) bFi_1 (va_up dB_2 (Int32.toNatClampNeg a1) dB_13) (va_up dS_3 (Int32.toNatClampNeg a1) dS_15) (va_up dN_4 (Int32.toNatClampNeg a1) dN_14))))) ∧
   (¬ a3 ≤ 24 → wp_X7_finding bFi_1 (-1) (fun (r_17 : Int32) (bFi_18 : Int32) => Qp r_17 bFi_18 dB_2 dS_3 dN_4)))) ∧
   (¬ 0 ≤ a3 → wp_X7_finding bFi_1 (-3) (fun (r_19 : Int32) (bFi_20 : Int32) => Qp r_19 bFi_20 dB_2 dS_3 dN_4)))
def wp_X7_board_b23 (Qp : Int32 → (Int32) → (Nat → Int32) → (Nat → Int32) → (Nat → Nat → Int64) → Prop) (bFi_21 : Int32) (dB_22 : Nat → Int32) (dS_23 : Nat → Int32) (dN_24 : Nat → Nat → Int64) : Prop :=
  wp_X7_finding bFi_21 (-1) (fun (r_25 : Int32) (bFi_26 : Int32) => Qp r_25 bFi_26 dB_22 dS_23 dN_24)
def wp_X7_board (bFi : Int32) (dB : Nat → Int32) (dS : Nat → Int32) (dN : Nat → Nat → Int64) (a1 : Int32) (a2 : Int32) (a3 : Int32) (Qp : Int32 → (Int32) → (Nat → Int32) → (Nat → Int32) → (Nat → Nat → Int64) → Prop) : Prop :=
  wp_X7_isBoard a1 (fun (r_27 : Int32) => ((r_27 = 0 → wp_X7_board_b23 Qp bFi dB dS dN) ∧
   (¬ r_27 = 0 → ((a2 = 0 → wp_X7_board_b29 Qp a1 a2 a3 bFi dB dS dN) ∧
   (¬ a2 = 0 → ((a2 = 32 → wp_X7_board_b29 Qp a1 a2 a3 bFi dB dS dN) ∧
   (¬ a2 = 32 → ((a2 = 64 → wp_X7_board_b29 Qp a1 a2 a3 bFi dB dS dN) ∧
   (¬ a2 = 64 → wp_X7_board_b23 Qp bFi dB dS dN)))))))))
theorem inn_X7_board_2 : ∀ w ∈ u_ws RX2 TX2 3, w ∈ wsX7_board := fun _ h => List.mem_cons_of_mem _ (List.mem_append_right _ h)
theorem inn_X7_board_7 : ∀ w ∈ u_ws RX7 TX7 14, w ∈ wsX7_board := fun _ h => List.mem_cons_of_mem _ (List.mem_append_left _ (List.mem_append_right _ h))
def rm_X7_board : Room := { frames := 2, cells := 0, slots := 0, locals := 46 }
set_option maxHeartbeats 4000000 in
set_option maxRecDepth 100000 in
theorem ct_X7_board {l : Launch} {D : va_G} {cI cJ cZ cE cD cK : ClassId} {ad : Nat → Nat} {bd dd : Nat → Nat → Nat} {bHK : Int32} {bHP : Int32} {bPF : Int32} {bWC : Int32} {bRi : Int32} {bBe : Int32} {bFi : Int32} {bWa : Nat → Int32} {dB : Nat → Int32} {dS : Nat → Int32} {dN : Nat → Nat → Int64} {tC : Int32} {tKi : Nat → Int32} {tEa : Nat → Int32} {tHa : Nat → Int32} {tPr : Nat → Int32} {tEx : Nat → Int32} {tSt : Nat → Int32} {tTo : Nat → Int32} {tBe : Nat → Int32} {kC : Int32} {kKi : Nat → Int32} {kEa : Nat → Int32} {kHa : Nat → Int32} {kPr : Nat → Int32} {kEx : Nat → Int32} {kSt : Nat → Int32} {kTo : Nat → Int32} {kBe : Nat → Int32} {aC : Int32} {aWh : Nat → Int32} {aTa : Nat → Int32} {aWa : Nat → Int32} {iRo : Nat → Int32} {iEa : Nat → Int32} {iLa : Nat → Int32} {cC : Int32} {nC : Int32} {nFo : Int32} {nQd : Int32} {nRo : Nat → Int32} {nBe : Nat → Int32} {nEa : Nat → Int32} {nMi : Nat → Int32} {nHa : Nat → Int32} {nER : Nat → Int32} {nMR : Nat → Int32} {nTh : Nat → Int32} {nPa : Nat → Int32} {nOu : Nat → Int32} {nFr : Nat → Int32} {nQu : Nat → Int32} {eM : Nat} {eL : Nat → Int32} {eC : Nat → Int64} {eS : Nat → Int64} {eB : Nat → Nat → Int32} {eE : Nat → Nat → Int32} {eF : Nat → Nat → Int32} {eG : Nat → Nat → Int32}   {a1 : Int32} {a2 : Int32} {a3 : Int32} {Qp : Int32 → (Int32) → (Nat → Int32) → (Nat → Int32) → (Nat → Nat → Int64) → Prop}   (h : wp_X7_board bFi dB dS dN a1 a2 a3 Qp) : CTi l yX7_board wsX7_board rm_X7_board D (tyL cI cJ cZ cE cD cK) [.ref (ad 0), .int a1, .int a2, .int a3] (WC cI cJ cE cD ad bd dd bHK bHP bPF bWC bRi bBe bFi bWa dB dS dN tC tKi tEa tHa tPr tEx tSt tTo tBe kC kKi kEa kHa kPr kEx kSt kTo kBe aC aWh aTa aWa iRo iEa iLa cC nC nFo nQd nRo nBe nEa nMi nHa nER nMR nTh nPa nOu nFr nQu eM eL eC eS eB eE eF eG) (fun (r : Int32) (u : (Int32) × (Nat → Int32) × (Nat → Int32) × (Nat → Nat → Int64)) => Qp r u.1 u.2.1 u.2.2.1 u.2.2.2) (fun u : (Int32) × (Nat → Int32) × (Nat → Int32) × (Nat → Nat → Int64) => (WC cI cJ cE cD ad bd dd bHK bHP bPF bWC bRi bBe u.1 bWa u.2.1 u.2.2.1 u.2.2.2 tC tKi tEa tHa tPr tEx tSt tTo tBe kC kKi kEa kHa kPr kEx kSt kTo kBe aC aWh aTa aWa iRo iEa iLa cC nC nFo nQd nRo nBe nEa nMi nHa nER nMR nTh nPa nOu nFr nQu eM eL eC eS eB eE eF eG)) 0 0 := by
  refine ent_i (cc := cX7_board) (maxL := 4) (ret := (some .int)) (by decide) rfl (Nat.le_of_ble_eq_true rfl) ?_
  intro p e s m args below meth c A Q hQ hx hb hr hml hown hts hlk hA hAB hP hD hS ls hl
  have hown : s.vm.findClass RX7 = some m.cls := hown
  have hl : lv_has ls 4 [(0, .ref (ad 0)), (1, .int a1), (2, .int a2), (3, .int a3)] := hl
  generalize hH : s.heap = H at hP ⊢
  have hS : va_S A s.heap H [] := by rw [← hH]; exact hS
  clear hH
  generalize ([] : List Loc) = locs at hS ⊢
  have B29 : ∀ (bFi_1 : Int32) (dB_2 : Nat → Int32) (dS_3 : Nat → Int32) (dN_4 : Nat → Nat → Int64), wp_X7_board_b29 Qp a1 a2 a3 bFi_1 dB_2 dS_3 dN_4 → ∀ (H : Heap) (locs : List Loc) (ls : Array Slot), va_P D vwCl (WC cI cJ cE cD ad bd dd bHK bHP bPF bWC bRi bBe bFi_1 bWa dB_2 dS_3 dN_4 tC tKi tEa tHa tPr tEx tSt tTo tBe kC kKi kEa kHa kPr kEx kSt kTo kBe aC aWh aTa aWa iRo iEa iLa cC nC nFo nQd nRo nBe nEa nMi nHa nER nMR nTh nPa nOu nFr nQu eM eL eC eS eB eE eF eG) H → va_D A (WC cI cJ cE cD ad bd dd bHK bHP bPF bWC bRi bBe bFi_1 bWa dB_2 dS_3 dN_4 tC tKi tEa tHa tPr tEx tSt tTo tBe kC kKi kEa kHa kPr kEx kSt kTo kBe aC aWh aTa aWa iRo iEa iLa cC nC nFo nQd nRo nBe nEa nMi nHa nER nMR nTh nPa nOu nFr nQu eM eL eC eS eB eE eF eG) → va_S A s.heap H locs → lv_has ls 4 [(0, .ref (ad 0)), (1, .int a1), (2, .int a2), (3, .int a3)] → W p l e (headSpec wsX7_board rm_X7_board).room s m args below meth c H locs 0 0 Q (F0 m 29 ls []) := by
    intro bFi_1 dB_2 dS_3 dN_4 h H locs ls hP hD hS hl
    refine lv_iload_n hx hb dX7_board_29 rfl (lv_at hl 3 rfl) ?_
    refine lv_if_ge (tgt := 40) hx hb dX7_board_30 (by decide) (fun c_5 => ?_) (fun c_5 => ?_)
    · have h := h.1 c_5
      refine lv_iload_n hx hb dX7_board_40 rfl (lv_at hl 3 rfl) ?_
      refine lv_bipush (v := 24) hx hb dX7_board_41 (by decide) ?_
      refine lv_icmp_le (tgt := 52) hx hb dX7_board_43 (by decide) (fun c_6 => ?_) (fun c_6 => ?_)
      · have h := h.1 c_6
        refine lv_aload_n hx hb dX7_board_52 rfl (lv_at hl 0 rfl) ?_
        refine va_get (D := D) (ci := 7) (C := RX7) (T := TX7) (N := 14) hx hb hts inn_X7_board_7 hown hAB.1 hP 0 rfl rfl 0 (by decide) (hts (.fieldLink RX7 11 "BarnBench" "boards" "[LBarnBench$Board;") (by decide +kernel)) (fun _ h9 => h9) rfl dX7_board_53 ?_
        refine lv_iload_n hx hb dX7_board_56 rfl (lv_at hl 1 rfl) ?_
        have hi_7 := vp_lt h.1
        refine va_aldq hx hb hAB.1 hP 1 4 rfl rfl h.1 dX7_board_57 ?_
        have h := h.2
        rw [if_pos hi_7]
        show W _ _ _ _ _ _ _ _ _ _ _ _ _ _ _ (F0 _ _ _ (.ref (dd (Int32.toNatClampNeg a1) 0) :: _))
        refine lv_iload_n hx hb dX7_board_58 rfl (lv_at hl 2 rfl) ?_
        refine lv_iload_n hx hb dX7_board_59 rfl (lv_at hl 2 rfl) ?_
        refine lv_if_ne (tgt := 67) hx hb dX7_board_60 (by decide) (fun c_8 => ?_) (fun c_8 => ?_)
        · have h := h.1 c_8
          refine lv_iload_n hx hb dX7_board_67 rfl (lv_at hl 3 rfl) ?_
          have hP : va_P D vwCl (WC cI cJ cE cD ad bd dd bHK bHP bPF bWC bRi bBe bFi_1 bWa (va_up dB_2 (Int32.toNatClampNeg a1) (dB_2 (Int32.toNatClampNeg a1))) (va_up dS_3 (Int32.toNatClampNeg a1) (dS_3 (Int32.toNatClampNeg a1))) (va_up dN_4 (Int32.toNatClampNeg a1) (dN_4 (Int32.toNatClampNeg a1))) tC tKi tEa tHa tPr tEx tSt tTo tBe kC kKi kEa kHa kPr kEx kSt kTo kBe aC aWh aTa aWa iRo iEa iLa cC nC nFo nQd nRo nBe nEa nMi nHa nER nMR nTh nPa nOu nFr nQu eM eL eC eS eB eE eF eG) H := by simp only [vx_self]; exact hP
          have hD : va_D A (WC cI cJ cE cD ad bd dd bHK bHP bPF bWC bRi bBe bFi_1 bWa (va_up dB_2 (Int32.toNatClampNeg a1) (dB_2 (Int32.toNatClampNeg a1))) (va_up dS_3 (Int32.toNatClampNeg a1) (dS_3 (Int32.toNatClampNeg a1))) (va_up dN_4 (Int32.toNatClampNeg a1) (dN_4 (Int32.toNatClampNeg a1))) tC tKi tEa tHa tPr tEx tSt tTo tBe kC kKi kEa kHa kPr kEx kSt kTo kBe aC aWh aTa aWa iRo iEa iLa cC nC nFo nQd nRo nBe nEa nMi nHa nER nMR nTh nPa nOu nFr nQu eM eL eC eS eB eE eF eG) := by simp only [vx_self]; exact hD
          refine cl_v hD hS hA (va_runV (As := [.int a2, .int a3]) (rest := []) ⟨hx, hb, hml, hown, hts⟩ (ct_X2_lay hi_7 h H.size) (cwV 2 hts gX7_board_X2_lay rfl rfl rfl (by decide +kernel) ⟨Nat.le_of_ble_eq_true rfl, Nat.le_of_ble_eq_true rfl⟩) ⟨CPre.blind, va_recv hAB.1 hP (ci := 2) (q0 := (2 + ((Int32.toNatClampNeg a1) * 2 + 0))) rfl (gD_0 hi_7), wd_pre hAB hP hD hS hA⟩ rfl rfl hl.1 rfl (lv_room (Nat.le_of_ble_eq_true rfl)) dX7_board_68 ⟨Nat.zero_le _, Nat.zero_le _⟩) (fun u H locs h hP hD hS => ?_)
          obtain ⟨dB_9, dN_10, dS_11⟩ := u
          have hP : va_P D vwCl (WC cI cJ cE cD ad bd dd bHK bHP bPF bWC bRi bBe bFi_1 bWa (va_up dB_2 (Int32.toNatClampNeg a1) dB_9) (va_up dS_3 (Int32.toNatClampNeg a1) dS_11) (va_up dN_4 (Int32.toNatClampNeg a1) dN_10) tC tKi tEa tHa tPr tEx tSt tTo tBe kC kKi kEa kHa kPr kEx kSt kTo kBe aC aWh aTa aWa iRo iEa iLa cC nC nFo nQd nRo nBe nEa nMi nHa nER nMR nTh nPa nOu nFr nQu eM eL eC eS eB eE eF eG) H := hP
          have hD : va_D A (WC cI cJ cE cD ad bd dd bHK bHP bPF bWC bRi bBe bFi_1 bWa (va_up dB_2 (Int32.toNatClampNeg a1) dB_9) (va_up dS_3 (Int32.toNatClampNeg a1) dS_11) (va_up dN_4 (Int32.toNatClampNeg a1) dN_10) tC tKi tEa tHa tPr tEx tSt tTo tBe kC kKi kEa kHa kPr kEx kSt kTo kBe aC aWh aTa aWa iRo iEa iLa cC nC nFo nQd nRo nBe nEa nMi nHa nER nMR nTh nPa nOu nFr nQu eM eL eC eS eB eE eF eG) := hD
          refine lv_aload_n hx hb dX7_board_71 rfl (lv_at hl 0 rfl) ?_
          refine va_get (D := D) (ci := 7) (C := RX7) (T := TX7) (N := 14) hx hb hts inn_X7_board_7 hown hAB.1 hP 0 rfl rfl 0 (by decide) (hts (.fieldLink RX7 11 "BarnBench" "boards" "[LBarnBench$Board;") (by decide +kernel)) (fun _ h9 => h9) rfl dX7_board_72 ?_
          refine lv_iload_n hx hb dX7_board_75 rfl (lv_at hl 1 rfl) ?_
          have hi_12 := vp_lt h.1
          refine va_aldq hx hb hAB.1 hP 1 4 rfl rfl h.1 dX7_board_76 ?_
          have h := h.2
          rw [if_pos hi_12]
          show W _ _ _ _ _ _ _ _ _ _ _ _ _ _ _ (F0 _ _ _ (.ref (dd (Int32.toNatClampNeg a1) 0) :: _))
          refine va_get (D := D) (ci := 2) (C := RX2) (T := TX2) (N := 3) hx hb hts inn_X7_board_2 hown hAB.1 hP (2 + ((Int32.toNatClampNeg a1) * 2 + 0)) (gD_0 hi_12) rfl 1 (by decide) (hts (.fieldLink RX7 67 "BarnBench$Board" "size" "I") (by decide +kernel)) (fun _ h9 => h9) rfl dX7_board_77 ?_
          exact rt_i (bFi_1, (va_up dB_2 (Int32.toNatClampNeg a1) dB_9), (va_up dS_3 (Int32.toNatClampNeg a1) dS_11), (va_up dN_4 (Int32.toNatClampNeg a1) dN_10)) hQ hx hb hr hlk hP hD hS ⟨Nat.zero_le _, Nat.zero_le _⟩ dX7_board_80 h
        · have h := h.2 c_8
          refine lv_iconst (v := 0) hx hb dX7_board_63 (by decide) ?_
          refine lv_goto (tgt := 68) hx hb dX7_board_64 (by decide) ?_
          have hP : va_P D vwCl (WC cI cJ cE cD ad bd dd bHK bHP bPF bWC bRi bBe bFi_1 bWa (va_up dB_2 (Int32.toNatClampNeg a1) (dB_2 (Int32.toNatClampNeg a1))) (va_up dS_3 (Int32.toNatClampNeg a1) (dS_3 (Int32.toNatClampNeg a1))) (va_up dN_4 (Int32.toNatClampNeg a1) (dN_4 (Int32.toNatClampNeg a1))) tC tKi tEa tHa tPr tEx tSt tTo tBe kC kKi kEa kHa kPr kEx kSt kTo kBe aC aWh aTa aWa iRo iEa iLa cC nC nFo nQd nRo nBe nEa nMi nHa nER nMR nTh nPa nOu nFr nQu eM eL eC eS eB eE eF eG) H := by simp only [vx_self]; exact hP
          have hD : va_D A (WC cI cJ cE cD ad bd dd bHK bHP bPF bWC bRi bBe bFi_1 bWa (va_up dB_2 (Int32.toNatClampNeg a1) (dB_2 (Int32.toNatClampNeg a1))) (va_up dS_3 (Int32.toNatClampNeg a1) (dS_3 (Int32.toNatClampNeg a1))) (va_up dN_4 (Int32.toNatClampNeg a1) (dN_4 (Int32.toNatClampNeg a1))) tC tKi tEa tHa tPr tEx tSt tTo tBe kC kKi kEa kHa kPr kEx kSt kTo kBe aC aWh aTa aWa iRo iEa iLa cC nC nFo nQd nRo nBe nEa nMi nHa nER nMR nTh nPa nOu nFr nQu eM eL eC eS eB eE eF eG) := by simp only [vx_self]; exact hD
          refine cl_v hD hS hA (va_runV (As := [.int a2, .int 0]) (rest := []) ⟨hx, hb, hml, hown, hts⟩ (ct_X2_lay hi_7 h H.size) (cwV 2 hts gX7_board_X2_lay rfl rfl rfl (by decide +kernel) ⟨Nat.le_of_ble_eq_true rfl, Nat.le_of_ble_eq_true rfl⟩) ⟨CPre.blind, va_recv hAB.1 hP (ci := 2) (q0 := (2 + ((Int32.toNatClampNeg a1) * 2 + 0))) rfl (gD_0 hi_7), wd_pre hAB hP hD hS hA⟩ rfl rfl hl.1 rfl (lv_room (Nat.le_of_ble_eq_true rfl)) dX7_board_68 ⟨Nat.zero_le _, Nat.zero_le _⟩) (fun u H locs h hP hD hS => ?_)
          obtain ⟨dB_13, dN_14, dS_15⟩ := u
          have hP : va_P D vwCl (WC cI cJ cE cD ad bd dd bHK bHP bPF bWC bRi bBe bFi_1 bWa (va_up dB_2 (Int32.toNatClampNeg a1) dB_13) (va_up dS_3 (Int32.toNatClampNeg a1) dS_15) (va_up dN_4 (Int32.toNatClampNeg a1) dN_14) tC tKi tEa tHa tPr tEx tSt tTo tBe kC kKi kEa kHa kPr kEx kSt kTo kBe aC aWh aTa aWa iRo iEa iLa cC nC nFo nQd nRo nBe nEa nMi nHa nER nMR nTh nPa nOu nFr nQu eM eL eC eS eB eE eF eG) H := hP
          have hD : va_D A (WC cI cJ cE cD ad bd dd bHK bHP bPF bWC bRi bBe bFi_1 bWa (va_up dB_2 (Int32.toNatClampNeg a1) dB_13) (va_up dS_3 (Int32.toNatClampNeg a1) dS_15) (va_up dN_4 (Int32.toNatClampNeg a1) dN_14) tC tKi tEa tHa tPr tEx tSt tTo tBe kC kKi kEa kHa kPr kEx kSt kTo kBe aC aWh aTa aWa iRo iEa iLa cC nC nFo nQd nRo nBe nEa nMi nHa nER nMR nTh nPa nOu nFr nQu eM eL eC eS eB eE eF eG) := hD
          refine lv_aload_n hx hb dX7_board_71 rfl (lv_at hl 0 rfl) ?_
          refine va_get (D := D) (ci := 7) (C := RX7) (T := TX7) (N := 14) hx hb hts inn_X7_board_7 hown hAB.1 hP 0 rfl rfl 0 (by decide) (hts (.fieldLink RX7 11 "BarnBench" "boards" "[LBarnBench$Board;") (by decide +kernel)) (fun _ h9 => h9) rfl dX7_board_72 ?_
          refine lv_iload_n hx hb dX7_board_75 rfl (lv_at hl 1 rfl) ?_
          have hi_16 := vp_lt h.1
          refine va_aldq hx hb hAB.1 hP 1 4 rfl rfl h.1 dX7_board_76 ?_
          have h := h.2
          rw [if_pos hi_16]
          show W _ _ _ _ _ _ _ _ _ _ _ _ _ _ _ (F0 _ _ _ (.ref (dd (Int32.toNatClampNeg a1) 0) :: _))
          refine va_get (D := D) (ci := 2) (C := RX2) (T := TX2) (N := 3) hx hb hts inn_X7_board_2 hown hAB.1 hP (2 + ((Int32.toNatClampNeg a1) * 2 + 0)) (gD_0 hi_16) rfl 1 (by decide) (hts (.fieldLink RX7 67 "BarnBench$Board" "size" "I") (by decide +kernel)) (fun _ h9 => h9) rfl dX7_board_77 ?_
          exact rt_i (bFi_1, (va_up dB_2 (Int32.toNatClampNeg a1) dB_13), (va_up dS_3 (Int32.toNatClampNeg a1) dS_15), (va_up dN_4 (Int32.toNatClampNeg a1) dN_14)) hQ hx hb hr hlk hP hD hS ⟨Nat.zero_le _, Nat.zero_le _⟩ dX7_board_80 h
      · have h := h.2 c_6
        refine lv_aload_n hx hb dX7_board_46 rfl (lv_at hl 0 rfl) ?_
        refine lv_iconst (v := (-1)) hx hb dX7_board_47 (by decide) ?_
        refine cl_i hD hS hA (va_runV (As := [.int (-1)]) (rest := []) ⟨hx, hb, hml, hown, hts⟩ (ct_X7_finding h H.size) (cwV 1 hts gX7_board_X7_finding rfl rfl rfl (by decide +kernel) ⟨Nat.le_of_ble_eq_true rfl, Nat.le_of_ble_eq_true rfl⟩) ⟨CPre.blind, va_recv hAB.1 hP (ci := 7) (q0 := 0) rfl rfl, wd_pre hAB hP hD hS hA⟩ rfl rfl hl.1 rfl (lv_room (Nat.le_of_ble_eq_true rfl)) dX7_board_48 ⟨Nat.zero_le _, Nat.zero_le _⟩) (fun r_17 bFi_18 H locs h hP hD hS => ?_)
        have hP : va_P D vwCl (WC cI cJ cE cD ad bd dd bHK bHP bPF bWC bRi bBe bFi_18 bWa dB_2 dS_3 dN_4 tC tKi tEa tHa tPr tEx tSt tTo tBe kC kKi kEa kHa kPr kEx kSt kTo kBe aC aWh aTa aWa iRo iEa iLa cC nC nFo nQd nRo nBe nEa nMi nHa nER nMR nTh nPa nOu nFr nQu eM eL eC eS eB eE eF eG) H := hP
        have hD : va_D A (WC cI cJ cE cD ad bd dd bHK bHP bPF bWC bRi bBe bFi_18 bWa dB_2 dS_3 dN_4 tC tKi tEa tHa tPr tEx tSt tTo tBe kC kKi kEa kHa kPr kEx kSt kTo kBe aC aWh aTa aWa iRo iEa iLa cC nC nFo nQd nRo nBe nEa nMi nHa nER nMR nTh nPa nOu nFr nQu eM eL eC eS eB eE eF eG) := hD
        exact rt_i (bFi_18, dB_2, dS_3, dN_4) hQ hx hb hr hlk hP hD hS ⟨Nat.zero_le _, Nat.zero_le _⟩ dX7_board_51 h
    · have h := h.2 c_5
      refine lv_aload_n hx hb dX7_board_33 rfl (lv_at hl 0 rfl) ?_
      refine lv_bipush (v := (-3)) hx hb dX7_board_34 (by decide) ?_
      refine cl_i hD hS hA (va_runV (As := [.int (-3)]) (rest := []) ⟨hx, hb, hml, hown, hts⟩ (ct_X7_finding h H.size) (cwV 1 hts gX7_board_X7_finding rfl rfl rfl (by decide +kernel) ⟨Nat.le_of_ble_eq_true rfl, Nat.le_of_ble_eq_true rfl⟩) ⟨CPre.blind, va_recv hAB.1 hP (ci := 7) (q0 := 0) rfl rfl, wd_pre hAB hP hD hS hA⟩ rfl rfl hl.1 rfl (lv_room (Nat.le_of_ble_eq_true rfl)) dX7_board_36 ⟨Nat.zero_le _, Nat.zero_le _⟩) (fun r_19 bFi_20 H locs h hP hD hS => ?_)
      have hP : va_P D vwCl (WC cI cJ cE cD ad bd dd bHK bHP bPF bWC bRi bBe bFi_20 bWa dB_2 dS_3 dN_4 tC tKi tEa tHa tPr tEx tSt tTo tBe kC kKi kEa kHa kPr kEx kSt kTo kBe aC aWh aTa aWa iRo iEa iLa cC nC nFo nQd nRo nBe nEa nMi nHa nER nMR nTh nPa nOu nFr nQu eM eL eC eS eB eE eF eG) H := hP
      have hD : va_D A (WC cI cJ cE cD ad bd dd bHK bHP bPF bWC bRi bBe bFi_20 bWa dB_2 dS_3 dN_4 tC tKi tEa tHa tPr tEx tSt tTo tBe kC kKi kEa kHa kPr kEx kSt kTo kBe aC aWh aTa aWa iRo iEa iLa cC nC nFo nQd nRo nBe nEa nMi nHa nER nMR nTh nPa nOu nFr nQu eM eL eC eS eB eE eF eG) := hD
      exact rt_i (bFi_20, dB_2, dS_3, dN_4) hQ hx hb hr hlk hP hD hS ⟨Nat.zero_le _, Nat.zero_le _⟩ dX7_board_39 h
  have B23 : ∀ (bFi_21 : Int32) (dB_22 : Nat → Int32) (dS_23 : Nat → Int32) (dN_24 : Nat → Nat → Int64), wp_X7_board_b23 Qp bFi_21 dB_22 dS_23 dN_24 → ∀ (H : Heap) (locs : List Loc) (ls : Array Slot), va_P D vwCl (WC cI cJ cE cD ad bd dd bHK bHP bPF bWC bRi bBe bFi_21 bWa dB_22 dS_23 dN_24 tC tKi tEa tHa tPr tEx tSt tTo tBe kC kKi kEa kHa kPr kEx kSt kTo kBe aC aWh aTa aWa iRo iEa iLa cC nC nFo nQd nRo nBe nEa nMi nHa nER nMR nTh nPa nOu nFr nQu eM eL eC eS eB eE eF eG) H → va_D A (WC cI cJ cE cD ad bd dd bHK bHP bPF bWC bRi bBe bFi_21 bWa dB_22 dS_23 dN_24 tC tKi tEa tHa tPr tEx tSt tTo tBe kC kKi kEa kHa kPr kEx kSt kTo kBe aC aWh aTa aWa iRo iEa iLa cC nC nFo nQd nRo nBe nEa nMi nHa nER nMR nTh nPa nOu nFr nQu eM eL eC eS eB eE eF eG) → va_S A s.heap H locs → lv_has ls 4 [(0, .ref (ad 0))] → W p l e (headSpec wsX7_board rm_X7_board).room s m args below meth c H locs 0 0 Q (F0 m 23 ls []) := by
    intro bFi_21 dB_22 dS_23 dN_24 h H locs ls hP hD hS hl
    refine lv_aload_n hx hb dX7_board_23 rfl (lv_at hl 0 rfl) ?_
    refine lv_iconst (v := (-1)) hx hb dX7_board_24 (by decide) ?_
    refine cl_i hD hS hA (va_runV (As := [.int (-1)]) (rest := []) ⟨hx, hb, hml, hown, hts⟩ (ct_X7_finding h H.size) (cwV 1 hts gX7_board_X7_finding rfl rfl rfl (by decide +kernel) ⟨Nat.le_of_ble_eq_true rfl, Nat.le_of_ble_eq_true rfl⟩) ⟨CPre.blind, va_recv hAB.1 hP (ci := 7) (q0 := 0) rfl rfl, wd_pre hAB hP hD hS hA⟩ rfl rfl hl.1 rfl (lv_room (Nat.le_of_ble_eq_true rfl)) dX7_board_25 ⟨Nat.zero_le _, Nat.zero_le _⟩) (fun r_25 bFi_26 H locs h hP hD hS => ?_)
    have hP : va_P D vwCl (WC cI cJ cE cD ad bd dd bHK bHP bPF bWC bRi bBe bFi_26 bWa dB_22 dS_23 dN_24 tC tKi tEa tHa tPr tEx tSt tTo tBe kC kKi kEa kHa kPr kEx kSt kTo kBe aC aWh aTa aWa iRo iEa iLa cC nC nFo nQd nRo nBe nEa nMi nHa nER nMR nTh nPa nOu nFr nQu eM eL eC eS eB eE eF eG) H := hP
    have hD : va_D A (WC cI cJ cE cD ad bd dd bHK bHP bPF bWC bRi bBe bFi_26 bWa dB_22 dS_23 dN_24 tC tKi tEa tHa tPr tEx tSt tTo tBe kC kKi kEa kHa kPr kEx kSt kTo kBe aC aWh aTa aWa iRo iEa iLa cC nC nFo nQd nRo nBe nEa nMi nHa nER nMR nTh nPa nOu nFr nQu eM eL eC eS eB eE eF eG) := hD
    exact rt_i (bFi_26, dB_22, dS_23, dN_24) hQ hx hb hr hlk hP hD hS ⟨Nat.zero_le _, Nat.zero_le _⟩ dX7_board_28 h
  refine lv_iload_n hx hb dX7_board_0 rfl (lv_at hl 1 rfl) ?_
  refine cl_i hD hS hA (va_runS (As := [.int a1]) (rest := []) ⟨hx, hb, hml, hown, hts⟩ (ct_X7_isBoard h H.size) (va_cwS 1 hts gX7_board_X7_isBoard rfl rfl rfl (by decide +kernel) ⟨Nat.le_of_ble_eq_true rfl, Nat.le_of_ble_eq_true rfl⟩) ⟨CPre.blind, wd_pre hAB hP hD hS hA⟩ rfl rfl hl.1 rfl (lv_room (Nat.le_of_ble_eq_true rfl)) dX7_board_1 ⟨Nat.zero_le _, Nat.zero_le _⟩) (fun r_27 u H locs h hP hD hS => ?_)
  refine lv_if_eq (tgt := 23) hx hb dX7_board_4 (by decide) (fun c_28 => ?_) (fun c_28 => ?_)
  · have h := h.1 c_28
    exact B23 bFi dB dS dN h H locs ls hP hD hS (lv_sub hl [0] rfl)
  · have h := h.2 c_28
    refine lv_iload_n hx hb dX7_board_7 rfl (lv_at hl 2 rfl) ?_
    refine lv_if_eq (tgt := 29) hx hb dX7_board_8 (by decide) (fun c_29 => ?_) (fun c_29 => ?_)
    · have h := h.1 c_29
      exact B29 bFi dB dS dN h H locs ls hP hD hS (lv_sub hl [0, 1, 2, 3] rfl)
    · have h := h.2 c_29
      refine lv_iload_n hx hb dX7_board_11 rfl (lv_at hl 2 rfl) ?_
      refine lv_bipush (v := 32) hx hb dX7_board_12 (by decide) ?_
      refine lv_icmp_eq (tgt := 29) hx hb dX7_board_14 (by decide) (fun c_30 => ?_) (fun c_30 => ?_)
      · have h := h.1 c_30
        exact B29 bFi dB dS dN h H locs ls hP hD hS (lv_sub hl [0, 1, 2, 3] rfl)
      · have h := h.2 c_30
        refine lv_iload_n hx hb dX7_board_17 rfl (lv_at hl 2 rfl) ?_
        refine lv_bipush (v := 64) hx hb dX7_board_18 (by decide) ?_
        refine lv_icmp_eq (tgt := 29) hx hb dX7_board_20 (by decide) (fun c_31 => ?_) (fun c_31 => ?_)
        · have h := h.1 c_31
          exact B29 bFi dB dS dN h H locs ls hP hD hS (lv_sub hl [0, 1, 2, 3] rfl)
        · have h := h.2 c_31
          exact B23 bFi dB dS dN h H locs ls hP hD hS (lv_sub hl [0] rfl)
def wp_X7_put (bFi : Int32) (dB : Nat → Int32) (dS : Nat → Int32) (dN : Nat → Nat → Int64) (a1 : Int32) (a2 : Int32) (a3 : Int64) (Qp : Int32 → (Int32) → (Nat → Nat → Int64) → Prop) : Prop :=
  wp_X7_isBoard a1 (fun (r_1 : Int32) => ((¬ r_1 = 0 → vp_in a1 4 ∧ wp_X2_isMissing (dB (Int32.toNatClampNeg a1)) (fun (r_4 : Int32) => ((r_4 = 0 → wp_X2_has (dS (Int32.toNatClampNeg a1)) a2 1 (fun (r_6 : Int32) => ((¬ r_6 = 0 → wp_X2_write (dB (Int32.toNatClampNeg a1)) (dN (Int32.toNatClampNeg a1)) a2 a3 (fun (dN_8 : Nat → Int64) => Qp 0 bFi (va_up dN (Int32.toNatClampNeg a1) dN_8))) ∧
   (r_6 = 0 → wp_X7_finding bFi (-1) (fun (r_9 : Int32) (bFi_10 : Int32) => Qp r_9 bFi_10 dN))))) ∧
   (¬ r_4 = 0 → wp_X7_finding bFi (-2) (fun (r_11 : Int32) (bFi_12 : Int32) => Qp r_11 bFi_12 dN))))) ∧
   (r_1 = 0 → wp_X7_finding bFi (-1) (fun (r_13 : Int32) (bFi_14 : Int32) => Qp r_13 bFi_14 dN))))
theorem inn_X7_put_7 : ∀ w ∈ u_ws RX7 TX7 14, w ∈ wsX7_put := fun _ h => List.mem_cons_of_mem _ (List.mem_append_left _ (List.mem_append_right _ h))
def rm_X7_put : Room := { frames := 1, cells := 0, slots := 0, locals := 23 }
set_option maxHeartbeats 4000000 in
set_option maxRecDepth 100000 in
theorem ct_X7_put {l : Launch} {D : va_G} {cI cJ cZ cE cD cK : ClassId} {ad : Nat → Nat} {bd dd : Nat → Nat → Nat} {bHK : Int32} {bHP : Int32} {bPF : Int32} {bWC : Int32} {bRi : Int32} {bBe : Int32} {bFi : Int32} {bWa : Nat → Int32} {dB : Nat → Int32} {dS : Nat → Int32} {dN : Nat → Nat → Int64} {tC : Int32} {tKi : Nat → Int32} {tEa : Nat → Int32} {tHa : Nat → Int32} {tPr : Nat → Int32} {tEx : Nat → Int32} {tSt : Nat → Int32} {tTo : Nat → Int32} {tBe : Nat → Int32} {kC : Int32} {kKi : Nat → Int32} {kEa : Nat → Int32} {kHa : Nat → Int32} {kPr : Nat → Int32} {kEx : Nat → Int32} {kSt : Nat → Int32} {kTo : Nat → Int32} {kBe : Nat → Int32} {aC : Int32} {aWh : Nat → Int32} {aTa : Nat → Int32} {aWa : Nat → Int32} {iRo : Nat → Int32} {iEa : Nat → Int32} {iLa : Nat → Int32} {cC : Int32} {nC : Int32} {nFo : Int32} {nQd : Int32} {nRo : Nat → Int32} {nBe : Nat → Int32} {nEa : Nat → Int32} {nMi : Nat → Int32} {nHa : Nat → Int32} {nER : Nat → Int32} {nMR : Nat → Int32} {nTh : Nat → Int32} {nPa : Nat → Int32} {nOu : Nat → Int32} {nFr : Nat → Int32} {nQu : Nat → Int32} {eM : Nat} {eL : Nat → Int32} {eC : Nat → Int64} {eS : Nat → Int64} {eB : Nat → Nat → Int32} {eE : Nat → Nat → Int32} {eF : Nat → Nat → Int32} {eG : Nat → Nat → Int32}   {a1 : Int32} {a2 : Int32} {a3 : Int64} {Qp : Int32 → (Int32) → (Nat → Nat → Int64) → Prop}   (h : wp_X7_put bFi dB dS dN a1 a2 a3 Qp) : CTi l yX7_put wsX7_put rm_X7_put D (tyL cI cJ cZ cE cD cK) [.ref (ad 0), .int a1, .int a2, .long a3] (WC cI cJ cE cD ad bd dd bHK bHP bPF bWC bRi bBe bFi bWa dB dS dN tC tKi tEa tHa tPr tEx tSt tTo tBe kC kKi kEa kHa kPr kEx kSt kTo kBe aC aWh aTa aWa iRo iEa iLa cC nC nFo nQd nRo nBe nEa nMi nHa nER nMR nTh nPa nOu nFr nQu eM eL eC eS eB eE eF eG) (fun (r : Int32) (u : (Int32) × (Nat → Nat → Int64)) => Qp r u.1 u.2) (fun u : (Int32) × (Nat → Nat → Int64) => (WC cI cJ cE cD ad bd dd bHK bHP bPF bWC bRi bBe u.1 bWa dB dS u.2 tC tKi tEa tHa tPr tEx tSt tTo tBe kC kKi kEa kHa kPr kEx kSt kTo kBe aC aWh aTa aWa iRo iEa iLa cC nC nFo nQd nRo nBe nEa nMi nHa nER nMR nTh nPa nOu nFr nQu eM eL eC eS eB eE eF eG)) 0 0 := by
  refine ent_i (cc := cX7_put) (maxL := 6) (ret := (some .int)) (by decide) rfl (Nat.le_of_ble_eq_true rfl) ?_
  intro p e s m args below meth c A Q hQ hx hb hr hml hown hts hlk hA hAB hP hD hS ls hl
  have hown : s.vm.findClass RX7 = some m.cls := hown
  have hl : lv_has ls 6 [(0, .ref (ad 0)), (1, .int a1), (2, .int a2), (3, .long a3)] := hl
  generalize hH : s.heap = H at hP ⊢
  have hS : va_S A s.heap H [] := by rw [← hH]; exact hS
  clear hH
  generalize ([] : List Loc) = locs at hS ⊢
  refine lv_iload_n hx hb dX7_put_0 rfl (lv_at hl 1 rfl) ?_
  refine cl_i hD hS hA (va_runS (As := [.int a1]) (rest := []) ⟨hx, hb, hml, hown, hts⟩ (ct_X7_isBoard h H.size) (va_cwS 1 hts gX7_put_X7_isBoard rfl rfl rfl (by decide +kernel) ⟨Nat.le_of_ble_eq_true rfl, Nat.le_of_ble_eq_true rfl⟩) ⟨CPre.blind, wd_pre hAB hP hD hS hA⟩ rfl rfl hl.1 rfl (lv_room (Nat.le_of_ble_eq_true rfl)) dX7_put_1 ⟨Nat.zero_le _, Nat.zero_le _⟩) (fun r_1 u H locs h hP hD hS => ?_)
  refine lv_if_ne (tgt := 13) hx hb dX7_put_4 (by decide) (fun c_2 => ?_) (fun c_2 => ?_)
  · have h := h.1 c_2
    refine lv_aload_n hx hb dX7_put_13 rfl (lv_at hl 0 rfl) ?_
    refine va_get (D := D) (ci := 7) (C := RX7) (T := TX7) (N := 14) hx hb hts inn_X7_put_7 hown hAB.1 hP 0 rfl rfl 0 (by decide) (hts (.fieldLink RX7 11 "BarnBench" "boards" "[LBarnBench$Board;") (by decide +kernel)) (fun _ h9 => h9) rfl dX7_put_14 ?_
    refine lv_iload_n hx hb dX7_put_17 rfl (lv_at hl 1 rfl) ?_
    have hi_3 := vp_lt h.1
    refine va_aldq hx hb hAB.1 hP 1 4 rfl rfl h.1 dX7_put_18 ?_
    have h := h.2
    rw [if_pos hi_3]
    show W _ _ _ _ _ _ _ _ _ _ _ _ _ _ _ (F0 _ _ _ (.ref (dd (Int32.toNatClampNeg a1) 0) :: _))
    refine lv_astore (lv' := [(5, .ref (dd (Int32.toNatClampNeg a1) 0)), (0, .ref (ad 0)), (1, .int a1), (2, .int a2), (3, .long a3)]) hx hb dX7_put_19 hl (by decide) rfl (fun ls hl => ?_)
    refine lv_aload hx hb dX7_put_21 (lv_at hl 0 rfl) ?_
    refine cl_i hD hS hA (va_runV (As := []) (rest := []) ⟨hx, hb, hml, hown, hts⟩ (ct_X2_isMissing hi_3 rfl h H.size) (cwV 0 hts gX7_put_X2_isMissing rfl rfl rfl (by decide +kernel) ⟨Nat.le_of_ble_eq_true rfl, Nat.le_of_ble_eq_true rfl⟩) ⟨CPre.blind, va_recv hAB.1 hP (ci := 2) (q0 := (2 + ((Int32.toNatClampNeg a1) * 2 + 0))) rfl (gD_0 hi_3), wd_pre hAB hP hD hS hA⟩ rfl rfl hl.1 rfl (lv_room (Nat.le_of_ble_eq_true rfl)) dX7_put_23 ⟨Nat.zero_le _, Nat.zero_le _⟩) (fun r_4 u H locs h hP hD hS => ?_)
    refine lv_if_eq (tgt := 36) hx hb dX7_put_26 (by decide) (fun c_5 => ?_) (fun c_5 => ?_)
    · have h := h.1 c_5
      refine lv_aload hx hb dX7_put_36 (lv_at hl 0 rfl) ?_
      refine lv_iload_n hx hb dX7_put_38 rfl (lv_at hl 3 rfl) ?_
      refine lv_iconst (v := 1) hx hb dX7_put_39 (by decide) ?_
      refine cl_i hD hS hA (va_runV (As := [.int a2, .int 1]) (rest := []) ⟨hx, hb, hml, hown, hts⟩ (ct_X2_has hi_3 rfl h H.size) (cwV 2 hts gX7_put_X2_has rfl rfl rfl (by decide +kernel) ⟨Nat.le_of_ble_eq_true rfl, Nat.le_of_ble_eq_true rfl⟩) ⟨CPre.blind, va_recv hAB.1 hP (ci := 2) (q0 := (2 + ((Int32.toNatClampNeg a1) * 2 + 0))) rfl (gD_0 hi_3), wd_pre hAB hP hD hS hA⟩ rfl rfl hl.1 rfl (lv_room (Nat.le_of_ble_eq_true rfl)) dX7_put_40 ⟨Nat.zero_le _, Nat.zero_le _⟩) (fun r_6 u H locs h hP hD hS => ?_)
      refine lv_if_ne (tgt := 52) hx hb dX7_put_43 (by decide) (fun c_7 => ?_) (fun c_7 => ?_)
      · have h := h.1 c_7
        refine lv_aload hx hb dX7_put_52 (lv_at hl 0 rfl) ?_
        refine lv_iload_n hx hb dX7_put_54 rfl (lv_at hl 3 rfl) ?_
        refine lv_lload_n hx hb dX7_put_55 rfl (lv_at hl 4 rfl) ?_
        have hP : va_P D vwCl (WC cI cJ cE cD ad bd dd bHK bHP bPF bWC bRi bBe bFi bWa dB dS (va_up dN (Int32.toNatClampNeg a1) (dN (Int32.toNatClampNeg a1))) tC tKi tEa tHa tPr tEx tSt tTo tBe kC kKi kEa kHa kPr kEx kSt kTo kBe aC aWh aTa aWa iRo iEa iLa cC nC nFo nQd nRo nBe nEa nMi nHa nER nMR nTh nPa nOu nFr nQu eM eL eC eS eB eE eF eG) H := by simp only [vx_self]; exact hP
        have hD : va_D A (WC cI cJ cE cD ad bd dd bHK bHP bPF bWC bRi bBe bFi bWa dB dS (va_up dN (Int32.toNatClampNeg a1) (dN (Int32.toNatClampNeg a1))) tC tKi tEa tHa tPr tEx tSt tTo tBe kC kKi kEa kHa kPr kEx kSt kTo kBe aC aWh aTa aWa iRo iEa iLa cC nC nFo nQd nRo nBe nEa nMi nHa nER nMR nTh nPa nOu nFr nQu eM eL eC eS eB eE eF eG) := by simp only [vx_self]; exact hD
        refine cl_v hD hS hA (va_runV (As := [.int a2, .long a3]) (rest := []) ⟨hx, hb, hml, hown, hts⟩ (ct_X2_write hi_3 rfl h H.size) (cwV 2 hts gX7_put_X2_write rfl rfl rfl (by decide +kernel) ⟨Nat.le_of_ble_eq_true rfl, Nat.le_of_ble_eq_true rfl⟩) ⟨CPre.blind, va_recv hAB.1 hP (ci := 2) (q0 := (2 + ((Int32.toNatClampNeg a1) * 2 + 0))) rfl (gD_0 hi_3), wd_pre hAB hP hD hS hA⟩ rfl rfl hl.1 rfl (lv_room (Nat.le_of_ble_eq_true rfl)) dX7_put_56 ⟨Nat.zero_le _, Nat.zero_le _⟩) (fun dN_8 H locs h hP hD hS => ?_)
        have hP : va_P D vwCl (WC cI cJ cE cD ad bd dd bHK bHP bPF bWC bRi bBe bFi bWa dB dS (va_up dN (Int32.toNatClampNeg a1) dN_8) tC tKi tEa tHa tPr tEx tSt tTo tBe kC kKi kEa kHa kPr kEx kSt kTo kBe aC aWh aTa aWa iRo iEa iLa cC nC nFo nQd nRo nBe nEa nMi nHa nER nMR nTh nPa nOu nFr nQu eM eL eC eS eB eE eF eG) H := hP
        have hD : va_D A (WC cI cJ cE cD ad bd dd bHK bHP bPF bWC bRi bBe bFi bWa dB dS (va_up dN (Int32.toNatClampNeg a1) dN_8) tC tKi tEa tHa tPr tEx tSt tTo tBe kC kKi kEa kHa kPr kEx kSt kTo kBe aC aWh aTa aWa iRo iEa iLa cC nC nFo nQd nRo nBe nEa nMi nHa nER nMR nTh nPa nOu nFr nQu eM eL eC eS eB eE eF eG) := hD
        refine lv_iconst (v := 0) hx hb dX7_put_59 (by decide) ?_
        exact rt_i (bFi, (va_up dN (Int32.toNatClampNeg a1) dN_8)) hQ hx hb hr hlk hP hD hS ⟨Nat.zero_le _, Nat.zero_le _⟩ dX7_put_60 h
      · have h := h.2 c_7
        refine lv_aload_n hx hb dX7_put_46 rfl (lv_at hl 1 rfl) ?_
        refine lv_iconst (v := (-1)) hx hb dX7_put_47 (by decide) ?_
        refine cl_i hD hS hA (va_runV (As := [.int (-1)]) (rest := []) ⟨hx, hb, hml, hown, hts⟩ (ct_X7_finding h H.size) (cwV 1 hts gX7_put_X7_finding rfl rfl rfl (by decide +kernel) ⟨Nat.le_of_ble_eq_true rfl, Nat.le_of_ble_eq_true rfl⟩) ⟨CPre.blind, va_recv hAB.1 hP (ci := 7) (q0 := 0) rfl rfl, wd_pre hAB hP hD hS hA⟩ rfl rfl hl.1 rfl (lv_room (Nat.le_of_ble_eq_true rfl)) dX7_put_48 ⟨Nat.zero_le _, Nat.zero_le _⟩) (fun r_9 bFi_10 H locs h hP hD hS => ?_)
        have hP : va_P D vwCl (WC cI cJ cE cD ad bd dd bHK bHP bPF bWC bRi bBe bFi_10 bWa dB dS dN tC tKi tEa tHa tPr tEx tSt tTo tBe kC kKi kEa kHa kPr kEx kSt kTo kBe aC aWh aTa aWa iRo iEa iLa cC nC nFo nQd nRo nBe nEa nMi nHa nER nMR nTh nPa nOu nFr nQu eM eL eC eS eB eE eF eG) H := hP
        have hD : va_D A (WC cI cJ cE cD ad bd dd bHK bHP bPF bWC bRi bBe bFi_10 bWa dB dS dN tC tKi tEa tHa tPr tEx tSt tTo tBe kC kKi kEa kHa kPr kEx kSt kTo kBe aC aWh aTa aWa iRo iEa iLa cC nC nFo nQd nRo nBe nEa nMi nHa nER nMR nTh nPa nOu nFr nQu eM eL eC eS eB eE eF eG) := hD
        exact rt_i (bFi_10, dN) hQ hx hb hr hlk hP hD hS ⟨Nat.zero_le _, Nat.zero_le _⟩ dX7_put_51 h
    · have h := h.2 c_5
      refine lv_aload_n hx hb dX7_put_29 rfl (lv_at hl 1 rfl) ?_
      refine lv_bipush (v := (-2)) hx hb dX7_put_30 (by decide) ?_
      refine cl_i hD hS hA (va_runV (As := [.int (-2)]) (rest := []) ⟨hx, hb, hml, hown, hts⟩ (ct_X7_finding h H.size) (cwV 1 hts gX7_put_X7_finding rfl rfl rfl (by decide +kernel) ⟨Nat.le_of_ble_eq_true rfl, Nat.le_of_ble_eq_true rfl⟩) ⟨CPre.blind, va_recv hAB.1 hP (ci := 7) (q0 := 0) rfl rfl, wd_pre hAB hP hD hS hA⟩ rfl rfl hl.1 rfl (lv_room (Nat.le_of_ble_eq_true rfl)) dX7_put_32 ⟨Nat.zero_le _, Nat.zero_le _⟩) (fun r_11 bFi_12 H locs h hP hD hS => ?_)
      have hP : va_P D vwCl (WC cI cJ cE cD ad bd dd bHK bHP bPF bWC bRi bBe bFi_12 bWa dB dS dN tC tKi tEa tHa tPr tEx tSt tTo tBe kC kKi kEa kHa kPr kEx kSt kTo kBe aC aWh aTa aWa iRo iEa iLa cC nC nFo nQd nRo nBe nEa nMi nHa nER nMR nTh nPa nOu nFr nQu eM eL eC eS eB eE eF eG) H := hP
      have hD : va_D A (WC cI cJ cE cD ad bd dd bHK bHP bPF bWC bRi bBe bFi_12 bWa dB dS dN tC tKi tEa tHa tPr tEx tSt tTo tBe kC kKi kEa kHa kPr kEx kSt kTo kBe aC aWh aTa aWa iRo iEa iLa cC nC nFo nQd nRo nBe nEa nMi nHa nER nMR nTh nPa nOu nFr nQu eM eL eC eS eB eE eF eG) := hD
      exact rt_i (bFi_12, dN) hQ hx hb hr hlk hP hD hS ⟨Nat.zero_le _, Nat.zero_le _⟩ dX7_put_35 h
  · have h := h.2 c_2
    refine lv_aload_n hx hb dX7_put_7 rfl (lv_at hl 0 rfl) ?_
    refine lv_iconst (v := (-1)) hx hb dX7_put_8 (by decide) ?_
    refine cl_i hD hS hA (va_runV (As := [.int (-1)]) (rest := []) ⟨hx, hb, hml, hown, hts⟩ (ct_X7_finding h H.size) (cwV 1 hts gX7_put_X7_finding rfl rfl rfl (by decide +kernel) ⟨Nat.le_of_ble_eq_true rfl, Nat.le_of_ble_eq_true rfl⟩) ⟨CPre.blind, va_recv hAB.1 hP (ci := 7) (q0 := 0) rfl rfl, wd_pre hAB hP hD hS hA⟩ rfl rfl hl.1 rfl (lv_room (Nat.le_of_ble_eq_true rfl)) dX7_put_9 ⟨Nat.zero_le _, Nat.zero_le _⟩) (fun r_13 bFi_14 H locs h hP hD hS => ?_)
    have hP : va_P D vwCl (WC cI cJ cE cD ad bd dd bHK bHP bPF bWC bRi bBe bFi_14 bWa dB dS dN tC tKi tEa tHa tPr tEx tSt tTo tBe kC kKi kEa kHa kPr kEx kSt kTo kBe aC aWh aTa aWa iRo iEa iLa cC nC nFo nQd nRo nBe nEa nMi nHa nER nMR nTh nPa nOu nFr nQu eM eL eC eS eB eE eF eG) H := hP
    have hD : va_D A (WC cI cJ cE cD ad bd dd bHK bHP bPF bWC bRi bBe bFi_14 bWa dB dS dN tC tKi tEa tHa tPr tEx tSt tTo tBe kC kKi kEa kHa kPr kEx kSt kTo kBe aC aWh aTa aWa iRo iEa iLa cC nC nFo nQd nRo nBe nEa nMi nHa nER nMR nTh nPa nOu nFr nQu eM eL eC eS eB eE eF eG) := hD
    exact rt_i (bFi_14, dN) hQ hx hb hr hlk hP hD hS ⟨Nat.zero_le _, Nat.zero_le _⟩ dX7_put_12 h
def wp_X7_copy_b102 (Qp : Int32 → (Int32) → (Nat → Nat → Int64) → Prop) (bFi_1 : Int32) (dN_2 : Nat → Nat → Int64) : Prop :=
  wp_X7_finding bFi_1 (-1) (fun (r_3 : Int32) (bFi_4 : Int32) => Qp r_3 bFi_4 dN_2)
def wp_X7_copy_b52 (Qp : Int32 → (Int32) → (Nat → Nat → Int64) → Prop) (bFi_5 : Int32) (dN_6 : Nat → Nat → Int64) : Prop :=
  wp_X7_finding bFi_5 (-2) (fun (r_7 : Int32) (bFi_8 : Int32) => Qp r_7 bFi_8 dN_6)
def wp_X7_copy_b14 (Qp : Int32 → (Int32) → (Nat → Nat → Int64) → Prop) (bFi_9 : Int32) (dN_10 : Nat → Nat → Int64) : Prop :=
  wp_X7_finding bFi_9 (-1) (fun (r_11 : Int32) (bFi_12 : Int32) => Qp r_11 bFi_12 dN_10)
def wp_X7_copy (bFi : Int32) (dB : Nat → Int32) (dS : Nat → Int32) (dN : Nat → Nat → Int64) (a1 : Int32) (a2 : Int32) (a3 : Int32) (a4 : Int32) (a5 : Int32) (Qp : Int32 → (Int32) → (Nat → Nat → Int64) → Prop) : Prop :=
  wp_X7_isBoard a1 (fun (r_13 : Int32) => ((r_13 = 0 → wp_X7_copy_b14 Qp bFi dN) ∧
   (¬ r_13 = 0 → wp_X7_isBoard a3 (fun (r_15 : Int32) => ((¬ r_15 = 0 → vp_in a1 4 ∧ vp_in a3 4 ∧ wp_X2_isMissing (dB (Int32.toNatClampNeg a1)) (fun (r_19 : Int32) => ((¬ r_19 = 0 → wp_X7_copy_b52 Qp bFi dN) ∧
   (r_19 = 0 → wp_X2_isMissing (dB (Int32.toNatClampNeg a3)) (fun (r_21 : Int32) => ((r_21 = 0 → (((dB (Int32.toNatClampNeg a1)) = (dB (Int32.toNatClampNeg a3)) → wp_X2_has (dS (Int32.toNatClampNeg a1)) a2 a5 (fun (r_24 : Int32) => ((r_24 = 0 → wp_X7_copy_b102 Qp bFi dN) ∧
   (¬ r_24 = 0 → wp_X2_has (dS (Int32.toNatClampNeg a3)) a4 a5 (fun (r_26 : Int32) => ((¬ r_26 = 0 → ¬ (a2 : Int32) < 0 ∧ ¬ (a4 : Int32) < 0 ∧ ¬ (a5 : Int32) < 0 ∧ (Int32.toNatClampNeg a2) + (Int32.toNatClampNeg a5) ≤ 24 ∧ (Int32.toNatClampNeg a4) + (Int32.toNatClampNeg a5) ≤ 24 ∧ ∀ f_29 : Nat → Int64, f_29 = va_cpy (dN (Int32.toNatClampNeg a1)) (dN (Int32.toNatClampNeg a3)) (Int32.toNatClampNeg a2) (Int32.toNatClampNeg a4) (Int32.toNatClampNeg a5) → Qp a5 bFi (va_up dN (Int32.toNatClampNeg a3) f_29)) ∧
   (r_26 = 0 → wp_X7_copy_b102 Qp bFi dN))))))) ∧
   (¬ (dB (Int32.toNatClampNeg a1)) = (dB (Int32.toNatClampNeg a3)) → wp_X7_finding bFi (-4) (fun (r_30 : Int32) (bFi_31 : Int32) => Qp r_30 bFi_31 dN)))) ∧
   (¬ r_21 = 0 → wp_X7_copy_b52 Qp bFi dN))))))) ∧
   (r_15 = 0 → wp_X7_copy_b14 Qp bFi dN))))))
theorem inn_X7_copy_2 : ∀ w ∈ u_ws RX2 TX2 3, w ∈ wsX7_copy := fun _ h => List.mem_cons_of_mem _ (List.mem_append_right _ h)
theorem inn_X7_copy_7 : ∀ w ∈ u_ws RX7 TX7 14, w ∈ wsX7_copy := fun _ h => List.mem_cons_of_mem _ (List.mem_append_left _ (List.mem_append_right _ h))
def rm_X7_copy : Room := { frames := 1, cells := 0, slots := 0, locals := 60 }
set_option maxHeartbeats 4000000 in
set_option maxRecDepth 100000 in
theorem ct_X7_copy {l : Launch} {D : va_G} {cI cJ cZ cE cD cK : ClassId} {ad : Nat → Nat} {bd dd : Nat → Nat → Nat} {bHK : Int32} {bHP : Int32} {bPF : Int32} {bWC : Int32} {bRi : Int32} {bBe : Int32} {bFi : Int32} {bWa : Nat → Int32} {dB : Nat → Int32} {dS : Nat → Int32} {dN : Nat → Nat → Int64} {tC : Int32} {tKi : Nat → Int32} {tEa : Nat → Int32} {tHa : Nat → Int32} {tPr : Nat → Int32} {tEx : Nat → Int32} {tSt : Nat → Int32} {tTo : Nat → Int32} {tBe : Nat → Int32} {kC : Int32} {kKi : Nat → Int32} {kEa : Nat → Int32} {kHa : Nat → Int32} {kPr : Nat → Int32} {kEx : Nat → Int32} {kSt : Nat → Int32} {kTo : Nat → Int32} {kBe : Nat → Int32} {aC : Int32} {aWh : Nat → Int32} {aTa : Nat → Int32} {aWa : Nat → Int32} {iRo : Nat → Int32} {iEa : Nat → Int32} {iLa : Nat → Int32} {cC : Int32} {nC : Int32} {nFo : Int32} {nQd : Int32} {nRo : Nat → Int32} {nBe : Nat → Int32} {nEa : Nat → Int32} {nMi : Nat → Int32} {nHa : Nat → Int32} {nER : Nat → Int32} {nMR : Nat → Int32} {nTh : Nat → Int32} {nPa : Nat → Int32} {nOu : Nat → Int32} {nFr : Nat → Int32} {nQu : Nat → Int32} {eM : Nat} {eL : Nat → Int32} {eC : Nat → Int64} {eS : Nat → Int64} {eB : Nat → Nat → Int32} {eE : Nat → Nat → Int32} {eF : Nat → Nat → Int32} {eG : Nat → Nat → Int32}   {a1 : Int32} {a2 : Int32} {a3 : Int32} {a4 : Int32} {a5 : Int32} {Qp : Int32 → (Int32) → (Nat → Nat → Int64) → Prop}   (h : wp_X7_copy bFi dB dS dN a1 a2 a3 a4 a5 Qp) : CTi l yX7_copy wsX7_copy rm_X7_copy D (tyL cI cJ cZ cE cD cK) [.ref (ad 0), .int a1, .int a2, .int a3, .int a4, .int a5] (WC cI cJ cE cD ad bd dd bHK bHP bPF bWC bRi bBe bFi bWa dB dS dN tC tKi tEa tHa tPr tEx tSt tTo tBe kC kKi kEa kHa kPr kEx kSt kTo kBe aC aWh aTa aWa iRo iEa iLa cC nC nFo nQd nRo nBe nEa nMi nHa nER nMR nTh nPa nOu nFr nQu eM eL eC eS eB eE eF eG) (fun (r : Int32) (u : (Int32) × (Nat → Nat → Int64)) => Qp r u.1 u.2) (fun u : (Int32) × (Nat → Nat → Int64) => (WC cI cJ cE cD ad bd dd bHK bHP bPF bWC bRi bBe u.1 bWa dB dS u.2 tC tKi tEa tHa tPr tEx tSt tTo tBe kC kKi kEa kHa kPr kEx kSt kTo kBe aC aWh aTa aWa iRo iEa iLa cC nC nFo nQd nRo nBe nEa nMi nHa nER nMR nTh nPa nOu nFr nQu eM eL eC eS eB eE eF eG)) 0 0 := by
  refine ent_i (cc := cX7_copy) (maxL := 8) (ret := (some .int)) (by decide) rfl (Nat.le_of_ble_eq_true rfl) ?_
  intro p e s m args below meth c A Q hQ hx hb hr hml hown hts hlk hA hAB hP hD hS ls hl
  have hown : s.vm.findClass RX7 = some m.cls := hown
  have hl : lv_has ls 8 [(0, .ref (ad 0)), (1, .int a1), (2, .int a2), (3, .int a3), (4, .int a4), (5, .int a5)] := hl
  generalize hH : s.heap = H at hP ⊢
  have hS : va_S A s.heap H [] := by rw [← hH]; exact hS
  clear hH
  generalize ([] : List Loc) = locs at hS ⊢
  have B102 : ∀ (bFi_1 : Int32) (dN_2 : Nat → Nat → Int64), wp_X7_copy_b102 Qp bFi_1 dN_2 → ∀ (H : Heap) (locs : List Loc) (ls : Array Slot), va_P D vwCl (WC cI cJ cE cD ad bd dd bHK bHP bPF bWC bRi bBe bFi_1 bWa dB dS dN_2 tC tKi tEa tHa tPr tEx tSt tTo tBe kC kKi kEa kHa kPr kEx kSt kTo kBe aC aWh aTa aWa iRo iEa iLa cC nC nFo nQd nRo nBe nEa nMi nHa nER nMR nTh nPa nOu nFr nQu eM eL eC eS eB eE eF eG) H → va_D A (WC cI cJ cE cD ad bd dd bHK bHP bPF bWC bRi bBe bFi_1 bWa dB dS dN_2 tC tKi tEa tHa tPr tEx tSt tTo tBe kC kKi kEa kHa kPr kEx kSt kTo kBe aC aWh aTa aWa iRo iEa iLa cC nC nFo nQd nRo nBe nEa nMi nHa nER nMR nTh nPa nOu nFr nQu eM eL eC eS eB eE eF eG) → va_S A s.heap H locs → lv_has ls 8 [(0, .ref (ad 0))] → W p l e (headSpec wsX7_copy rm_X7_copy).room s m args below meth c H locs 0 0 Q (F0 m 102 ls []) := by
    intro bFi_1 dN_2 h H locs ls hP hD hS hl
    refine lv_aload_n hx hb dX7_copy_102 rfl (lv_at hl 0 rfl) ?_
    refine lv_iconst (v := (-1)) hx hb dX7_copy_103 (by decide) ?_
    refine cl_i hD hS hA (va_runV (As := [.int (-1)]) (rest := []) ⟨hx, hb, hml, hown, hts⟩ (ct_X7_finding h H.size) (cwV 1 hts gX7_copy_X7_finding rfl rfl rfl (by decide +kernel) ⟨Nat.le_of_ble_eq_true rfl, Nat.le_of_ble_eq_true rfl⟩) ⟨CPre.blind, va_recv hAB.1 hP (ci := 7) (q0 := 0) rfl rfl, wd_pre hAB hP hD hS hA⟩ rfl rfl hl.1 rfl (lv_room (Nat.le_of_ble_eq_true rfl)) dX7_copy_104 ⟨Nat.zero_le _, Nat.zero_le _⟩) (fun r_3 bFi_4 H locs h hP hD hS => ?_)
    have hP : va_P D vwCl (WC cI cJ cE cD ad bd dd bHK bHP bPF bWC bRi bBe bFi_4 bWa dB dS dN_2 tC tKi tEa tHa tPr tEx tSt tTo tBe kC kKi kEa kHa kPr kEx kSt kTo kBe aC aWh aTa aWa iRo iEa iLa cC nC nFo nQd nRo nBe nEa nMi nHa nER nMR nTh nPa nOu nFr nQu eM eL eC eS eB eE eF eG) H := hP
    have hD : va_D A (WC cI cJ cE cD ad bd dd bHK bHP bPF bWC bRi bBe bFi_4 bWa dB dS dN_2 tC tKi tEa tHa tPr tEx tSt tTo tBe kC kKi kEa kHa kPr kEx kSt kTo kBe aC aWh aTa aWa iRo iEa iLa cC nC nFo nQd nRo nBe nEa nMi nHa nER nMR nTh nPa nOu nFr nQu eM eL eC eS eB eE eF eG) := hD
    exact rt_i (bFi_4, dN_2) hQ hx hb hr hlk hP hD hS ⟨Nat.zero_le _, Nat.zero_le _⟩ dX7_copy_107 h
  have B52 : ∀ (bFi_5 : Int32) (dN_6 : Nat → Nat → Int64), wp_X7_copy_b52 Qp bFi_5 dN_6 → ∀ (H : Heap) (locs : List Loc) (ls : Array Slot), va_P D vwCl (WC cI cJ cE cD ad bd dd bHK bHP bPF bWC bRi bBe bFi_5 bWa dB dS dN_6 tC tKi tEa tHa tPr tEx tSt tTo tBe kC kKi kEa kHa kPr kEx kSt kTo kBe aC aWh aTa aWa iRo iEa iLa cC nC nFo nQd nRo nBe nEa nMi nHa nER nMR nTh nPa nOu nFr nQu eM eL eC eS eB eE eF eG) H → va_D A (WC cI cJ cE cD ad bd dd bHK bHP bPF bWC bRi bBe bFi_5 bWa dB dS dN_6 tC tKi tEa tHa tPr tEx tSt tTo tBe kC kKi kEa kHa kPr kEx kSt kTo kBe aC aWh aTa aWa iRo iEa iLa cC nC nFo nQd nRo nBe nEa nMi nHa nER nMR nTh nPa nOu nFr nQu eM eL eC eS eB eE eF eG) → va_S A s.heap H locs → lv_has ls 8 [(0, .ref (ad 0))] → W p l e (headSpec wsX7_copy rm_X7_copy).room s m args below meth c H locs 0 0 Q (F0 m 52 ls []) := by
    intro bFi_5 dN_6 h H locs ls hP hD hS hl
    refine lv_aload_n hx hb dX7_copy_52 rfl (lv_at hl 0 rfl) ?_
    refine lv_bipush (v := (-2)) hx hb dX7_copy_53 (by decide) ?_
    refine cl_i hD hS hA (va_runV (As := [.int (-2)]) (rest := []) ⟨hx, hb, hml, hown, hts⟩ (ct_X7_finding h H.size) (cwV 1 hts gX7_copy_X7_finding rfl rfl rfl (by decide +kernel) ⟨Nat.le_of_ble_eq_true rfl, Nat.le_of_ble_eq_true rfl⟩) ⟨CPre.blind, va_recv hAB.1 hP (ci := 7) (q0 := 0) rfl rfl, wd_pre hAB hP hD hS hA⟩ rfl rfl hl.1 rfl (lv_room (Nat.le_of_ble_eq_true rfl)) dX7_copy_55 ⟨Nat.zero_le _, Nat.zero_le _⟩) (fun r_7 bFi_8 H locs h hP hD hS => ?_)
    have hP : va_P D vwCl (WC cI cJ cE cD ad bd dd bHK bHP bPF bWC bRi bBe bFi_8 bWa dB dS dN_6 tC tKi tEa tHa tPr tEx tSt tTo tBe kC kKi kEa kHa kPr kEx kSt kTo kBe aC aWh aTa aWa iRo iEa iLa cC nC nFo nQd nRo nBe nEa nMi nHa nER nMR nTh nPa nOu nFr nQu eM eL eC eS eB eE eF eG) H := hP
    have hD : va_D A (WC cI cJ cE cD ad bd dd bHK bHP bPF bWC bRi bBe bFi_8 bWa dB dS dN_6 tC tKi tEa tHa tPr tEx tSt tTo tBe kC kKi kEa kHa kPr kEx kSt kTo kBe aC aWh aTa aWa iRo iEa iLa cC nC nFo nQd nRo nBe nEa nMi nHa nER nMR nTh nPa nOu nFr nQu eM eL eC eS eB eE eF eG) := hD
    exact rt_i (bFi_8, dN_6) hQ hx hb hr hlk hP hD hS ⟨Nat.zero_le _, Nat.zero_le _⟩ dX7_copy_58 h
  have B14 : ∀ (bFi_9 : Int32) (dN_10 : Nat → Nat → Int64), wp_X7_copy_b14 Qp bFi_9 dN_10 → ∀ (H : Heap) (locs : List Loc) (ls : Array Slot), va_P D vwCl (WC cI cJ cE cD ad bd dd bHK bHP bPF bWC bRi bBe bFi_9 bWa dB dS dN_10 tC tKi tEa tHa tPr tEx tSt tTo tBe kC kKi kEa kHa kPr kEx kSt kTo kBe aC aWh aTa aWa iRo iEa iLa cC nC nFo nQd nRo nBe nEa nMi nHa nER nMR nTh nPa nOu nFr nQu eM eL eC eS eB eE eF eG) H → va_D A (WC cI cJ cE cD ad bd dd bHK bHP bPF bWC bRi bBe bFi_9 bWa dB dS dN_10 tC tKi tEa tHa tPr tEx tSt tTo tBe kC kKi kEa kHa kPr kEx kSt kTo kBe aC aWh aTa aWa iRo iEa iLa cC nC nFo nQd nRo nBe nEa nMi nHa nER nMR nTh nPa nOu nFr nQu eM eL eC eS eB eE eF eG) → va_S A s.heap H locs → lv_has ls 8 [(0, .ref (ad 0))] → W p l e (headSpec wsX7_copy rm_X7_copy).room s m args below meth c H locs 0 0 Q (F0 m 14 ls []) := by
    intro bFi_9 dN_10 h H locs ls hP hD hS hl
    refine lv_aload_n hx hb dX7_copy_14 rfl (lv_at hl 0 rfl) ?_
    refine lv_iconst (v := (-1)) hx hb dX7_copy_15 (by decide) ?_
    refine cl_i hD hS hA (va_runV (As := [.int (-1)]) (rest := []) ⟨hx, hb, hml, hown, hts⟩ (ct_X7_finding h H.size) (cwV 1 hts gX7_copy_X7_finding rfl rfl rfl (by decide +kernel) ⟨Nat.le_of_ble_eq_true rfl, Nat.le_of_ble_eq_true rfl⟩) ⟨CPre.blind, va_recv hAB.1 hP (ci := 7) (q0 := 0) rfl rfl, wd_pre hAB hP hD hS hA⟩ rfl rfl hl.1 rfl (lv_room (Nat.le_of_ble_eq_true rfl)) dX7_copy_16 ⟨Nat.zero_le _, Nat.zero_le _⟩) (fun r_11 bFi_12 H locs h hP hD hS => ?_)
    have hP : va_P D vwCl (WC cI cJ cE cD ad bd dd bHK bHP bPF bWC bRi bBe bFi_12 bWa dB dS dN_10 tC tKi tEa tHa tPr tEx tSt tTo tBe kC kKi kEa kHa kPr kEx kSt kTo kBe aC aWh aTa aWa iRo iEa iLa cC nC nFo nQd nRo nBe nEa nMi nHa nER nMR nTh nPa nOu nFr nQu eM eL eC eS eB eE eF eG) H := hP
    have hD : va_D A (WC cI cJ cE cD ad bd dd bHK bHP bPF bWC bRi bBe bFi_12 bWa dB dS dN_10 tC tKi tEa tHa tPr tEx tSt tTo tBe kC kKi kEa kHa kPr kEx kSt kTo kBe aC aWh aTa aWa iRo iEa iLa cC nC nFo nQd nRo nBe nEa nMi nHa nER nMR nTh nPa nOu nFr nQu eM eL eC eS eB eE eF eG) := hD
    exact rt_i (bFi_12, dN_10) hQ hx hb hr hlk hP hD hS ⟨Nat.zero_le _, Nat.zero_le _⟩ dX7_copy_19 h
  refine lv_iload_n hx hb dX7_copy_0 rfl (lv_at hl 1 rfl) ?_
  refine cl_i hD hS hA (va_runS (As := [.int a1]) (rest := []) ⟨hx, hb, hml, hown, hts⟩ (ct_X7_isBoard h H.size) (va_cwS 1 hts gX7_copy_X7_isBoard rfl rfl rfl (by decide +kernel) ⟨Nat.le_of_ble_eq_true rfl, Nat.le_of_ble_eq_true rfl⟩) ⟨CPre.blind, wd_pre hAB hP hD hS hA⟩ rfl rfl hl.1 rfl (lv_room (Nat.le_of_ble_eq_true rfl)) dX7_copy_1 ⟨Nat.zero_le _, Nat.zero_le _⟩) (fun r_13 u H locs h hP hD hS => ?_)
  refine lv_if_eq (tgt := 14) hx hb dX7_copy_4 (by decide) (fun c_14 => ?_) (fun c_14 => ?_)
  · have h := h.1 c_14
    exact B14 bFi dN h H locs ls hP hD hS (lv_sub hl [0] rfl)
  · have h := h.2 c_14
    refine lv_iload_n hx hb dX7_copy_7 rfl (lv_at hl 3 rfl) ?_
    refine cl_i hD hS hA (va_runS (As := [.int a3]) (rest := []) ⟨hx, hb, hml, hown, hts⟩ (ct_X7_isBoard h H.size) (va_cwS 1 hts gX7_copy_X7_isBoard rfl rfl rfl (by decide +kernel) ⟨Nat.le_of_ble_eq_true rfl, Nat.le_of_ble_eq_true rfl⟩) ⟨CPre.blind, wd_pre hAB hP hD hS hA⟩ rfl rfl hl.1 rfl (lv_room (Nat.le_of_ble_eq_true rfl)) dX7_copy_8 ⟨Nat.zero_le _, Nat.zero_le _⟩) (fun r_15 u H locs h hP hD hS => ?_)
    refine lv_if_ne (tgt := 20) hx hb dX7_copy_11 (by decide) (fun c_16 => ?_) (fun c_16 => ?_)
    · have h := h.1 c_16
      refine lv_aload_n hx hb dX7_copy_20 rfl (lv_at hl 0 rfl) ?_
      refine va_get (D := D) (ci := 7) (C := RX7) (T := TX7) (N := 14) hx hb hts inn_X7_copy_7 hown hAB.1 hP 0 rfl rfl 0 (by decide) (hts (.fieldLink RX7 11 "BarnBench" "boards" "[LBarnBench$Board;") (by decide +kernel)) (fun _ h9 => h9) rfl dX7_copy_21 ?_
      refine lv_iload_n hx hb dX7_copy_24 rfl (lv_at hl 1 rfl) ?_
      have hi_17 := vp_lt h.1
      refine va_aldq hx hb hAB.1 hP 1 4 rfl rfl h.1 dX7_copy_25 ?_
      have h := h.2
      rw [if_pos hi_17]
      show W _ _ _ _ _ _ _ _ _ _ _ _ _ _ _ (F0 _ _ _ (.ref (dd (Int32.toNatClampNeg a1) 0) :: _))
      refine lv_astore (lv' := [(6, .ref (dd (Int32.toNatClampNeg a1) 0)), (0, .ref (ad 0)), (1, .int a1), (2, .int a2), (3, .int a3), (4, .int a4), (5, .int a5)]) hx hb dX7_copy_26 hl (by decide) rfl (fun ls hl => ?_)
      refine lv_aload_n hx hb dX7_copy_28 rfl (lv_at hl 1 rfl) ?_
      refine va_get (D := D) (ci := 7) (C := RX7) (T := TX7) (N := 14) hx hb hts inn_X7_copy_7 hown hAB.1 hP 0 rfl rfl 0 (by decide) (hts (.fieldLink RX7 11 "BarnBench" "boards" "[LBarnBench$Board;") (by decide +kernel)) (fun _ h9 => h9) rfl dX7_copy_29 ?_
      refine lv_iload_n hx hb dX7_copy_32 rfl (lv_at hl 4 rfl) ?_
      have hi_18 := vp_lt h.1
      refine va_aldq hx hb hAB.1 hP 1 4 rfl rfl h.1 dX7_copy_33 ?_
      have h := h.2
      rw [if_pos hi_18]
      show W _ _ _ _ _ _ _ _ _ _ _ _ _ _ _ (F0 _ _ _ (.ref (dd (Int32.toNatClampNeg a3) 0) :: _))
      refine lv_astore (lv' := [(7, .ref (dd (Int32.toNatClampNeg a3) 0)), (6, .ref (dd (Int32.toNatClampNeg a1) 0)), (0, .ref (ad 0)), (1, .int a1), (2, .int a2), (3, .int a3), (4, .int a4), (5, .int a5)]) hx hb dX7_copy_34 hl (by decide) rfl (fun ls hl => ?_)
      refine lv_aload hx hb dX7_copy_36 (lv_at hl 1 rfl) ?_
      refine cl_i hD hS hA (va_runV (As := []) (rest := []) ⟨hx, hb, hml, hown, hts⟩ (ct_X2_isMissing hi_17 rfl h H.size) (cwV 0 hts gX7_copy_X2_isMissing rfl rfl rfl (by decide +kernel) ⟨Nat.le_of_ble_eq_true rfl, Nat.le_of_ble_eq_true rfl⟩) ⟨CPre.blind, va_recv hAB.1 hP (ci := 2) (q0 := (2 + ((Int32.toNatClampNeg a1) * 2 + 0))) rfl (gD_0 hi_17), wd_pre hAB hP hD hS hA⟩ rfl rfl hl.1 rfl (lv_room (Nat.le_of_ble_eq_true rfl)) dX7_copy_38 ⟨Nat.zero_le _, Nat.zero_le _⟩) (fun r_19 u H locs h hP hD hS => ?_)
      refine lv_if_ne (tgt := 52) hx hb dX7_copy_41 (by decide) (fun c_20 => ?_) (fun c_20 => ?_)
      · have h := h.1 c_20
        exact B52 bFi dN h H locs ls hP hD hS (lv_sub hl [2] rfl)
      · have h := h.2 c_20
        refine lv_aload hx hb dX7_copy_44 (lv_at hl 0 rfl) ?_
        refine cl_i hD hS hA (va_runV (As := []) (rest := []) ⟨hx, hb, hml, hown, hts⟩ (ct_X2_isMissing hi_18 rfl h H.size) (cwV 0 hts gX7_copy_X2_isMissing rfl rfl rfl (by decide +kernel) ⟨Nat.le_of_ble_eq_true rfl, Nat.le_of_ble_eq_true rfl⟩) ⟨CPre.blind, va_recv hAB.1 hP (ci := 2) (q0 := (2 + ((Int32.toNatClampNeg a3) * 2 + 0))) rfl (gD_0 hi_18), wd_pre hAB hP hD hS hA⟩ rfl rfl hl.1 rfl (lv_room (Nat.le_of_ble_eq_true rfl)) dX7_copy_46 ⟨Nat.zero_le _, Nat.zero_le _⟩) (fun r_21 u H locs h hP hD hS => ?_)
        refine lv_if_eq (tgt := 59) hx hb dX7_copy_49 (by decide) (fun c_22 => ?_) (fun c_22 => ?_)
        · have h := h.1 c_22
          refine lv_aload hx hb dX7_copy_59 (lv_at hl 1 rfl) ?_
          refine va_get (D := D) (ci := 2) (C := RX2) (T := TX2) (N := 3) hx hb hts inn_X7_copy_2 hown hAB.1 hP (2 + ((Int32.toNatClampNeg a1) * 2 + 0)) (gD_0 hi_17) rfl 0 (by decide) (hts (.fieldLink RX7 82 "BarnBench$Board" "bits" "I") (by decide +kernel)) (fun _ h9 => h9) rfl dX7_copy_61 ?_
          refine lv_aload hx hb dX7_copy_64 (lv_at hl 0 rfl) ?_
          refine va_get (D := D) (ci := 2) (C := RX2) (T := TX2) (N := 3) hx hb hts inn_X7_copy_2 hown hAB.1 hP (2 + ((Int32.toNatClampNeg a3) * 2 + 0)) (gD_0 hi_18) rfl 0 (by decide) (hts (.fieldLink RX7 82 "BarnBench$Board" "bits" "I") (by decide +kernel)) (fun _ h9 => h9) rfl dX7_copy_66 ?_
          refine lv_icmp_eq (tgt := 79) hx hb dX7_copy_69 (by decide) (fun c_23 => ?_) (fun c_23 => ?_)
          · have h := h.1 c_23
            refine lv_aload hx hb dX7_copy_79 (lv_at hl 1 rfl) ?_
            refine lv_iload_n hx hb dX7_copy_81 rfl (lv_at hl 4 rfl) ?_
            refine lv_iload hx hb dX7_copy_82 (lv_at hl 7 rfl) ?_
            refine cl_i hD hS hA (va_runV (As := [.int a2, .int a5]) (rest := []) ⟨hx, hb, hml, hown, hts⟩ (ct_X2_has hi_17 rfl h H.size) (cwV 2 hts gX7_copy_X2_has rfl rfl rfl (by decide +kernel) ⟨Nat.le_of_ble_eq_true rfl, Nat.le_of_ble_eq_true rfl⟩) ⟨CPre.blind, va_recv hAB.1 hP (ci := 2) (q0 := (2 + ((Int32.toNatClampNeg a1) * 2 + 0))) rfl (gD_0 hi_17), wd_pre hAB hP hD hS hA⟩ rfl rfl hl.1 rfl (lv_room (Nat.le_of_ble_eq_true rfl)) dX7_copy_84 ⟨Nat.zero_le _, Nat.zero_le _⟩) (fun r_24 u H locs h hP hD hS => ?_)
            refine lv_if_eq (tgt := 102) hx hb dX7_copy_87 (by decide) (fun c_25 => ?_) (fun c_25 => ?_)
            · have h := h.1 c_25
              exact B102 bFi dN h H locs ls hP hD hS (lv_sub hl [2] rfl)
            · have h := h.2 c_25
              refine lv_aload hx hb dX7_copy_90 (lv_at hl 0 rfl) ?_
              refine lv_iload hx hb dX7_copy_92 (lv_at hl 6 rfl) ?_
              refine lv_iload hx hb dX7_copy_94 (lv_at hl 7 rfl) ?_
              refine cl_i hD hS hA (va_runV (As := [.int a4, .int a5]) (rest := []) ⟨hx, hb, hml, hown, hts⟩ (ct_X2_has hi_18 rfl h H.size) (cwV 2 hts gX7_copy_X2_has rfl rfl rfl (by decide +kernel) ⟨Nat.le_of_ble_eq_true rfl, Nat.le_of_ble_eq_true rfl⟩) ⟨CPre.blind, va_recv hAB.1 hP (ci := 2) (q0 := (2 + ((Int32.toNatClampNeg a3) * 2 + 0))) rfl (gD_0 hi_18), wd_pre hAB hP hD hS hA⟩ rfl rfl hl.1 rfl (lv_room (Nat.le_of_ble_eq_true rfl)) dX7_copy_96 ⟨Nat.zero_le _, Nat.zero_le _⟩) (fun r_26 u H locs h hP hD hS => ?_)
              refine lv_if_ne (tgt := 108) hx hb dX7_copy_99 (by decide) (fun c_27 => ?_) (fun c_27 => ?_)
              · have h := h.1 c_27
                refine lv_aload hx hb dX7_copy_108 (lv_at hl 1 rfl) ?_
                refine va_get (D := D) (ci := 2) (C := RX2) (T := TX2) (N := 3) hx hb hts inn_X7_copy_2 hown hAB.1 hP (2 + ((Int32.toNatClampNeg a1) * 2 + 0)) (gD_0 hi_17) rfl 2 (by decide) (hts (.fieldLink RX7 85 "BarnBench$Board" "numbers" "[J") (by decide +kernel)) (fun _ h9 => h9) rfl dX7_copy_110 ?_
                refine lv_iload_n hx hb dX7_copy_113 rfl (lv_at hl 4 rfl) ?_
                refine lv_aload hx hb dX7_copy_114 (lv_at hl 0 rfl) ?_
                refine va_get (D := D) (ci := 2) (C := RX2) (T := TX2) (N := 3) hx hb hts inn_X7_copy_2 hown hAB.1 hP (2 + ((Int32.toNatClampNeg a3) * 2 + 0)) (gD_0 hi_18) rfl 2 (by decide) (hts (.fieldLink RX7 85 "BarnBench$Board" "numbers" "[J") (by decide +kernel)) (fun _ h9 => h9) rfl dX7_copy_116 ?_
                refine lv_iload hx hb dX7_copy_119 (lv_at hl 6 rfl) ?_
                refine lv_iload hx hb dX7_copy_121 (lv_at hl 7 rfl) ?_
                refine va_copyl (rest := []) hx hb (by rw [hml]; exact hl.1.symm) hown (hts (.methodLink RX7 89 arraycopyName) (by decide +kernel)) (hts (.native arraycopyName) (by decide +kernel)) (hts (.static arraycopyName) (by decide +kernel)) (hts (.initialized "java/lang/System") (by decide +kernel)) hAB.1 hP hD hS (2 + ((Int32.toNatClampNeg a1) * 2 + 1)) (2 + ((Int32.toNatClampNeg a3) * 2 + 1)) 1 1 (gD_1 hi_17) (gD_1 hi_18) rfl rfl rfl h.1 h.2.1 h.2.2.1 h.2.2.2.1 h.2.2.2.2.1 (fun _ _ => rfl) (Nat.le_of_ble_eq_true rfl) (Nat.le_of_ble_eq_true rfl) dX7_copy_123 (fun H locs hP hD hS => ?_)
                have h := h.2.2.2.2.2
                obtain ⟨f_29, e_28⟩ : ∃ z, z = va_cpy (dN (Int32.toNatClampNeg a1)) (dN (Int32.toNatClampNeg a3)) (Int32.toNatClampNeg a2) (Int32.toNatClampNeg a4) (Int32.toNatClampNeg a5) := ⟨_, rfl⟩
                have hP : va_P D vwCl (WC cI cJ cE cD ad bd dd bHK bHP bPF bWC bRi bBe bFi bWa dB dS (va_up dN (Int32.toNatClampNeg a3) f_29) tC tKi tEa tHa tPr tEx tSt tTo tBe kC kKi kEa kHa kPr kEx kSt kTo kBe aC aWh aTa aWa iRo iEa iLa cC nC nFo nQd nRo nBe nEa nMi nHa nER nMR nTh nPa nOu nFr nQu eM eL eC eS eB eE eF eG) H := by rw [e_28]; rw [tD_1 hi_18] at hP; exact hP
                have hD : va_D A (WC cI cJ cE cD ad bd dd bHK bHP bPF bWC bRi bBe bFi bWa dB dS (va_up dN (Int32.toNatClampNeg a3) f_29) tC tKi tEa tHa tPr tEx tSt tTo tBe kC kKi kEa kHa kPr kEx kSt kTo kBe aC aWh aTa aWa iRo iEa iLa cC nC nFo nQd nRo nBe nEa nMi nHa nER nMR nTh nPa nOu nFr nQu eM eL eC eS eB eE eF eG) := by rw [e_28]; rw [tD_1 hi_18] at hD; exact hD
                have h := h f_29 e_28
                refine lv_iload hx hb dX7_copy_126 (lv_at hl 7 rfl) ?_
                exact rt_i (bFi, (va_up dN (Int32.toNatClampNeg a3) f_29)) hQ hx hb hr hlk hP hD hS ⟨Nat.zero_le _, Nat.zero_le _⟩ dX7_copy_128 h
              · have h := h.2 c_27
                exact B102 bFi dN h H locs ls hP hD hS (lv_sub hl [2] rfl)
          · have h := h.2 c_23
            refine lv_aload_n hx hb dX7_copy_72 rfl (lv_at hl 2 rfl) ?_
            refine lv_bipush (v := (-4)) hx hb dX7_copy_73 (by decide) ?_
            refine cl_i hD hS hA (va_runV (As := [.int (-4)]) (rest := []) ⟨hx, hb, hml, hown, hts⟩ (ct_X7_finding h H.size) (cwV 1 hts gX7_copy_X7_finding rfl rfl rfl (by decide +kernel) ⟨Nat.le_of_ble_eq_true rfl, Nat.le_of_ble_eq_true rfl⟩) ⟨CPre.blind, va_recv hAB.1 hP (ci := 7) (q0 := 0) rfl rfl, wd_pre hAB hP hD hS hA⟩ rfl rfl hl.1 rfl (lv_room (Nat.le_of_ble_eq_true rfl)) dX7_copy_75 ⟨Nat.zero_le _, Nat.zero_le _⟩) (fun r_30 bFi_31 H locs h hP hD hS => ?_)
            have hP : va_P D vwCl (WC cI cJ cE cD ad bd dd bHK bHP bPF bWC bRi bBe bFi_31 bWa dB dS dN tC tKi tEa tHa tPr tEx tSt tTo tBe kC kKi kEa kHa kPr kEx kSt kTo kBe aC aWh aTa aWa iRo iEa iLa cC nC nFo nQd nRo nBe nEa nMi nHa nER nMR nTh nPa nOu nFr nQu eM eL eC eS eB eE eF eG) H := hP
            have hD : va_D A (WC cI cJ cE cD ad bd dd bHK bHP bPF bWC bRi bBe bFi_31 bWa dB dS dN tC tKi tEa tHa tPr tEx tSt tTo tBe kC kKi kEa kHa kPr kEx kSt kTo kBe aC aWh aTa aWa iRo iEa iLa cC nC nFo nQd nRo nBe nEa nMi nHa nER nMR nTh nPa nOu nFr nQu eM eL eC eS eB eE eF eG) := hD
            exact rt_i (bFi_31, dN) hQ hx hb hr hlk hP hD hS ⟨Nat.zero_le _, Nat.zero_le _⟩ dX7_copy_78 h
        · have h := h.2 c_22
          exact B52 bFi dN h H locs ls hP hD hS (lv_sub hl [2] rfl)
    · have h := h.2 c_16
      exact B14 bFi dN h H locs ls hP hD hS (lv_sub hl [0] rfl)
def wp_X7_task_b14 (Qp : Int32 → (Int32) → (Int32) → (Int32) → (Nat → Int32) → (Nat → Int32) → (Nat → Int32) → (Nat → Int32) → (Nat → Int32) → (Nat → Int32) → (Nat → Int32) → (Nat → Int32) → (Int32) → (Nat → Int32) → (Nat → Int32) → (Nat → Int32) → (Int32) → Prop) (bHP_1 : Int32) (bFi_2 : Int32) (tC_3 : Int32) (tKi_4 : Nat → Int32) (tEa_5 : Nat → Int32) (tHa_6 : Nat → Int32) (tPr_7 : Nat → Int32) (tEx_8 : Nat → Int32) (tSt_9 : Nat → Int32) (tTo_10 : Nat → Int32) (tBe_11 : Nat → Int32) (aC_12 : Int32) (aWh_13 : Nat → Int32) (aTa_14 : Nat → Int32) (aWa_15 : Nat → Int32) (cC_16 : Int32) : Prop :=
  wp_X7_finding bFi_2 (-1) (fun (r_17 : Int32) (bFi_18 : Int32) => Qp r_17 bHP_1 bFi_18 tC_3 tKi_4 tEa_5 tHa_6 tPr_7 tEx_8 tSt_9 tTo_10 tBe_11 aC_12 aWh_13 aTa_14 aWa_15 cC_16)
def wp_X7_task (bHP : Int32) (bFi : Int32) (dB : Nat → Int32) (dS : Nat → Int32) (dN : Nat → Nat → Int64) (tC : Int32) (tKi : Nat → Int32) (tEa : Nat → Int32) (tHa : Nat → Int32) (tPr : Nat → Int32) (tEx : Nat → Int32) (tSt : Nat → Int32) (tTo : Nat → Int32) (tBe : Nat → Int32) (aC : Int32) (aWh : Nat → Int32) (aTa : Nat → Int32) (aWa : Nat → Int32) (cC : Int32) (a1 : Int32) (a2 : Int32) (a3 : Int32) (Qp : Int32 → (Int32) → (Int32) → (Int32) → (Nat → Int32) → (Nat → Int32) → (Nat → Int32) → (Nat → Int32) → (Nat → Int32) → (Nat → Int32) → (Nat → Int32) → (Nat → Int32) → (Int32) → (Nat → Int32) → (Nat → Int32) → (Nat → Int32) → (Int32) → Prop) : Prop :=
  wp_X7_isKind a1 (fun (r_19 : Int32) => ((r_19 = 0 → wp_X7_task_b14 Qp bHP bFi tC tKi tEa tHa tPr tEx tSt tTo tBe aC aWh aTa aWa cC) ∧
   (¬ r_19 = 0 → wp_X7_isBoard a2 (fun (r_21 : Int32) => ((¬ r_21 = 0 → vp_in a2 4 ∧ wp_X2_isMissing (dB (Int32.toNatClampNeg a2)) (fun (r_24 : Int32) => ((r_24 = 0 → vp_in a1 5 ∧ wp_X2_has (dS (Int32.toNatClampNeg a2)) a3 (am_taken (Int32.toNatClampNeg a1)) (fun (r_29 : Int32) => ((¬ r_29 = 0 → wp_X2_holdsTask (dN (Int32.toNatClampNeg a2)) a1 a3 (fun (r_31 : Int32) => ((¬ r_31 = 0 → ((tC < 12 → wp_X5_add (dN (Int32.toNatClampNeg a2)) tC tKi tEa tHa tPr tEx tSt tTo tBe a1 a3 (fun (r_34 : Int32) (tC_35 : Int32) (tKi_36 : Nat → Int32) (tEa_37 : Nat → Int32) (tHa_38 : Nat → Int32) (tPr_39 : Nat → Int32) (tEx_40 : Nat → Int32) (tSt_41 : Nat → Int32) (tTo_42 : Nat → Int32) (tBe_43 : Nat → Int32) => wp_X0_add aC aWh aTa aWa 0 r_34 0 (fun (aC_44 : Int32) (aWh_45 : Nat → Int32) (aTa_46 : Nat → Int32) (aWa_47 : Nat → Int32) => wp_X7_forgetPlans bHP cC (fun (bHP_48 : Int32) (cC_49 : Int32) => Qp r_34 bHP_48 bFi tC_35 tKi_36 tEa_37 tHa_38 tPr_39 tEx_40 tSt_41 tTo_42 tBe_43 aC_44 aWh_45 aTa_46 aWa_47 cC_49)))) ∧
   (¬ tC < 12 → wp_X7_finding bFi (-5) (fun (r_50 : Int32) (bFi_51 : Int32) => Qp r_50 bHP bFi_51 tC tKi tEa tHa tPr tEx tSt tTo tBe aC aWh aTa aWa cC)))) ∧
   (r_31 = 0 → wp_X7_finding bFi (-3) (fun (r_52 : Int32) (bFi_53 : Int32) => Qp r_52 bHP bFi_53 tC tKi tEa tHa tPr tEx tSt tTo tBe aC aWh aTa aWa cC))))) ∧
   (r_29 = 0 → wp_X7_finding bFi (-1) (fun (r_54 : Int32) (bFi_55 : Int32) => Qp r_54 bHP bFi_55 tC tKi tEa tHa tPr tEx tSt tTo tBe aC aWh aTa aWa cC))))) ∧
   (¬ r_24 = 0 → wp_X7_finding bFi (-2) (fun (r_56 : Int32) (bFi_57 : Int32) => Qp r_56 bHP bFi_57 tC tKi tEa tHa tPr tEx tSt tTo tBe aC aWh aTa aWa cC))))) ∧
   (r_21 = 0 → wp_X7_task_b14 Qp bHP bFi tC tKi tEa tHa tPr tEx tSt tTo tBe aC aWh aTa aWa cC))))))
theorem inn_X7_task_5 : ∀ w ∈ u_ws RX5 TX5 9, w ∈ wsX7_task := fun _ h => List.mem_cons_of_mem _ (List.mem_append_left _ (List.mem_append_left _ (List.mem_append_left _ (List.mem_append_right _ h))))
theorem inn_X7_task_7 : ∀ w ∈ u_ws RX7 TX7 14, w ∈ wsX7_task := fun _ h => List.mem_cons_of_mem _ (List.mem_append_left _ (List.mem_append_left _ (List.mem_append_left _ (List.mem_append_left _ (List.mem_append_right _ h)))))
def rm_X7_task : Room := { frames := 2, cells := 0, slots := 0, locals := 83 }
set_option maxHeartbeats 4000000 in
set_option maxRecDepth 100000 in
theorem ct_X7_task {l : Launch} {D : va_G} {cI cJ cZ cE cD cK : ClassId} {ad : Nat → Nat} {bd dd : Nat → Nat → Nat} {bHK : Int32} {bHP : Int32} {bPF : Int32} {bWC : Int32} {bRi : Int32} {bBe : Int32} {bFi : Int32} {bWa : Nat → Int32} {dB : Nat → Int32} {dS : Nat → Int32} {dN : Nat → Nat → Int64} {tC : Int32} {tKi : Nat → Int32} {tEa : Nat → Int32} {tHa : Nat → Int32} {tPr : Nat → Int32} {tEx : Nat → Int32} {tSt : Nat → Int32} {tTo : Nat → Int32} {tBe : Nat → Int32} {kC : Int32} {kKi : Nat → Int32} {kEa : Nat → Int32} {kHa : Nat → Int32} {kPr : Nat → Int32} {kEx : Nat → Int32} {kSt : Nat → Int32} {kTo : Nat → Int32} {kBe : Nat → Int32} {aC : Int32} {aWh : Nat → Int32} {aTa : Nat → Int32} {aWa : Nat → Int32} {iRo : Nat → Int32} {iEa : Nat → Int32} {iLa : Nat → Int32} {cC : Int32} {nC : Int32} {nFo : Int32} {nQd : Int32} {nRo : Nat → Int32} {nBe : Nat → Int32} {nEa : Nat → Int32} {nMi : Nat → Int32} {nHa : Nat → Int32} {nER : Nat → Int32} {nMR : Nat → Int32} {nTh : Nat → Int32} {nPa : Nat → Int32} {nOu : Nat → Int32} {nFr : Nat → Int32} {nQu : Nat → Int32} {eM : Nat} {eL : Nat → Int32} {eC : Nat → Int64} {eS : Nat → Int64} {eB : Nat → Nat → Int32} {eE : Nat → Nat → Int32} {eF : Nat → Nat → Int32} {eG : Nat → Nat → Int32}   {a1 : Int32} {a2 : Int32} {a3 : Int32} {Qp : Int32 → (Int32) → (Int32) → (Int32) → (Nat → Int32) → (Nat → Int32) → (Nat → Int32) → (Nat → Int32) → (Nat → Int32) → (Nat → Int32) → (Nat → Int32) → (Nat → Int32) → (Int32) → (Nat → Int32) → (Nat → Int32) → (Nat → Int32) → (Int32) → Prop}   (h : wp_X7_task bHP bFi dB dS dN tC tKi tEa tHa tPr tEx tSt tTo tBe aC aWh aTa aWa cC a1 a2 a3 Qp) : CTi l yX7_task wsX7_task rm_X7_task D (tyL cI cJ cZ cE cD cK) [.ref (ad 0), .int a1, .int a2, .int a3] (WC cI cJ cE cD ad bd dd bHK bHP bPF bWC bRi bBe bFi bWa dB dS dN tC tKi tEa tHa tPr tEx tSt tTo tBe kC kKi kEa kHa kPr kEx kSt kTo kBe aC aWh aTa aWa iRo iEa iLa cC nC nFo nQd nRo nBe nEa nMi nHa nER nMR nTh nPa nOu nFr nQu eM eL eC eS eB eE eF eG) (fun (r : Int32) (u : (Int32) × (Int32) × (Int32) × (Nat → Int32) × (Nat → Int32) × (Nat → Int32) × (Nat → Int32) × (Nat → Int32) × (Nat → Int32) × (Nat → Int32) × (Nat → Int32) × (Int32) × (Nat → Int32) × (Nat → Int32) × (Nat → Int32) × (Int32)) => Qp r u.1 u.2.1 u.2.2.1 u.2.2.2.1 u.2.2.2.2.1 u.2.2.2.2.2.1 u.2.2.2.2.2.2.1 u.2.2.2.2.2.2.2.1 u.2.2.2.2.2.2.2.2.1 u.2.2.2.2.2.2.2.2.2.1 u.2.2.2.2.2.2.2.2.2.2.1 u.2.2.2.2.2.2.2.2.2.2.2.1 u.2.2.2.2.2.2.2.2.2.2.2.2.1 u.2.2.2.2.2.2.2.2.2.2.2.2.2.1 u.2.2.2.2.2.2.2.2.2.2.2.2.2.2.1 u.2.2.2.2.2.2.2.2.2.2.2.2.2.2.2) (fun u : (Int32) × (Int32) × (Int32) × (Nat → Int32) × (Nat → Int32) × (Nat → Int32) × (Nat → Int32) × (Nat → Int32) × (Nat → Int32) × (Nat → Int32) × (Nat → Int32) × (Int32) × (Nat → Int32) × (Nat → Int32) × (Nat → Int32) × (Int32) => (WC cI cJ cE cD ad bd dd bHK u.1 bPF bWC bRi bBe u.2.1 bWa dB dS dN u.2.2.1 u.2.2.2.1 u.2.2.2.2.1 u.2.2.2.2.2.1 u.2.2.2.2.2.2.1 u.2.2.2.2.2.2.2.1 u.2.2.2.2.2.2.2.2.1 u.2.2.2.2.2.2.2.2.2.1 u.2.2.2.2.2.2.2.2.2.2.1 kC kKi kEa kHa kPr kEx kSt kTo kBe u.2.2.2.2.2.2.2.2.2.2.2.1 u.2.2.2.2.2.2.2.2.2.2.2.2.1 u.2.2.2.2.2.2.2.2.2.2.2.2.2.1 u.2.2.2.2.2.2.2.2.2.2.2.2.2.2.1 iRo iEa iLa u.2.2.2.2.2.2.2.2.2.2.2.2.2.2.2 nC nFo nQd nRo nBe nEa nMi nHa nER nMR nTh nPa nOu nFr nQu eM eL eC eS eB eE eF eG)) 0 0 := by
  refine ent_i (cc := cX7_task) (maxL := 6) (ret := (some .int)) (by decide) rfl (Nat.le_of_ble_eq_true rfl) ?_
  intro p e s m args below meth c A Q hQ hx hb hr hml hown hts hlk hA hAB hP hD hS ls hl
  have hown : s.vm.findClass RX7 = some m.cls := hown
  have hl : lv_has ls 6 [(0, .ref (ad 0)), (1, .int a1), (2, .int a2), (3, .int a3)] := hl
  generalize hH : s.heap = H at hP ⊢
  have hS : va_S A s.heap H [] := by rw [← hH]; exact hS
  clear hH
  generalize ([] : List Loc) = locs at hS ⊢
  have B14 : ∀ (bHP_1 : Int32) (bFi_2 : Int32) (tC_3 : Int32) (tKi_4 : Nat → Int32) (tEa_5 : Nat → Int32) (tHa_6 : Nat → Int32) (tPr_7 : Nat → Int32) (tEx_8 : Nat → Int32) (tSt_9 : Nat → Int32) (tTo_10 : Nat → Int32) (tBe_11 : Nat → Int32) (aC_12 : Int32) (aWh_13 : Nat → Int32) (aTa_14 : Nat → Int32) (aWa_15 : Nat → Int32) (cC_16 : Int32), wp_X7_task_b14 Qp bHP_1 bFi_2 tC_3 tKi_4 tEa_5 tHa_6 tPr_7 tEx_8 tSt_9 tTo_10 tBe_11 aC_12 aWh_13 aTa_14 aWa_15 cC_16 → ∀ (H : Heap) (locs : List Loc) (ls : Array Slot), va_P D vwCl (WC cI cJ cE cD ad bd dd bHK bHP_1 bPF bWC bRi bBe bFi_2 bWa dB dS dN tC_3 tKi_4 tEa_5 tHa_6 tPr_7 tEx_8 tSt_9 tTo_10 tBe_11 kC kKi kEa kHa kPr kEx kSt kTo kBe aC_12 aWh_13 aTa_14 aWa_15 iRo iEa iLa cC_16 nC nFo nQd nRo nBe nEa nMi nHa nER nMR nTh nPa nOu nFr nQu eM eL eC eS eB eE eF eG) H → va_D A (WC cI cJ cE cD ad bd dd bHK bHP_1 bPF bWC bRi bBe bFi_2 bWa dB dS dN tC_3 tKi_4 tEa_5 tHa_6 tPr_7 tEx_8 tSt_9 tTo_10 tBe_11 kC kKi kEa kHa kPr kEx kSt kTo kBe aC_12 aWh_13 aTa_14 aWa_15 iRo iEa iLa cC_16 nC nFo nQd nRo nBe nEa nMi nHa nER nMR nTh nPa nOu nFr nQu eM eL eC eS eB eE eF eG) → va_S A s.heap H locs → lv_has ls 6 [(0, .ref (ad 0))] → W p l e (headSpec wsX7_task rm_X7_task).room s m args below meth c H locs 0 0 Q (F0 m 14 ls []) := by
    intro bHP_1 bFi_2 tC_3 tKi_4 tEa_5 tHa_6 tPr_7 tEx_8 tSt_9 tTo_10 tBe_11 aC_12 aWh_13 aTa_14 aWa_15 cC_16 h H locs ls hP hD hS hl
    refine lv_aload_n hx hb dX7_task_14 rfl (lv_at hl 0 rfl) ?_
    refine lv_iconst (v := (-1)) hx hb dX7_task_15 (by decide) ?_
    refine cl_i hD hS hA (va_runV (As := [.int (-1)]) (rest := []) ⟨hx, hb, hml, hown, hts⟩ (ct_X7_finding h H.size) (cwV 1 hts gX7_task_X7_finding rfl rfl rfl (by decide +kernel) ⟨Nat.le_of_ble_eq_true rfl, Nat.le_of_ble_eq_true rfl⟩) ⟨CPre.blind, va_recv hAB.1 hP (ci := 7) (q0 := 0) rfl rfl, wd_pre hAB hP hD hS hA⟩ rfl rfl hl.1 rfl (lv_room (Nat.le_of_ble_eq_true rfl)) dX7_task_16 ⟨Nat.zero_le _, Nat.zero_le _⟩) (fun r_17 bFi_18 H locs h hP hD hS => ?_)
    have hP : va_P D vwCl (WC cI cJ cE cD ad bd dd bHK bHP_1 bPF bWC bRi bBe bFi_18 bWa dB dS dN tC_3 tKi_4 tEa_5 tHa_6 tPr_7 tEx_8 tSt_9 tTo_10 tBe_11 kC kKi kEa kHa kPr kEx kSt kTo kBe aC_12 aWh_13 aTa_14 aWa_15 iRo iEa iLa cC_16 nC nFo nQd nRo nBe nEa nMi nHa nER nMR nTh nPa nOu nFr nQu eM eL eC eS eB eE eF eG) H := hP
    have hD : va_D A (WC cI cJ cE cD ad bd dd bHK bHP_1 bPF bWC bRi bBe bFi_18 bWa dB dS dN tC_3 tKi_4 tEa_5 tHa_6 tPr_7 tEx_8 tSt_9 tTo_10 tBe_11 kC kKi kEa kHa kPr kEx kSt kTo kBe aC_12 aWh_13 aTa_14 aWa_15 iRo iEa iLa cC_16 nC nFo nQd nRo nBe nEa nMi nHa nER nMR nTh nPa nOu nFr nQu eM eL eC eS eB eE eF eG) := hD
    exact rt_i (bHP_1, bFi_18, tC_3, tKi_4, tEa_5, tHa_6, tPr_7, tEx_8, tSt_9, tTo_10, tBe_11, aC_12, aWh_13, aTa_14, aWa_15, cC_16) hQ hx hb hr hlk hP hD hS ⟨Nat.zero_le _, Nat.zero_le _⟩ dX7_task_19 h
  refine lv_iload_n hx hb dX7_task_0 rfl (lv_at hl 1 rfl) ?_
  refine cl_i hD hS hA (va_runS (As := [.int a1]) (rest := []) ⟨hx, hb, hml, hown, hts⟩ (ct_X7_isKind h H.size) (va_cwS 1 hts gX7_task_X7_isKind rfl rfl rfl (by decide +kernel) ⟨Nat.le_of_ble_eq_true rfl, Nat.le_of_ble_eq_true rfl⟩) ⟨CPre.blind, wd_pre hAB hP hD hS hA⟩ rfl rfl hl.1 rfl (lv_room (Nat.le_of_ble_eq_true rfl)) dX7_task_1 ⟨Nat.zero_le _, Nat.zero_le _⟩) (fun r_19 u H locs h hP hD hS => ?_)
  refine lv_if_eq (tgt := 14) hx hb dX7_task_4 (by decide) (fun c_20 => ?_) (fun c_20 => ?_)
  · have h := h.1 c_20
    exact B14 bHP bFi tC tKi tEa tHa tPr tEx tSt tTo tBe aC aWh aTa aWa cC h H locs ls hP hD hS (lv_sub hl [0] rfl)
  · have h := h.2 c_20
    refine lv_iload_n hx hb dX7_task_7 rfl (lv_at hl 2 rfl) ?_
    refine cl_i hD hS hA (va_runS (As := [.int a2]) (rest := []) ⟨hx, hb, hml, hown, hts⟩ (ct_X7_isBoard h H.size) (va_cwS 1 hts gX7_task_X7_isBoard rfl rfl rfl (by decide +kernel) ⟨Nat.le_of_ble_eq_true rfl, Nat.le_of_ble_eq_true rfl⟩) ⟨CPre.blind, wd_pre hAB hP hD hS hA⟩ rfl rfl hl.1 rfl (lv_room (Nat.le_of_ble_eq_true rfl)) dX7_task_8 ⟨Nat.zero_le _, Nat.zero_le _⟩) (fun r_21 u H locs h hP hD hS => ?_)
    refine lv_if_ne (tgt := 20) hx hb dX7_task_11 (by decide) (fun c_22 => ?_) (fun c_22 => ?_)
    · have h := h.1 c_22
      refine lv_aload_n hx hb dX7_task_20 rfl (lv_at hl 0 rfl) ?_
      refine va_get (D := D) (ci := 7) (C := RX7) (T := TX7) (N := 14) hx hb hts inn_X7_task_7 hown hAB.1 hP 0 rfl rfl 0 (by decide) (hts (.fieldLink RX7 11 "BarnBench" "boards" "[LBarnBench$Board;") (by decide +kernel)) (fun _ h9 => h9) rfl dX7_task_21 ?_
      refine lv_iload_n hx hb dX7_task_24 rfl (lv_at hl 2 rfl) ?_
      have hi_23 := vp_lt h.1
      refine va_aldq hx hb hAB.1 hP 1 4 rfl rfl h.1 dX7_task_25 ?_
      have h := h.2
      rw [if_pos hi_23]
      show W _ _ _ _ _ _ _ _ _ _ _ _ _ _ _ (F0 _ _ _ (.ref (dd (Int32.toNatClampNeg a2) 0) :: _))
      refine lv_astore (lv' := [(4, .ref (dd (Int32.toNatClampNeg a2) 0)), (0, .ref (ad 0)), (1, .int a1), (2, .int a2), (3, .int a3)]) hx hb dX7_task_26 hl (by decide) rfl (fun ls hl => ?_)
      refine lv_aload hx hb dX7_task_28 (lv_at hl 0 rfl) ?_
      refine cl_i hD hS hA (va_runV (As := []) (rest := []) ⟨hx, hb, hml, hown, hts⟩ (ct_X2_isMissing hi_23 rfl h H.size) (cwV 0 hts gX7_task_X2_isMissing rfl rfl rfl (by decide +kernel) ⟨Nat.le_of_ble_eq_true rfl, Nat.le_of_ble_eq_true rfl⟩) ⟨CPre.blind, va_recv hAB.1 hP (ci := 2) (q0 := (2 + ((Int32.toNatClampNeg a2) * 2 + 0))) rfl (gD_0 hi_23), wd_pre hAB hP hD hS hA⟩ rfl rfl hl.1 rfl (lv_room (Nat.le_of_ble_eq_true rfl)) dX7_task_30 ⟨Nat.zero_le _, Nat.zero_le _⟩) (fun r_24 u H locs h hP hD hS => ?_)
      refine lv_if_eq (tgt := 43) hx hb dX7_task_33 (by decide) (fun c_25 => ?_) (fun c_25 => ?_)
      · have h := h.1 c_25
        refine lv_aload hx hb dX7_task_43 (lv_at hl 0 rfl) ?_
        refine lv_iload_n hx hb dX7_task_45 rfl (lv_at hl 4 rfl) ?_
        obtain ⟨t_26, z_27, y_28⟩ := hAB.2.2.1
        refine va_gets hx hb z_27 hS hown (hts (.fieldLink RX7 98 "BarnBench" "TAKEN" "[I") (by decide +kernel)) (fun _ h9 => h9) dX7_task_46 ?_
        refine lv_iload_n hx hb dX7_task_49 rfl (lv_at hl 2 rfl) ?_
        refine va_ti hx hb y_28 hS h.1 rfl dX7_task_50 ?_
        have h := h.2
        refine cl_i hD hS hA (va_runV (As := [.int a3, .int (am_taken (Int32.toNatClampNeg a1))]) (rest := []) ⟨hx, hb, hml, hown, hts⟩ (ct_X2_has hi_23 rfl h H.size) (cwV 2 hts gX7_task_X2_has rfl rfl rfl (by decide +kernel) ⟨Nat.le_of_ble_eq_true rfl, Nat.le_of_ble_eq_true rfl⟩) ⟨CPre.blind, va_recv hAB.1 hP (ci := 2) (q0 := (2 + ((Int32.toNatClampNeg a2) * 2 + 0))) rfl (gD_0 hi_23), wd_pre hAB hP hD hS hA⟩ rfl rfl hl.1 rfl (lv_room (Nat.le_of_ble_eq_true rfl)) dX7_task_51 ⟨Nat.zero_le _, Nat.zero_le _⟩) (fun r_29 u H locs h hP hD hS => ?_)
        refine lv_if_ne (tgt := 63) hx hb dX7_task_54 (by decide) (fun c_30 => ?_) (fun c_30 => ?_)
        · have h := h.1 c_30
          refine lv_aload hx hb dX7_task_63 (lv_at hl 0 rfl) ?_
          refine lv_iload_n hx hb dX7_task_65 rfl (lv_at hl 2 rfl) ?_
          refine lv_iload_n hx hb dX7_task_66 rfl (lv_at hl 4 rfl) ?_
          refine cl_i hD hS hA (va_runV (As := [.int a1, .int a3]) (rest := []) ⟨hx, hb, hml, hown, hts⟩ (ct_X2_holdsTask hi_23 rfl h H.size) (cwV 2 hts gX7_task_X2_holdsTask rfl rfl rfl (by decide +kernel) ⟨Nat.le_of_ble_eq_true rfl, Nat.le_of_ble_eq_true rfl⟩) ⟨CPre.blind, va_recv hAB.1 hP (ci := 2) (q0 := (2 + ((Int32.toNatClampNeg a2) * 2 + 0))) rfl (gD_0 hi_23), wd_pre hAB hP hD hS hA⟩ rfl rfl hl.1 rfl (lv_room (Nat.le_of_ble_eq_true rfl)) dX7_task_67 ⟨Nat.zero_le _, Nat.zero_le _⟩) (fun r_31 u H locs h hP hD hS => ?_)
          refine lv_if_ne (tgt := 80) hx hb dX7_task_70 (by decide) (fun c_32 => ?_) (fun c_32 => ?_)
          · have h := h.1 c_32
            refine lv_aload_n hx hb dX7_task_80 rfl (lv_at hl 1 rfl) ?_
            refine va_get (D := D) (ci := 7) (C := RX7) (T := TX7) (N := 14) hx hb hts inn_X7_task_7 hown hAB.1 hP 0 rfl rfl 1 (by decide) (hts (.fieldLink RX7 19 "BarnBench" "tasks" "LBarnBench$Tasks;") (by decide +kernel)) (fun _ h9 => h9) rfl dX7_task_81 ?_
            refine va_get (D := D) (ci := 5) (C := RX5) (T := TX5) (N := 9) hx hb hts inn_X7_task_5 hown hAB.1 hP 10 rfl rfl 0 (by decide) (hts (.fieldLink RX7 104 "BarnBench$Tasks" "count" "I") (by decide +kernel)) (fun _ h9 => h9) rfl dX7_task_84 ?_
            refine lv_bipush (v := 12) hx hb dX7_task_87 (by decide) ?_
            refine lv_icmp_lt (tgt := 99) hx hb dX7_task_89 (by decide) (fun c_33 => ?_) (fun c_33 => ?_)
            · have h := h.1 c_33
              refine lv_aload_n hx hb dX7_task_99 rfl (lv_at hl 1 rfl) ?_
              refine va_get (D := D) (ci := 7) (C := RX7) (T := TX7) (N := 14) hx hb hts inn_X7_task_7 hown hAB.1 hP 0 rfl rfl 1 (by decide) (hts (.fieldLink RX7 19 "BarnBench" "tasks" "LBarnBench$Tasks;") (by decide +kernel)) (fun _ h9 => h9) rfl dX7_task_100 ?_
              refine lv_iload_n hx hb dX7_task_103 rfl (lv_at hl 2 rfl) ?_
              refine lv_aload hx hb dX7_task_104 (lv_at hl 0 rfl) ?_
              refine lv_iload_n hx hb dX7_task_106 rfl (lv_at hl 4 rfl) ?_
              refine cl_i hD hS hA (va_runV (As := [.int a1, .ref (dd (Int32.toNatClampNeg a2) 0), .int a3]) (rest := []) ⟨hx, hb, hml, hown, hts⟩ (ct_X5_add hi_23 rfl h H.size) (cwV 3 hts gX7_task_X5_add rfl rfl rfl (by decide +kernel) ⟨Nat.le_of_ble_eq_true rfl, Nat.le_of_ble_eq_true rfl⟩) ⟨CPre.blind, va_recv hAB.1 hP (ci := 5) (q0 := 10) rfl rfl, wd_pre hAB hP hD hS hA⟩ rfl rfl hl.1 rfl (lv_room (Nat.le_of_ble_eq_true rfl)) dX7_task_107 ⟨Nat.zero_le _, Nat.zero_le _⟩) (fun r_34 u H locs h hP hD hS => ?_)
              obtain ⟨tC_35, tKi_36, tEa_37, tHa_38, tPr_39, tEx_40, tSt_41, tTo_42, tBe_43⟩ := u
              have hP : va_P D vwCl (WC cI cJ cE cD ad bd dd bHK bHP bPF bWC bRi bBe bFi bWa dB dS dN tC_35 tKi_36 tEa_37 tHa_38 tPr_39 tEx_40 tSt_41 tTo_42 tBe_43 kC kKi kEa kHa kPr kEx kSt kTo kBe aC aWh aTa aWa iRo iEa iLa cC nC nFo nQd nRo nBe nEa nMi nHa nER nMR nTh nPa nOu nFr nQu eM eL eC eS eB eE eF eG) H := hP
              have hD : va_D A (WC cI cJ cE cD ad bd dd bHK bHP bPF bWC bRi bBe bFi bWa dB dS dN tC_35 tKi_36 tEa_37 tHa_38 tPr_39 tEx_40 tSt_41 tTo_42 tBe_43 kC kKi kEa kHa kPr kEx kSt kTo kBe aC aWh aTa aWa iRo iEa iLa cC nC nFo nQd nRo nBe nEa nMi nHa nER nMR nTh nPa nOu nFr nQu eM eL eC eS eB eE eF eG) := hD
              refine lv_istore (lv' := [(5, .int r_34), (4, .ref (dd (Int32.toNatClampNeg a2) 0)), (0, .ref (ad 0)), (1, .int a1), (2, .int a2), (3, .int a3)]) hx hb dX7_task_110 hl (by decide) rfl (fun ls hl => ?_)
              refine lv_aload_n hx hb dX7_task_112 rfl (lv_at hl 2 rfl) ?_
              refine va_get (D := D) (ci := 7) (C := RX7) (T := TX7) (N := 14) hx hb hts inn_X7_task_7 hown hAB.1 hP 0 rfl rfl 4 (by decide) (hts (.fieldLink RX7 29 "BarnBench" "acts" "LBarnBench$Acts;") (by decide +kernel)) (fun _ h9 => h9) rfl dX7_task_113 ?_
              refine lv_iconst (v := 0) hx hb dX7_task_116 (by decide) ?_
              refine lv_iload hx hb dX7_task_117 (lv_at hl 0 rfl) ?_
              refine lv_iconst (v := 0) hx hb dX7_task_119 (by decide) ?_
              refine cl_v hD hS hA (va_runV (As := [.int 0, .int r_34, .int 0]) (rest := []) ⟨hx, hb, hml, hown, hts⟩ (ct_X0_add h H.size) (cwV 3 hts gX7_task_X0_add rfl rfl rfl (by decide +kernel) ⟨Nat.le_of_ble_eq_true rfl, Nat.le_of_ble_eq_true rfl⟩) ⟨CPre.blind, va_recv hAB.1 hP (ci := 0) (q0 := 28) rfl rfl, wd_pre hAB hP hD hS hA⟩ rfl rfl hl.1 rfl (lv_room (Nat.le_of_ble_eq_true rfl)) dX7_task_120 ⟨Nat.zero_le _, Nat.zero_le _⟩) (fun u H locs h hP hD hS => ?_)
              obtain ⟨aC_44, aWh_45, aTa_46, aWa_47⟩ := u
              have hP : va_P D vwCl (WC cI cJ cE cD ad bd dd bHK bHP bPF bWC bRi bBe bFi bWa dB dS dN tC_35 tKi_36 tEa_37 tHa_38 tPr_39 tEx_40 tSt_41 tTo_42 tBe_43 kC kKi kEa kHa kPr kEx kSt kTo kBe aC_44 aWh_45 aTa_46 aWa_47 iRo iEa iLa cC nC nFo nQd nRo nBe nEa nMi nHa nER nMR nTh nPa nOu nFr nQu eM eL eC eS eB eE eF eG) H := hP
              have hD : va_D A (WC cI cJ cE cD ad bd dd bHK bHP bPF bWC bRi bBe bFi bWa dB dS dN tC_35 tKi_36 tEa_37 tHa_38 tPr_39 tEx_40 tSt_41 tTo_42 tBe_43 kC kKi kEa kHa kPr kEx kSt kTo kBe aC_44 aWh_45 aTa_46 aWa_47 iRo iEa iLa cC nC nFo nQd nRo nBe nEa nMi nHa nER nMR nTh nPa nOu nFr nQu eM eL eC eS eB eE eF eG) := hD
              refine lv_aload_n hx hb dX7_task_123 rfl (lv_at hl 2 rfl) ?_
              refine cl_v hD hS hA (va_runV (As := []) (rest := []) ⟨hx, hb, hml, hown, hts⟩ (ct_X7_forgetPlans h H.size) (cwV 0 hts gX7_task_X7_forgetPlans rfl rfl rfl (by decide +kernel) ⟨Nat.le_of_ble_eq_true rfl, Nat.le_of_ble_eq_true rfl⟩) ⟨CPre.blind, va_recv hAB.1 hP (ci := 7) (q0 := 0) rfl rfl, wd_pre hAB hP hD hS hA⟩ rfl rfl hl.1 rfl (lv_room (Nat.le_of_ble_eq_true rfl)) dX7_task_124 ⟨Nat.zero_le _, Nat.zero_le _⟩) (fun u H locs h hP hD hS => ?_)
              obtain ⟨bHP_48, cC_49⟩ := u
              have hP : va_P D vwCl (WC cI cJ cE cD ad bd dd bHK bHP_48 bPF bWC bRi bBe bFi bWa dB dS dN tC_35 tKi_36 tEa_37 tHa_38 tPr_39 tEx_40 tSt_41 tTo_42 tBe_43 kC kKi kEa kHa kPr kEx kSt kTo kBe aC_44 aWh_45 aTa_46 aWa_47 iRo iEa iLa cC_49 nC nFo nQd nRo nBe nEa nMi nHa nER nMR nTh nPa nOu nFr nQu eM eL eC eS eB eE eF eG) H := hP
              have hD : va_D A (WC cI cJ cE cD ad bd dd bHK bHP_48 bPF bWC bRi bBe bFi bWa dB dS dN tC_35 tKi_36 tEa_37 tHa_38 tPr_39 tEx_40 tSt_41 tTo_42 tBe_43 kC kKi kEa kHa kPr kEx kSt kTo kBe aC_44 aWh_45 aTa_46 aWa_47 iRo iEa iLa cC_49 nC nFo nQd nRo nBe nEa nMi nHa nER nMR nTh nPa nOu nFr nQu eM eL eC eS eB eE eF eG) := hD
              refine lv_iload hx hb dX7_task_127 (lv_at hl 0 rfl) ?_
              exact rt_i (bHP_48, bFi, tC_35, tKi_36, tEa_37, tHa_38, tPr_39, tEx_40, tSt_41, tTo_42, tBe_43, aC_44, aWh_45, aTa_46, aWa_47, cC_49) hQ hx hb hr hlk hP hD hS ⟨Nat.zero_le _, Nat.zero_le _⟩ dX7_task_129 h
            · have h := h.2 c_33
              refine lv_aload_n hx hb dX7_task_92 rfl (lv_at hl 1 rfl) ?_
              refine lv_bipush (v := (-5)) hx hb dX7_task_93 (by decide) ?_
              refine cl_i hD hS hA (va_runV (As := [.int (-5)]) (rest := []) ⟨hx, hb, hml, hown, hts⟩ (ct_X7_finding h H.size) (cwV 1 hts gX7_task_X7_finding rfl rfl rfl (by decide +kernel) ⟨Nat.le_of_ble_eq_true rfl, Nat.le_of_ble_eq_true rfl⟩) ⟨CPre.blind, va_recv hAB.1 hP (ci := 7) (q0 := 0) rfl rfl, wd_pre hAB hP hD hS hA⟩ rfl rfl hl.1 rfl (lv_room (Nat.le_of_ble_eq_true rfl)) dX7_task_95 ⟨Nat.zero_le _, Nat.zero_le _⟩) (fun r_50 bFi_51 H locs h hP hD hS => ?_)
              have hP : va_P D vwCl (WC cI cJ cE cD ad bd dd bHK bHP bPF bWC bRi bBe bFi_51 bWa dB dS dN tC tKi tEa tHa tPr tEx tSt tTo tBe kC kKi kEa kHa kPr kEx kSt kTo kBe aC aWh aTa aWa iRo iEa iLa cC nC nFo nQd nRo nBe nEa nMi nHa nER nMR nTh nPa nOu nFr nQu eM eL eC eS eB eE eF eG) H := hP
              have hD : va_D A (WC cI cJ cE cD ad bd dd bHK bHP bPF bWC bRi bBe bFi_51 bWa dB dS dN tC tKi tEa tHa tPr tEx tSt tTo tBe kC kKi kEa kHa kPr kEx kSt kTo kBe aC aWh aTa aWa iRo iEa iLa cC nC nFo nQd nRo nBe nEa nMi nHa nER nMR nTh nPa nOu nFr nQu eM eL eC eS eB eE eF eG) := hD
              exact rt_i (bHP, bFi_51, tC, tKi, tEa, tHa, tPr, tEx, tSt, tTo, tBe, aC, aWh, aTa, aWa, cC) hQ hx hb hr hlk hP hD hS ⟨Nat.zero_le _, Nat.zero_le _⟩ dX7_task_98 h
          · have h := h.2 c_32
            refine lv_aload_n hx hb dX7_task_73 rfl (lv_at hl 1 rfl) ?_
            refine lv_bipush (v := (-3)) hx hb dX7_task_74 (by decide) ?_
            refine cl_i hD hS hA (va_runV (As := [.int (-3)]) (rest := []) ⟨hx, hb, hml, hown, hts⟩ (ct_X7_finding h H.size) (cwV 1 hts gX7_task_X7_finding rfl rfl rfl (by decide +kernel) ⟨Nat.le_of_ble_eq_true rfl, Nat.le_of_ble_eq_true rfl⟩) ⟨CPre.blind, va_recv hAB.1 hP (ci := 7) (q0 := 0) rfl rfl, wd_pre hAB hP hD hS hA⟩ rfl rfl hl.1 rfl (lv_room (Nat.le_of_ble_eq_true rfl)) dX7_task_76 ⟨Nat.zero_le _, Nat.zero_le _⟩) (fun r_52 bFi_53 H locs h hP hD hS => ?_)
            have hP : va_P D vwCl (WC cI cJ cE cD ad bd dd bHK bHP bPF bWC bRi bBe bFi_53 bWa dB dS dN tC tKi tEa tHa tPr tEx tSt tTo tBe kC kKi kEa kHa kPr kEx kSt kTo kBe aC aWh aTa aWa iRo iEa iLa cC nC nFo nQd nRo nBe nEa nMi nHa nER nMR nTh nPa nOu nFr nQu eM eL eC eS eB eE eF eG) H := hP
            have hD : va_D A (WC cI cJ cE cD ad bd dd bHK bHP bPF bWC bRi bBe bFi_53 bWa dB dS dN tC tKi tEa tHa tPr tEx tSt tTo tBe kC kKi kEa kHa kPr kEx kSt kTo kBe aC aWh aTa aWa iRo iEa iLa cC nC nFo nQd nRo nBe nEa nMi nHa nER nMR nTh nPa nOu nFr nQu eM eL eC eS eB eE eF eG) := hD
            exact rt_i (bHP, bFi_53, tC, tKi, tEa, tHa, tPr, tEx, tSt, tTo, tBe, aC, aWh, aTa, aWa, cC) hQ hx hb hr hlk hP hD hS ⟨Nat.zero_le _, Nat.zero_le _⟩ dX7_task_79 h
        · have h := h.2 c_30
          refine lv_aload_n hx hb dX7_task_57 rfl (lv_at hl 1 rfl) ?_
          refine lv_iconst (v := (-1)) hx hb dX7_task_58 (by decide) ?_
          refine cl_i hD hS hA (va_runV (As := [.int (-1)]) (rest := []) ⟨hx, hb, hml, hown, hts⟩ (ct_X7_finding h H.size) (cwV 1 hts gX7_task_X7_finding rfl rfl rfl (by decide +kernel) ⟨Nat.le_of_ble_eq_true rfl, Nat.le_of_ble_eq_true rfl⟩) ⟨CPre.blind, va_recv hAB.1 hP (ci := 7) (q0 := 0) rfl rfl, wd_pre hAB hP hD hS hA⟩ rfl rfl hl.1 rfl (lv_room (Nat.le_of_ble_eq_true rfl)) dX7_task_59 ⟨Nat.zero_le _, Nat.zero_le _⟩) (fun r_54 bFi_55 H locs h hP hD hS => ?_)
          have hP : va_P D vwCl (WC cI cJ cE cD ad bd dd bHK bHP bPF bWC bRi bBe bFi_55 bWa dB dS dN tC tKi tEa tHa tPr tEx tSt tTo tBe kC kKi kEa kHa kPr kEx kSt kTo kBe aC aWh aTa aWa iRo iEa iLa cC nC nFo nQd nRo nBe nEa nMi nHa nER nMR nTh nPa nOu nFr nQu eM eL eC eS eB eE eF eG) H := hP
          have hD : va_D A (WC cI cJ cE cD ad bd dd bHK bHP bPF bWC bRi bBe bFi_55 bWa dB dS dN tC tKi tEa tHa tPr tEx tSt tTo tBe kC kKi kEa kHa kPr kEx kSt kTo kBe aC aWh aTa aWa iRo iEa iLa cC nC nFo nQd nRo nBe nEa nMi nHa nER nMR nTh nPa nOu nFr nQu eM eL eC eS eB eE eF eG) := hD
          exact rt_i (bHP, bFi_55, tC, tKi, tEa, tHa, tPr, tEx, tSt, tTo, tBe, aC, aWh, aTa, aWa, cC) hQ hx hb hr hlk hP hD hS ⟨Nat.zero_le _, Nat.zero_le _⟩ dX7_task_62 h
      · have h := h.2 c_25
        refine lv_aload_n hx hb dX7_task_36 rfl (lv_at hl 1 rfl) ?_
        refine lv_bipush (v := (-2)) hx hb dX7_task_37 (by decide) ?_
        refine cl_i hD hS hA (va_runV (As := [.int (-2)]) (rest := []) ⟨hx, hb, hml, hown, hts⟩ (ct_X7_finding h H.size) (cwV 1 hts gX7_task_X7_finding rfl rfl rfl (by decide +kernel) ⟨Nat.le_of_ble_eq_true rfl, Nat.le_of_ble_eq_true rfl⟩) ⟨CPre.blind, va_recv hAB.1 hP (ci := 7) (q0 := 0) rfl rfl, wd_pre hAB hP hD hS hA⟩ rfl rfl hl.1 rfl (lv_room (Nat.le_of_ble_eq_true rfl)) dX7_task_39 ⟨Nat.zero_le _, Nat.zero_le _⟩) (fun r_56 bFi_57 H locs h hP hD hS => ?_)
        have hP : va_P D vwCl (WC cI cJ cE cD ad bd dd bHK bHP bPF bWC bRi bBe bFi_57 bWa dB dS dN tC tKi tEa tHa tPr tEx tSt tTo tBe kC kKi kEa kHa kPr kEx kSt kTo kBe aC aWh aTa aWa iRo iEa iLa cC nC nFo nQd nRo nBe nEa nMi nHa nER nMR nTh nPa nOu nFr nQu eM eL eC eS eB eE eF eG) H := hP
        have hD : va_D A (WC cI cJ cE cD ad bd dd bHK bHP bPF bWC bRi bBe bFi_57 bWa dB dS dN tC tKi tEa tHa tPr tEx tSt tTo tBe kC kKi kEa kHa kPr kEx kSt kTo kBe aC aWh aTa aWa iRo iEa iLa cC nC nFo nQd nRo nBe nEa nMi nHa nER nMR nTh nPa nOu nFr nQu eM eL eC eS eB eE eF eG) := hD
        exact rt_i (bHP, bFi_57, tC, tKi, tEa, tHa, tPr, tEx, tSt, tTo, tBe, aC, aWh, aTa, aWa, cC) hQ hx hb hr hlk hP hD hS ⟨Nat.zero_le _, Nat.zero_le _⟩ dX7_task_42 h
    · have h := h.2 c_22
      exact B14 bHP bFi tC tKi tEa tHa tPr tEx tSt tTo tBe aC aWh aTa aWa cC h H locs ls hP hD hS (lv_sub hl [0] rfl)
def wp_X7_after_b22 (Qp : Int32 → (Int32) → (Int32) → (Int32) → (Nat → Int32) → (Int32) → (Nat → Int32) → (Nat → Int32) → (Nat → Int32) → (Int32) → Prop) (bHP_1 : Int32) (bRi_2 : Int32) (bFi_3 : Int32) (tBe_4 : Nat → Int32) (aC_5 : Int32) (aWh_6 : Nat → Int32) (aTa_7 : Nat → Int32) (aWa_8 : Nat → Int32) (cC_9 : Int32) : Prop :=
  wp_X7_finding bFi_3 (-1) (fun (r_10 : Int32) (bFi_11 : Int32) => Qp r_10 bHP_1 bRi_2 bFi_11 tBe_4 aC_5 aWh_6 aTa_7 aWa_8 cC_9)
def wp_X7_after (bHP : Int32) (bRi : Int32) (bFi : Int32) (tC : Int32) (tBe : Nat → Int32) (aC : Int32) (aWh : Nat → Int32) (aTa : Nat → Int32) (aWa : Nat → Int32) (cC : Int32) (a1 : Int32) (a2 : Int32) (Qp : Int32 → (Int32) → (Int32) → (Int32) → (Nat → Int32) → (Int32) → (Nat → Int32) → (Nat → Int32) → (Nat → Int32) → (Int32) → Prop) : Prop :=
  wp_X5_has tC a1 (fun (r_12 : Int32) => ((r_12 = 0 → wp_X7_after_b22 Qp bHP bRi bFi tBe aC aWh aTa aWa cC) ∧
   (¬ r_12 = 0 → wp_X5_has tC a2 (fun (r_14 : Int32) => ((¬ r_14 = 0 → wp_X5_ringOf tC tBe a1 a2 (fun (r_16 : Int32) => ((r_16 = 0 → vp_in a1 12 ∧ wp_X7_changeBefore bHP tBe aC aWh aTa aWa cC a1 ((tBe (Int32.toNatClampNeg a1)) ||| (1 <<< (a2 &&& 31))) (fun (r_18 : Int32) (bHP_19 : Int32) (tBe_20 : Nat → Int32) (aC_21 : Int32) (aWh_22 : Nat → Int32) (aTa_23 : Nat → Int32) (aWa_24 : Nat → Int32) (cC_25 : Int32) => Qp r_18 bHP_19 bRi bFi tBe_20 aC_21 aWh_22 aTa_23 aWa_24 cC_25)) ∧
   (¬ r_16 = 0 → ∀ bRi_26 : Int32, bRi_26 = r_16 → wp_X7_finding bFi (-6) (fun (r_28 : Int32) (bFi_29 : Int32) => Qp r_28 bHP bRi_26 bFi_29 tBe aC aWh aTa aWa cC))))) ∧
   (r_14 = 0 → wp_X7_after_b22 Qp bHP bRi bFi tBe aC aWh aTa aWa cC))))))
theorem inn_X7_after_5 : ∀ w ∈ u_ws RX5 TX5 9, w ∈ wsX7_after := fun _ h => List.mem_cons_of_mem _ (List.mem_append_left _ (List.mem_append_left _ (List.mem_append_right _ h)))
theorem inn_X7_after_7 : ∀ w ∈ u_ws RX7 TX7 14, w ∈ wsX7_after := fun _ h => List.mem_cons_of_mem _ (List.mem_append_left _ (List.mem_append_left _ (List.mem_append_left _ (List.mem_append_right _ h))))
def rm_X7_after : Room := { frames := 3, cells := 0, slots := 0, locals := 105 }
set_option maxHeartbeats 4000000 in
set_option maxRecDepth 100000 in
theorem ct_X7_after {l : Launch} {D : va_G} {cI cJ cZ cE cD cK : ClassId} {ad : Nat → Nat} {bd dd : Nat → Nat → Nat} {bHK : Int32} {bHP : Int32} {bPF : Int32} {bWC : Int32} {bRi : Int32} {bBe : Int32} {bFi : Int32} {bWa : Nat → Int32} {dB : Nat → Int32} {dS : Nat → Int32} {dN : Nat → Nat → Int64} {tC : Int32} {tKi : Nat → Int32} {tEa : Nat → Int32} {tHa : Nat → Int32} {tPr : Nat → Int32} {tEx : Nat → Int32} {tSt : Nat → Int32} {tTo : Nat → Int32} {tBe : Nat → Int32} {kC : Int32} {kKi : Nat → Int32} {kEa : Nat → Int32} {kHa : Nat → Int32} {kPr : Nat → Int32} {kEx : Nat → Int32} {kSt : Nat → Int32} {kTo : Nat → Int32} {kBe : Nat → Int32} {aC : Int32} {aWh : Nat → Int32} {aTa : Nat → Int32} {aWa : Nat → Int32} {iRo : Nat → Int32} {iEa : Nat → Int32} {iLa : Nat → Int32} {cC : Int32} {nC : Int32} {nFo : Int32} {nQd : Int32} {nRo : Nat → Int32} {nBe : Nat → Int32} {nEa : Nat → Int32} {nMi : Nat → Int32} {nHa : Nat → Int32} {nER : Nat → Int32} {nMR : Nat → Int32} {nTh : Nat → Int32} {nPa : Nat → Int32} {nOu : Nat → Int32} {nFr : Nat → Int32} {nQu : Nat → Int32} {eM : Nat} {eL : Nat → Int32} {eC : Nat → Int64} {eS : Nat → Int64} {eB : Nat → Nat → Int32} {eE : Nat → Nat → Int32} {eF : Nat → Nat → Int32} {eG : Nat → Nat → Int32}   {a1 : Int32} {a2 : Int32} {Qp : Int32 → (Int32) → (Int32) → (Int32) → (Nat → Int32) → (Int32) → (Nat → Int32) → (Nat → Int32) → (Nat → Int32) → (Int32) → Prop}   (h : wp_X7_after bHP bRi bFi tC tBe aC aWh aTa aWa cC a1 a2 Qp) : CTi l yX7_after wsX7_after rm_X7_after D (tyL cI cJ cZ cE cD cK) [.ref (ad 0), .int a1, .int a2] (WC cI cJ cE cD ad bd dd bHK bHP bPF bWC bRi bBe bFi bWa dB dS dN tC tKi tEa tHa tPr tEx tSt tTo tBe kC kKi kEa kHa kPr kEx kSt kTo kBe aC aWh aTa aWa iRo iEa iLa cC nC nFo nQd nRo nBe nEa nMi nHa nER nMR nTh nPa nOu nFr nQu eM eL eC eS eB eE eF eG) (fun (r : Int32) (u : (Int32) × (Int32) × (Int32) × (Nat → Int32) × (Int32) × (Nat → Int32) × (Nat → Int32) × (Nat → Int32) × (Int32)) => Qp r u.1 u.2.1 u.2.2.1 u.2.2.2.1 u.2.2.2.2.1 u.2.2.2.2.2.1 u.2.2.2.2.2.2.1 u.2.2.2.2.2.2.2.1 u.2.2.2.2.2.2.2.2) (fun u : (Int32) × (Int32) × (Int32) × (Nat → Int32) × (Int32) × (Nat → Int32) × (Nat → Int32) × (Nat → Int32) × (Int32) => (WC cI cJ cE cD ad bd dd bHK u.1 bPF bWC u.2.1 bBe u.2.2.1 bWa dB dS dN tC tKi tEa tHa tPr tEx tSt tTo u.2.2.2.1 kC kKi kEa kHa kPr kEx kSt kTo kBe u.2.2.2.2.1 u.2.2.2.2.2.1 u.2.2.2.2.2.2.1 u.2.2.2.2.2.2.2.1 iRo iEa iLa u.2.2.2.2.2.2.2.2 nC nFo nQd nRo nBe nEa nMi nHa nER nMR nTh nPa nOu nFr nQu eM eL eC eS eB eE eF eG)) 0 0 := by
  refine ent_i (cc := cX7_after) (maxL := 4) (ret := (some .int)) (by decide) rfl (Nat.le_of_ble_eq_true rfl) ?_
  intro p e s m args below meth c A Q hQ hx hb hr hml hown hts hlk hA hAB hP hD hS ls hl
  have hown : s.vm.findClass RX7 = some m.cls := hown
  have hl : lv_has ls 4 [(0, .ref (ad 0)), (1, .int a1), (2, .int a2)] := hl
  generalize hH : s.heap = H at hP ⊢
  have hS : va_S A s.heap H [] := by rw [← hH]; exact hS
  clear hH
  generalize ([] : List Loc) = locs at hS ⊢
  have B22 : ∀ (bHP_1 : Int32) (bRi_2 : Int32) (bFi_3 : Int32) (tBe_4 : Nat → Int32) (aC_5 : Int32) (aWh_6 : Nat → Int32) (aTa_7 : Nat → Int32) (aWa_8 : Nat → Int32) (cC_9 : Int32), wp_X7_after_b22 Qp bHP_1 bRi_2 bFi_3 tBe_4 aC_5 aWh_6 aTa_7 aWa_8 cC_9 → ∀ (H : Heap) (locs : List Loc) (ls : Array Slot), va_P D vwCl (WC cI cJ cE cD ad bd dd bHK bHP_1 bPF bWC bRi_2 bBe bFi_3 bWa dB dS dN tC tKi tEa tHa tPr tEx tSt tTo tBe_4 kC kKi kEa kHa kPr kEx kSt kTo kBe aC_5 aWh_6 aTa_7 aWa_8 iRo iEa iLa cC_9 nC nFo nQd nRo nBe nEa nMi nHa nER nMR nTh nPa nOu nFr nQu eM eL eC eS eB eE eF eG) H → va_D A (WC cI cJ cE cD ad bd dd bHK bHP_1 bPF bWC bRi_2 bBe bFi_3 bWa dB dS dN tC tKi tEa tHa tPr tEx tSt tTo tBe_4 kC kKi kEa kHa kPr kEx kSt kTo kBe aC_5 aWh_6 aTa_7 aWa_8 iRo iEa iLa cC_9 nC nFo nQd nRo nBe nEa nMi nHa nER nMR nTh nPa nOu nFr nQu eM eL eC eS eB eE eF eG) → va_S A s.heap H locs → lv_has ls 4 [(0, .ref (ad 0))] → W p l e (headSpec wsX7_after rm_X7_after).room s m args below meth c H locs 0 0 Q (F0 m 22 ls []) := by
    intro bHP_1 bRi_2 bFi_3 tBe_4 aC_5 aWh_6 aTa_7 aWa_8 cC_9 h H locs ls hP hD hS hl
    refine lv_aload_n hx hb dX7_after_22 rfl (lv_at hl 0 rfl) ?_
    refine lv_iconst (v := (-1)) hx hb dX7_after_23 (by decide) ?_
    refine cl_i hD hS hA (va_runV (As := [.int (-1)]) (rest := []) ⟨hx, hb, hml, hown, hts⟩ (ct_X7_finding h H.size) (cwV 1 hts gX7_after_X7_finding rfl rfl rfl (by decide +kernel) ⟨Nat.le_of_ble_eq_true rfl, Nat.le_of_ble_eq_true rfl⟩) ⟨CPre.blind, va_recv hAB.1 hP (ci := 7) (q0 := 0) rfl rfl, wd_pre hAB hP hD hS hA⟩ rfl rfl hl.1 rfl (lv_room (Nat.le_of_ble_eq_true rfl)) dX7_after_24 ⟨Nat.zero_le _, Nat.zero_le _⟩) (fun r_10 bFi_11 H locs h hP hD hS => ?_)
    have hP : va_P D vwCl (WC cI cJ cE cD ad bd dd bHK bHP_1 bPF bWC bRi_2 bBe bFi_11 bWa dB dS dN tC tKi tEa tHa tPr tEx tSt tTo tBe_4 kC kKi kEa kHa kPr kEx kSt kTo kBe aC_5 aWh_6 aTa_7 aWa_8 iRo iEa iLa cC_9 nC nFo nQd nRo nBe nEa nMi nHa nER nMR nTh nPa nOu nFr nQu eM eL eC eS eB eE eF eG) H := hP
    have hD : va_D A (WC cI cJ cE cD ad bd dd bHK bHP_1 bPF bWC bRi_2 bBe bFi_11 bWa dB dS dN tC tKi tEa tHa tPr tEx tSt tTo tBe_4 kC kKi kEa kHa kPr kEx kSt kTo kBe aC_5 aWh_6 aTa_7 aWa_8 iRo iEa iLa cC_9 nC nFo nQd nRo nBe nEa nMi nHa nER nMR nTh nPa nOu nFr nQu eM eL eC eS eB eE eF eG) := hD
    exact rt_i (bHP_1, bRi_2, bFi_11, tBe_4, aC_5, aWh_6, aTa_7, aWa_8, cC_9) hQ hx hb hr hlk hP hD hS ⟨Nat.zero_le _, Nat.zero_le _⟩ dX7_after_27 h
  refine lv_aload_n hx hb dX7_after_0 rfl (lv_at hl 0 rfl) ?_
  refine va_get (D := D) (ci := 7) (C := RX7) (T := TX7) (N := 14) hx hb hts inn_X7_after_7 hown hAB.1 hP 0 rfl rfl 1 (by decide) (hts (.fieldLink RX7 19 "BarnBench" "tasks" "LBarnBench$Tasks;") (by decide +kernel)) (fun _ h9 => h9) rfl dX7_after_1 ?_
  refine lv_iload_n hx hb dX7_after_4 rfl (lv_at hl 1 rfl) ?_
  refine cl_i hD hS hA (va_runV (As := [.int a1]) (rest := []) ⟨hx, hb, hml, hown, hts⟩ (ct_X5_has h H.size) (cwV 1 hts gX7_after_X5_has rfl rfl rfl (by decide +kernel) ⟨Nat.le_of_ble_eq_true rfl, Nat.le_of_ble_eq_true rfl⟩) ⟨CPre.blind, va_recv hAB.1 hP (ci := 5) (q0 := 10) rfl rfl, wd_pre hAB hP hD hS hA⟩ rfl rfl hl.1 rfl (lv_room (Nat.le_of_ble_eq_true rfl)) dX7_after_5 ⟨Nat.zero_le _, Nat.zero_le _⟩) (fun r_12 u H locs h hP hD hS => ?_)
  refine lv_if_eq (tgt := 22) hx hb dX7_after_8 (by decide) (fun c_13 => ?_) (fun c_13 => ?_)
  · have h := h.1 c_13
    exact B22 bHP bRi bFi tBe aC aWh aTa aWa cC h H locs ls hP hD hS (lv_sub hl [0] rfl)
  · have h := h.2 c_13
    refine lv_aload_n hx hb dX7_after_11 rfl (lv_at hl 0 rfl) ?_
    refine va_get (D := D) (ci := 7) (C := RX7) (T := TX7) (N := 14) hx hb hts inn_X7_after_7 hown hAB.1 hP 0 rfl rfl 1 (by decide) (hts (.fieldLink RX7 19 "BarnBench" "tasks" "LBarnBench$Tasks;") (by decide +kernel)) (fun _ h9 => h9) rfl dX7_after_12 ?_
    refine lv_iload_n hx hb dX7_after_15 rfl (lv_at hl 2 rfl) ?_
    refine cl_i hD hS hA (va_runV (As := [.int a2]) (rest := []) ⟨hx, hb, hml, hown, hts⟩ (ct_X5_has h H.size) (cwV 1 hts gX7_after_X5_has rfl rfl rfl (by decide +kernel) ⟨Nat.le_of_ble_eq_true rfl, Nat.le_of_ble_eq_true rfl⟩) ⟨CPre.blind, va_recv hAB.1 hP (ci := 5) (q0 := 10) rfl rfl, wd_pre hAB hP hD hS hA⟩ rfl rfl hl.1 rfl (lv_room (Nat.le_of_ble_eq_true rfl)) dX7_after_16 ⟨Nat.zero_le _, Nat.zero_le _⟩) (fun r_14 u H locs h hP hD hS => ?_)
    refine lv_if_ne (tgt := 28) hx hb dX7_after_19 (by decide) (fun c_15 => ?_) (fun c_15 => ?_)
    · have h := h.1 c_15
      refine lv_aload_n hx hb dX7_after_28 rfl (lv_at hl 0 rfl) ?_
      refine va_get (D := D) (ci := 7) (C := RX7) (T := TX7) (N := 14) hx hb hts inn_X7_after_7 hown hAB.1 hP 0 rfl rfl 1 (by decide) (hts (.fieldLink RX7 19 "BarnBench" "tasks" "LBarnBench$Tasks;") (by decide +kernel)) (fun _ h9 => h9) rfl dX7_after_29 ?_
      refine lv_iload_n hx hb dX7_after_32 rfl (lv_at hl 1 rfl) ?_
      refine lv_iload_n hx hb dX7_after_33 rfl (lv_at hl 2 rfl) ?_
      refine cl_i hD hS hA (va_runV (As := [.int a1, .int a2]) (rest := []) ⟨hx, hb, hml, hown, hts⟩ (ct_X5_ringOf h H.size) (cwV 2 hts gX7_after_X5_ringOf rfl rfl rfl (by decide +kernel) ⟨Nat.le_of_ble_eq_true rfl, Nat.le_of_ble_eq_true rfl⟩) ⟨CPre.blind, va_recv hAB.1 hP (ci := 5) (q0 := 10) rfl rfl, wd_pre hAB hP hD hS hA⟩ rfl rfl hl.1 rfl (lv_room (Nat.le_of_ble_eq_true rfl)) dX7_after_34 ⟨Nat.zero_le _, Nat.zero_le _⟩) (fun r_16 u H locs h hP hD hS => ?_)
      refine lv_istore_n (lv' := [(3, .int r_16), (0, .ref (ad 0)), (1, .int a1), (2, .int a2)]) hx hb dX7_after_37 rfl hl (by decide) rfl (fun ls hl => ?_)
      refine lv_iload_n hx hb dX7_after_38 rfl (lv_at hl 0 rfl) ?_
      refine lv_if_eq (tgt := 54) hx hb dX7_after_39 (by decide) (fun c_17 => ?_) (fun c_17 => ?_)
      · have h := h.1 c_17
        refine lv_aload_n hx hb dX7_after_54 rfl (lv_at hl 1 rfl) ?_
        refine lv_iload_n hx hb dX7_after_55 rfl (lv_at hl 2 rfl) ?_
        refine lv_aload_n hx hb dX7_after_56 rfl (lv_at hl 1 rfl) ?_
        refine va_get (D := D) (ci := 7) (C := RX7) (T := TX7) (N := 14) hx hb hts inn_X7_after_7 hown hAB.1 hP 0 rfl rfl 1 (by decide) (hts (.fieldLink RX7 19 "BarnBench" "tasks" "LBarnBench$Tasks;") (by decide +kernel)) (fun _ h9 => h9) rfl dX7_after_57 ?_
        refine va_get (D := D) (ci := 5) (C := RX5) (T := TX5) (N := 9) hx hb hts inn_X7_after_5 hown hAB.1 hP 10 rfl rfl 8 (by decide) (hts (.fieldLink RX7 126 "BarnBench$Tasks" "before" "[I") (by decide +kernel)) (fun _ h9 => h9) rfl dX7_after_60 ?_
        refine lv_iload_n hx hb dX7_after_63 rfl (lv_at hl 2 rfl) ?_
        refine va_iald hx hb hAB.1 hP 18 0 rfl rfl h.1 dX7_after_64 ?_
        have h := h.2
        refine lv_iconst (v := 1) hx hb dX7_after_65 (by decide) ?_
        refine lv_iload_n hx hb dX7_after_66 rfl (lv_at hl 3 rfl) ?_
        refine lv_ishl hx hb dX7_after_67 ?_
        refine lv_ior hx hb dX7_after_68 ?_
        refine cl_i hD hS hA (va_runV (As := [.int a1, .int ((tBe (Int32.toNatClampNeg a1)) ||| (1 <<< (a2 &&& 31)))]) (rest := []) ⟨hx, hb, hml, hown, hts⟩ (ct_X7_changeBefore h H.size) (cwV 2 hts gX7_after_X7_changeBefore rfl rfl rfl (by decide +kernel) ⟨Nat.le_of_ble_eq_true rfl, Nat.le_of_ble_eq_true rfl⟩) ⟨CPre.blind, va_recv hAB.1 hP (ci := 7) (q0 := 0) rfl rfl, wd_pre hAB hP hD hS hA⟩ rfl rfl hl.1 rfl (lv_room (Nat.le_of_ble_eq_true rfl)) dX7_after_69 ⟨Nat.zero_le _, Nat.zero_le _⟩) (fun r_18 u H locs h hP hD hS => ?_)
        obtain ⟨bHP_19, tBe_20, aC_21, aWh_22, aTa_23, aWa_24, cC_25⟩ := u
        have hP : va_P D vwCl (WC cI cJ cE cD ad bd dd bHK bHP_19 bPF bWC bRi bBe bFi bWa dB dS dN tC tKi tEa tHa tPr tEx tSt tTo tBe_20 kC kKi kEa kHa kPr kEx kSt kTo kBe aC_21 aWh_22 aTa_23 aWa_24 iRo iEa iLa cC_25 nC nFo nQd nRo nBe nEa nMi nHa nER nMR nTh nPa nOu nFr nQu eM eL eC eS eB eE eF eG) H := hP
        have hD : va_D A (WC cI cJ cE cD ad bd dd bHK bHP_19 bPF bWC bRi bBe bFi bWa dB dS dN tC tKi tEa tHa tPr tEx tSt tTo tBe_20 kC kKi kEa kHa kPr kEx kSt kTo kBe aC_21 aWh_22 aTa_23 aWa_24 iRo iEa iLa cC_25 nC nFo nQd nRo nBe nEa nMi nHa nER nMR nTh nPa nOu nFr nQu eM eL eC eS eB eE eF eG) := hD
        exact rt_i (bHP_19, bRi, bFi, tBe_20, aC_21, aWh_22, aTa_23, aWa_24, cC_25) hQ hx hb hr hlk hP hD hS ⟨Nat.zero_le _, Nat.zero_le _⟩ dX7_after_72 h
      · have h := h.2 c_17
        refine lv_aload_n hx hb dX7_after_42 rfl (lv_at hl 1 rfl) ?_
        refine lv_iload_n hx hb dX7_after_43 rfl (lv_at hl 0 rfl) ?_
        refine fC_0_ring hx hb hAB hP hD hS hts inn_X7_after_7 hown (hts (.fieldLink RX7 123 "BarnBench" "ring" "I") (by decide +kernel)) dX7_after_44 (fun bRi_26 H locs e_27 hP hD hS => ?_)
        have h := h bRi_26 e_27
        refine lv_aload_n hx hb dX7_after_47 rfl (lv_at hl 1 rfl) ?_
        refine lv_bipush (v := (-6)) hx hb dX7_after_48 (by decide) ?_
        refine cl_i hD hS hA (va_runV (As := [.int (-6)]) (rest := []) ⟨hx, hb, hml, hown, hts⟩ (ct_X7_finding h H.size) (cwV 1 hts gX7_after_X7_finding rfl rfl rfl (by decide +kernel) ⟨Nat.le_of_ble_eq_true rfl, Nat.le_of_ble_eq_true rfl⟩) ⟨CPre.blind, va_recv hAB.1 hP (ci := 7) (q0 := 0) rfl rfl, wd_pre hAB hP hD hS hA⟩ rfl rfl hl.1 rfl (lv_room (Nat.le_of_ble_eq_true rfl)) dX7_after_50 ⟨Nat.zero_le _, Nat.zero_le _⟩) (fun r_28 bFi_29 H locs h hP hD hS => ?_)
        have hP : va_P D vwCl (WC cI cJ cE cD ad bd dd bHK bHP bPF bWC bRi_26 bBe bFi_29 bWa dB dS dN tC tKi tEa tHa tPr tEx tSt tTo tBe kC kKi kEa kHa kPr kEx kSt kTo kBe aC aWh aTa aWa iRo iEa iLa cC nC nFo nQd nRo nBe nEa nMi nHa nER nMR nTh nPa nOu nFr nQu eM eL eC eS eB eE eF eG) H := hP
        have hD : va_D A (WC cI cJ cE cD ad bd dd bHK bHP bPF bWC bRi_26 bBe bFi_29 bWa dB dS dN tC tKi tEa tHa tPr tEx tSt tTo tBe kC kKi kEa kHa kPr kEx kSt kTo kBe aC aWh aTa aWa iRo iEa iLa cC nC nFo nQd nRo nBe nEa nMi nHa nER nMR nTh nPa nOu nFr nQu eM eL eC eS eB eE eF eG) := hD
        exact rt_i (bHP, bRi_26, bFi_29, tBe, aC, aWh, aTa, aWa, cC) hQ hx hb hr hlk hP hD hS ⟨Nat.zero_le _, Nat.zero_le _⟩ dX7_after_53 h
    · have h := h.2 c_15
      exact B22 bHP bRi bFi tBe aC aWh aTa aWa cC h H locs ls hP hD hS (lv_sub hl [0] rfl)
def wp_X7_away_b22 (Qp : Int32 → (Int32) → (Int32) → (Nat → Int32) → (Int32) → (Nat → Int32) → (Nat → Int32) → (Nat → Int32) → (Int32) → Prop) (bHP_1 : Int32) (bFi_2 : Int32) (tBe_3 : Nat → Int32) (aC_4 : Int32) (aWh_5 : Nat → Int32) (aTa_6 : Nat → Int32) (aWa_7 : Nat → Int32) (cC_8 : Int32) : Prop :=
  wp_X7_finding bFi_2 (-1) (fun (r_9 : Int32) (bFi_10 : Int32) => Qp r_9 bHP_1 bFi_10 tBe_3 aC_4 aWh_5 aTa_6 aWa_7 cC_8)
def wp_X7_away (bHP : Int32) (bFi : Int32) (tC : Int32) (tBe : Nat → Int32) (aC : Int32) (aWh : Nat → Int32) (aTa : Nat → Int32) (aWa : Nat → Int32) (cC : Int32) (a1 : Int32) (a2 : Int32) (Qp : Int32 → (Int32) → (Int32) → (Nat → Int32) → (Int32) → (Nat → Int32) → (Nat → Int32) → (Nat → Int32) → (Int32) → Prop) : Prop :=
  wp_X5_has tC a1 (fun (r_11 : Int32) => ((r_11 = 0 → wp_X7_away_b22 Qp bHP bFi tBe aC aWh aTa aWa cC) ∧
   (¬ r_11 = 0 → wp_X5_has tC a2 (fun (r_13 : Int32) => ((¬ r_13 = 0 → vp_in a1 12 ∧ wp_X7_hasBit (tBe (Int32.toNatClampNeg a1)) a2 (fun (r_15 : Int32) => ((¬ r_15 = 0 → vp_in a1 12 ∧ wp_X7_changeBefore bHP tBe aC aWh aTa aWa cC a1 ((tBe (Int32.toNatClampNeg a1)) &&& ((1 <<< (a2 &&& 31)) ^^^ (-1))) (fun (r_17 : Int32) (bHP_18 : Int32) (tBe_19 : Nat → Int32) (aC_20 : Int32) (aWh_21 : Nat → Int32) (aTa_22 : Nat → Int32) (aWa_23 : Nat → Int32) (cC_24 : Int32) => Qp r_17 bHP_18 bFi tBe_19 aC_20 aWh_21 aTa_22 aWa_23 cC_24)) ∧
   (r_15 = 0 → wp_X7_finding bFi (-7) (fun (r_25 : Int32) (bFi_26 : Int32) => Qp r_25 bHP bFi_26 tBe aC aWh aTa aWa cC))))) ∧
   (r_13 = 0 → wp_X7_away_b22 Qp bHP bFi tBe aC aWh aTa aWa cC))))))
theorem inn_X7_away_5 : ∀ w ∈ u_ws RX5 TX5 9, w ∈ wsX7_away := fun _ h => List.mem_cons_of_mem _ (List.mem_append_left _ (List.mem_append_left _ (List.mem_append_right _ h)))
theorem inn_X7_away_7 : ∀ w ∈ u_ws RX7 TX7 14, w ∈ wsX7_away := fun _ h => List.mem_cons_of_mem _ (List.mem_append_left _ (List.mem_append_left _ (List.mem_append_left _ (List.mem_append_right _ h))))
def rm_X7_away : Room := { frames := 3, cells := 0, slots := 0, locals := 105 }
set_option maxHeartbeats 4000000 in
set_option maxRecDepth 100000 in
theorem ct_X7_away {l : Launch} {D : va_G} {cI cJ cZ cE cD cK : ClassId} {ad : Nat → Nat} {bd dd : Nat → Nat → Nat} {bHK : Int32} {bHP : Int32} {bPF : Int32} {bWC : Int32} {bRi : Int32} {bBe : Int32} {bFi : Int32} {bWa : Nat → Int32} {dB : Nat → Int32} {dS : Nat → Int32} {dN : Nat → Nat → Int64} {tC : Int32} {tKi : Nat → Int32} {tEa : Nat → Int32} {tHa : Nat → Int32} {tPr : Nat → Int32} {tEx : Nat → Int32} {tSt : Nat → Int32} {tTo : Nat → Int32} {tBe : Nat → Int32} {kC : Int32} {kKi : Nat → Int32} {kEa : Nat → Int32} {kHa : Nat → Int32} {kPr : Nat → Int32} {kEx : Nat → Int32} {kSt : Nat → Int32} {kTo : Nat → Int32} {kBe : Nat → Int32} {aC : Int32} {aWh : Nat → Int32} {aTa : Nat → Int32} {aWa : Nat → Int32} {iRo : Nat → Int32} {iEa : Nat → Int32} {iLa : Nat → Int32} {cC : Int32} {nC : Int32} {nFo : Int32} {nQd : Int32} {nRo : Nat → Int32} {nBe : Nat → Int32} {nEa : Nat → Int32} {nMi : Nat → Int32} {nHa : Nat → Int32} {nER : Nat → Int32} {nMR : Nat → Int32} {nTh : Nat → Int32} {nPa : Nat → Int32} {nOu : Nat → Int32} {nFr : Nat → Int32} {nQu : Nat → Int32} {eM : Nat} {eL : Nat → Int32} {eC : Nat → Int64} {eS : Nat → Int64} {eB : Nat → Nat → Int32} {eE : Nat → Nat → Int32} {eF : Nat → Nat → Int32} {eG : Nat → Nat → Int32}   {a1 : Int32} {a2 : Int32} {Qp : Int32 → (Int32) → (Int32) → (Nat → Int32) → (Int32) → (Nat → Int32) → (Nat → Int32) → (Nat → Int32) → (Int32) → Prop}   (h : wp_X7_away bHP bFi tC tBe aC aWh aTa aWa cC a1 a2 Qp) : CTi l yX7_away wsX7_away rm_X7_away D (tyL cI cJ cZ cE cD cK) [.ref (ad 0), .int a1, .int a2] (WC cI cJ cE cD ad bd dd bHK bHP bPF bWC bRi bBe bFi bWa dB dS dN tC tKi tEa tHa tPr tEx tSt tTo tBe kC kKi kEa kHa kPr kEx kSt kTo kBe aC aWh aTa aWa iRo iEa iLa cC nC nFo nQd nRo nBe nEa nMi nHa nER nMR nTh nPa nOu nFr nQu eM eL eC eS eB eE eF eG) (fun (r : Int32) (u : (Int32) × (Int32) × (Nat → Int32) × (Int32) × (Nat → Int32) × (Nat → Int32) × (Nat → Int32) × (Int32)) => Qp r u.1 u.2.1 u.2.2.1 u.2.2.2.1 u.2.2.2.2.1 u.2.2.2.2.2.1 u.2.2.2.2.2.2.1 u.2.2.2.2.2.2.2) (fun u : (Int32) × (Int32) × (Nat → Int32) × (Int32) × (Nat → Int32) × (Nat → Int32) × (Nat → Int32) × (Int32) => (WC cI cJ cE cD ad bd dd bHK u.1 bPF bWC bRi bBe u.2.1 bWa dB dS dN tC tKi tEa tHa tPr tEx tSt tTo u.2.2.1 kC kKi kEa kHa kPr kEx kSt kTo kBe u.2.2.2.1 u.2.2.2.2.1 u.2.2.2.2.2.1 u.2.2.2.2.2.2.1 iRo iEa iLa u.2.2.2.2.2.2.2 nC nFo nQd nRo nBe nEa nMi nHa nER nMR nTh nPa nOu nFr nQu eM eL eC eS eB eE eF eG)) 0 0 := by
  refine ent_i (cc := cX7_away) (maxL := 3) (ret := (some .int)) (by decide) rfl (Nat.le_of_ble_eq_true rfl) ?_
  intro p e s m args below meth c A Q hQ hx hb hr hml hown hts hlk hA hAB hP hD hS ls hl
  have hown : s.vm.findClass RX7 = some m.cls := hown
  have hl : lv_has ls 3 [(0, .ref (ad 0)), (1, .int a1), (2, .int a2)] := hl
  generalize hH : s.heap = H at hP ⊢
  have hS : va_S A s.heap H [] := by rw [← hH]; exact hS
  clear hH
  generalize ([] : List Loc) = locs at hS ⊢
  have B22 : ∀ (bHP_1 : Int32) (bFi_2 : Int32) (tBe_3 : Nat → Int32) (aC_4 : Int32) (aWh_5 : Nat → Int32) (aTa_6 : Nat → Int32) (aWa_7 : Nat → Int32) (cC_8 : Int32), wp_X7_away_b22 Qp bHP_1 bFi_2 tBe_3 aC_4 aWh_5 aTa_6 aWa_7 cC_8 → ∀ (H : Heap) (locs : List Loc) (ls : Array Slot), va_P D vwCl (WC cI cJ cE cD ad bd dd bHK bHP_1 bPF bWC bRi bBe bFi_2 bWa dB dS dN tC tKi tEa tHa tPr tEx tSt tTo tBe_3 kC kKi kEa kHa kPr kEx kSt kTo kBe aC_4 aWh_5 aTa_6 aWa_7 iRo iEa iLa cC_8 nC nFo nQd nRo nBe nEa nMi nHa nER nMR nTh nPa nOu nFr nQu eM eL eC eS eB eE eF eG) H → va_D A (WC cI cJ cE cD ad bd dd bHK bHP_1 bPF bWC bRi bBe bFi_2 bWa dB dS dN tC tKi tEa tHa tPr tEx tSt tTo tBe_3 kC kKi kEa kHa kPr kEx kSt kTo kBe aC_4 aWh_5 aTa_6 aWa_7 iRo iEa iLa cC_8 nC nFo nQd nRo nBe nEa nMi nHa nER nMR nTh nPa nOu nFr nQu eM eL eC eS eB eE eF eG) → va_S A s.heap H locs → lv_has ls 3 [(0, .ref (ad 0))] → W p l e (headSpec wsX7_away rm_X7_away).room s m args below meth c H locs 0 0 Q (F0 m 22 ls []) := by
    intro bHP_1 bFi_2 tBe_3 aC_4 aWh_5 aTa_6 aWa_7 cC_8 h H locs ls hP hD hS hl
    refine lv_aload_n hx hb dX7_away_22 rfl (lv_at hl 0 rfl) ?_
    refine lv_iconst (v := (-1)) hx hb dX7_away_23 (by decide) ?_
    refine cl_i hD hS hA (va_runV (As := [.int (-1)]) (rest := []) ⟨hx, hb, hml, hown, hts⟩ (ct_X7_finding h H.size) (cwV 1 hts gX7_away_X7_finding rfl rfl rfl (by decide +kernel) ⟨Nat.le_of_ble_eq_true rfl, Nat.le_of_ble_eq_true rfl⟩) ⟨CPre.blind, va_recv hAB.1 hP (ci := 7) (q0 := 0) rfl rfl, wd_pre hAB hP hD hS hA⟩ rfl rfl hl.1 rfl (lv_room (Nat.le_of_ble_eq_true rfl)) dX7_away_24 ⟨Nat.zero_le _, Nat.zero_le _⟩) (fun r_9 bFi_10 H locs h hP hD hS => ?_)
    have hP : va_P D vwCl (WC cI cJ cE cD ad bd dd bHK bHP_1 bPF bWC bRi bBe bFi_10 bWa dB dS dN tC tKi tEa tHa tPr tEx tSt tTo tBe_3 kC kKi kEa kHa kPr kEx kSt kTo kBe aC_4 aWh_5 aTa_6 aWa_7 iRo iEa iLa cC_8 nC nFo nQd nRo nBe nEa nMi nHa nER nMR nTh nPa nOu nFr nQu eM eL eC eS eB eE eF eG) H := hP
    have hD : va_D A (WC cI cJ cE cD ad bd dd bHK bHP_1 bPF bWC bRi bBe bFi_10 bWa dB dS dN tC tKi tEa tHa tPr tEx tSt tTo tBe_3 kC kKi kEa kHa kPr kEx kSt kTo kBe aC_4 aWh_5 aTa_6 aWa_7 iRo iEa iLa cC_8 nC nFo nQd nRo nBe nEa nMi nHa nER nMR nTh nPa nOu nFr nQu eM eL eC eS eB eE eF eG) := hD
    exact rt_i (bHP_1, bFi_10, tBe_3, aC_4, aWh_5, aTa_6, aWa_7, cC_8) hQ hx hb hr hlk hP hD hS ⟨Nat.zero_le _, Nat.zero_le _⟩ dX7_away_27 h
  refine lv_aload_n hx hb dX7_away_0 rfl (lv_at hl 0 rfl) ?_
  refine va_get (D := D) (ci := 7) (C := RX7) (T := TX7) (N := 14) hx hb hts inn_X7_away_7 hown hAB.1 hP 0 rfl rfl 1 (by decide) (hts (.fieldLink RX7 19 "BarnBench" "tasks" "LBarnBench$Tasks;") (by decide +kernel)) (fun _ h9 => h9) rfl dX7_away_1 ?_
  refine lv_iload_n hx hb dX7_away_4 rfl (lv_at hl 1 rfl) ?_
  refine cl_i hD hS hA (va_runV (As := [.int a1]) (rest := []) ⟨hx, hb, hml, hown, hts⟩ (ct_X5_has h H.size) (cwV 1 hts gX7_away_X5_has rfl rfl rfl (by decide +kernel) ⟨Nat.le_of_ble_eq_true rfl, Nat.le_of_ble_eq_true rfl⟩) ⟨CPre.blind, va_recv hAB.1 hP (ci := 5) (q0 := 10) rfl rfl, wd_pre hAB hP hD hS hA⟩ rfl rfl hl.1 rfl (lv_room (Nat.le_of_ble_eq_true rfl)) dX7_away_5 ⟨Nat.zero_le _, Nat.zero_le _⟩) (fun r_11 u H locs h hP hD hS => ?_)
  refine lv_if_eq (tgt := 22) hx hb dX7_away_8 (by decide) (fun c_12 => ?_) (fun c_12 => ?_)
  · have h := h.1 c_12
    exact B22 bHP bFi tBe aC aWh aTa aWa cC h H locs ls hP hD hS (lv_sub hl [0] rfl)
  · have h := h.2 c_12
    refine lv_aload_n hx hb dX7_away_11 rfl (lv_at hl 0 rfl) ?_
    refine va_get (D := D) (ci := 7) (C := RX7) (T := TX7) (N := 14) hx hb hts inn_X7_away_7 hown hAB.1 hP 0 rfl rfl 1 (by decide) (hts (.fieldLink RX7 19 "BarnBench" "tasks" "LBarnBench$Tasks;") (by decide +kernel)) (fun _ h9 => h9) rfl dX7_away_12 ?_
    refine lv_iload_n hx hb dX7_away_15 rfl (lv_at hl 2 rfl) ?_
    refine cl_i hD hS hA (va_runV (As := [.int a2]) (rest := []) ⟨hx, hb, hml, hown, hts⟩ (ct_X5_has h H.size) (cwV 1 hts gX7_away_X5_has rfl rfl rfl (by decide +kernel) ⟨Nat.le_of_ble_eq_true rfl, Nat.le_of_ble_eq_true rfl⟩) ⟨CPre.blind, va_recv hAB.1 hP (ci := 5) (q0 := 10) rfl rfl, wd_pre hAB hP hD hS hA⟩ rfl rfl hl.1 rfl (lv_room (Nat.le_of_ble_eq_true rfl)) dX7_away_16 ⟨Nat.zero_le _, Nat.zero_le _⟩) (fun r_13 u H locs h hP hD hS => ?_)
    refine lv_if_ne (tgt := 28) hx hb dX7_away_19 (by decide) (fun c_14 => ?_) (fun c_14 => ?_)
    · have h := h.1 c_14
      refine lv_aload_n hx hb dX7_away_28 rfl (lv_at hl 0 rfl) ?_
      refine va_get (D := D) (ci := 7) (C := RX7) (T := TX7) (N := 14) hx hb hts inn_X7_away_7 hown hAB.1 hP 0 rfl rfl 1 (by decide) (hts (.fieldLink RX7 19 "BarnBench" "tasks" "LBarnBench$Tasks;") (by decide +kernel)) (fun _ h9 => h9) rfl dX7_away_29 ?_
      refine va_get (D := D) (ci := 5) (C := RX5) (T := TX5) (N := 9) hx hb hts inn_X7_away_5 hown hAB.1 hP 10 rfl rfl 8 (by decide) (hts (.fieldLink RX7 126 "BarnBench$Tasks" "before" "[I") (by decide +kernel)) (fun _ h9 => h9) rfl dX7_away_32 ?_
      refine lv_iload_n hx hb dX7_away_35 rfl (lv_at hl 1 rfl) ?_
      refine va_iald hx hb hAB.1 hP 18 0 rfl rfl h.1 dX7_away_36 ?_
      have h := h.2
      refine lv_iload_n hx hb dX7_away_37 rfl (lv_at hl 2 rfl) ?_
      refine cl_i hD hS hA (va_runS (As := [.int (tBe (Int32.toNatClampNeg a1)), .int a2]) (rest := []) ⟨hx, hb, hml, hown, hts⟩ (ct_X7_hasBit h H.size) (va_cwS 2 hts gX7_away_X7_hasBit rfl rfl rfl (by decide +kernel) ⟨Nat.le_of_ble_eq_true rfl, Nat.le_of_ble_eq_true rfl⟩) ⟨CPre.blind, wd_pre hAB hP hD hS hA⟩ rfl rfl hl.1 rfl (lv_room (Nat.le_of_ble_eq_true rfl)) dX7_away_38 ⟨Nat.zero_le _, Nat.zero_le _⟩) (fun r_15 u H locs h hP hD hS => ?_)
      refine lv_if_ne (tgt := 51) hx hb dX7_away_41 (by decide) (fun c_16 => ?_) (fun c_16 => ?_)
      · have h := h.1 c_16
        refine lv_aload_n hx hb dX7_away_51 rfl (lv_at hl 0 rfl) ?_
        refine lv_iload_n hx hb dX7_away_52 rfl (lv_at hl 1 rfl) ?_
        refine lv_aload_n hx hb dX7_away_53 rfl (lv_at hl 0 rfl) ?_
        refine va_get (D := D) (ci := 7) (C := RX7) (T := TX7) (N := 14) hx hb hts inn_X7_away_7 hown hAB.1 hP 0 rfl rfl 1 (by decide) (hts (.fieldLink RX7 19 "BarnBench" "tasks" "LBarnBench$Tasks;") (by decide +kernel)) (fun _ h9 => h9) rfl dX7_away_54 ?_
        refine va_get (D := D) (ci := 5) (C := RX5) (T := TX5) (N := 9) hx hb hts inn_X7_away_5 hown hAB.1 hP 10 rfl rfl 8 (by decide) (hts (.fieldLink RX7 126 "BarnBench$Tasks" "before" "[I") (by decide +kernel)) (fun _ h9 => h9) rfl dX7_away_57 ?_
        refine lv_iload_n hx hb dX7_away_60 rfl (lv_at hl 1 rfl) ?_
        refine va_iald hx hb hAB.1 hP 18 0 rfl rfl h.1 dX7_away_61 ?_
        have h := h.2
        refine lv_iconst (v := 1) hx hb dX7_away_62 (by decide) ?_
        refine lv_iload_n hx hb dX7_away_63 rfl (lv_at hl 2 rfl) ?_
        refine lv_ishl hx hb dX7_away_64 ?_
        refine lv_iconst (v := (-1)) hx hb dX7_away_65 (by decide) ?_
        refine lv_ixor hx hb dX7_away_66 ?_
        refine lv_iand hx hb dX7_away_67 ?_
        refine cl_i hD hS hA (va_runV (As := [.int a1, .int ((tBe (Int32.toNatClampNeg a1)) &&& ((1 <<< (a2 &&& 31)) ^^^ (-1)))]) (rest := []) ⟨hx, hb, hml, hown, hts⟩ (ct_X7_changeBefore h H.size) (cwV 2 hts gX7_away_X7_changeBefore rfl rfl rfl (by decide +kernel) ⟨Nat.le_of_ble_eq_true rfl, Nat.le_of_ble_eq_true rfl⟩) ⟨CPre.blind, va_recv hAB.1 hP (ci := 7) (q0 := 0) rfl rfl, wd_pre hAB hP hD hS hA⟩ rfl rfl hl.1 rfl (lv_room (Nat.le_of_ble_eq_true rfl)) dX7_away_68 ⟨Nat.zero_le _, Nat.zero_le _⟩) (fun r_17 u H locs h hP hD hS => ?_)
        obtain ⟨bHP_18, tBe_19, aC_20, aWh_21, aTa_22, aWa_23, cC_24⟩ := u
        have hP : va_P D vwCl (WC cI cJ cE cD ad bd dd bHK bHP_18 bPF bWC bRi bBe bFi bWa dB dS dN tC tKi tEa tHa tPr tEx tSt tTo tBe_19 kC kKi kEa kHa kPr kEx kSt kTo kBe aC_20 aWh_21 aTa_22 aWa_23 iRo iEa iLa cC_24 nC nFo nQd nRo nBe nEa nMi nHa nER nMR nTh nPa nOu nFr nQu eM eL eC eS eB eE eF eG) H := hP
        have hD : va_D A (WC cI cJ cE cD ad bd dd bHK bHP_18 bPF bWC bRi bBe bFi bWa dB dS dN tC tKi tEa tHa tPr tEx tSt tTo tBe_19 kC kKi kEa kHa kPr kEx kSt kTo kBe aC_20 aWh_21 aTa_22 aWa_23 iRo iEa iLa cC_24 nC nFo nQd nRo nBe nEa nMi nHa nER nMR nTh nPa nOu nFr nQu eM eL eC eS eB eE eF eG) := hD
        exact rt_i (bHP_18, bFi, tBe_19, aC_20, aWh_21, aTa_22, aWa_23, cC_24) hQ hx hb hr hlk hP hD hS ⟨Nat.zero_le _, Nat.zero_le _⟩ dX7_away_71 h
      · have h := h.2 c_16
        refine lv_aload_n hx hb dX7_away_44 rfl (lv_at hl 0 rfl) ?_
        refine lv_bipush (v := (-7)) hx hb dX7_away_45 (by decide) ?_
        refine cl_i hD hS hA (va_runV (As := [.int (-7)]) (rest := []) ⟨hx, hb, hml, hown, hts⟩ (ct_X7_finding h H.size) (cwV 1 hts gX7_away_X7_finding rfl rfl rfl (by decide +kernel) ⟨Nat.le_of_ble_eq_true rfl, Nat.le_of_ble_eq_true rfl⟩) ⟨CPre.blind, va_recv hAB.1 hP (ci := 7) (q0 := 0) rfl rfl, wd_pre hAB hP hD hS hA⟩ rfl rfl hl.1 rfl (lv_room (Nat.le_of_ble_eq_true rfl)) dX7_away_47 ⟨Nat.zero_le _, Nat.zero_le _⟩) (fun r_25 bFi_26 H locs h hP hD hS => ?_)
        have hP : va_P D vwCl (WC cI cJ cE cD ad bd dd bHK bHP bPF bWC bRi bBe bFi_26 bWa dB dS dN tC tKi tEa tHa tPr tEx tSt tTo tBe kC kKi kEa kHa kPr kEx kSt kTo kBe aC aWh aTa aWa iRo iEa iLa cC nC nFo nQd nRo nBe nEa nMi nHa nER nMR nTh nPa nOu nFr nQu eM eL eC eS eB eE eF eG) H := hP
        have hD : va_D A (WC cI cJ cE cD ad bd dd bHK bHP bPF bWC bRi bBe bFi_26 bWa dB dS dN tC tKi tEa tHa tPr tEx tSt tTo tBe kC kKi kEa kHa kPr kEx kSt kTo kBe aC aWh aTa aWa iRo iEa iLa cC nC nFo nQd nRo nBe nEa nMi nHa nER nMR nTh nPa nOu nFr nQu eM eL eC eS eB eE eF eG) := hD
        exact rt_i (bHP, bFi_26, tBe, aC, aWh, aTa, aWa, cC) hQ hx hb hr hlk hP hD hS ⟨Nat.zero_le _, Nat.zero_le _⟩ dX7_away_50 h
    · have h := h.2 c_14
      exact B22 bHP bFi tBe aC aWh aTa aWa cC h H locs ls hP hD hS (lv_sub hl [0] rfl)
def wp_X7_as_b18 (Qp : Int32 → (Int32) → Prop) (bFi_1 : Int32) : Prop :=
  wp_X7_finding bFi_1 (-1) (fun (r_2 : Int32) (bFi_3 : Int32) => Qp r_2 bFi_3)
def wp_X7_as (bFi : Int32) (tC : Int32) (tKi : Nat → Int32) (a1 : Int32) (a2 : Int32) (Qp : Int32 → (Int32) → Prop) : Prop :=
  wp_X5_has tC a1 (fun (r_4 : Int32) => ((r_4 = 0 → wp_X7_as_b18 Qp bFi) ∧
   (¬ r_4 = 0 → wp_X7_isKind a2 (fun (r_6 : Int32) => ((¬ r_6 = 0 → vp_in a1 12 ∧ wp_X7_isUnder (tKi (Int32.toNatClampNeg a1)) a2 (fun (r_8 : Int32) => ((r_8 = 0 → wp_X7_finding bFi (-4) (fun (r_10 : Int32) (bFi_11 : Int32) => Qp r_10 bFi_11)) ∧
   (¬ r_8 = 0 → Qp a1 bFi)))) ∧
   (r_6 = 0 → wp_X7_as_b18 Qp bFi))))))
theorem inn_X7_as_5 : ∀ w ∈ u_ws RX5 TX5 9, w ∈ wsX7_as := fun _ h => List.mem_cons_of_mem _ (List.mem_append_right _ h)
theorem inn_X7_as_7 : ∀ w ∈ u_ws RX7 TX7 14, w ∈ wsX7_as := fun _ h => List.mem_cons_of_mem _ (List.mem_append_left _ (List.mem_append_right _ h))
def rm_X7_as : Room := { frames := 2, cells := 0, slots := 0, locals := 43 }
set_option maxHeartbeats 4000000 in
set_option maxRecDepth 100000 in
theorem ct_X7_as {l : Launch} {D : va_G} {cI cJ cZ cE cD cK : ClassId} {ad : Nat → Nat} {bd dd : Nat → Nat → Nat} {bHK : Int32} {bHP : Int32} {bPF : Int32} {bWC : Int32} {bRi : Int32} {bBe : Int32} {bFi : Int32} {bWa : Nat → Int32} {dB : Nat → Int32} {dS : Nat → Int32} {dN : Nat → Nat → Int64} {tC : Int32} {tKi : Nat → Int32} {tEa : Nat → Int32} {tHa : Nat → Int32} {tPr : Nat → Int32} {tEx : Nat → Int32} {tSt : Nat → Int32} {tTo : Nat → Int32} {tBe : Nat → Int32} {kC : Int32} {kKi : Nat → Int32} {kEa : Nat → Int32} {kHa : Nat → Int32} {kPr : Nat → Int32} {kEx : Nat → Int32} {kSt : Nat → Int32} {kTo : Nat → Int32} {kBe : Nat → Int32} {aC : Int32} {aWh : Nat → Int32} {aTa : Nat → Int32} {aWa : Nat → Int32} {iRo : Nat → Int32} {iEa : Nat → Int32} {iLa : Nat → Int32} {cC : Int32} {nC : Int32} {nFo : Int32} {nQd : Int32} {nRo : Nat → Int32} {nBe : Nat → Int32} {nEa : Nat → Int32} {nMi : Nat → Int32} {nHa : Nat → Int32} {nER : Nat → Int32} {nMR : Nat → Int32} {nTh : Nat → Int32} {nPa : Nat → Int32} {nOu : Nat → Int32} {nFr : Nat → Int32} {nQu : Nat → Int32} {eM : Nat} {eL : Nat → Int32} {eC : Nat → Int64} {eS : Nat → Int64} {eB : Nat → Nat → Int32} {eE : Nat → Nat → Int32} {eF : Nat → Nat → Int32} {eG : Nat → Nat → Int32}   {a1 : Int32} {a2 : Int32} {Qp : Int32 → (Int32) → Prop}   (h : wp_X7_as bFi tC tKi a1 a2 Qp) : CTi l yX7_as wsX7_as rm_X7_as D (tyL cI cJ cZ cE cD cK) [.ref (ad 0), .int a1, .int a2] (WC cI cJ cE cD ad bd dd bHK bHP bPF bWC bRi bBe bFi bWa dB dS dN tC tKi tEa tHa tPr tEx tSt tTo tBe kC kKi kEa kHa kPr kEx kSt kTo kBe aC aWh aTa aWa iRo iEa iLa cC nC nFo nQd nRo nBe nEa nMi nHa nER nMR nTh nPa nOu nFr nQu eM eL eC eS eB eE eF eG) (fun (r : Int32) (u : (Int32)) => Qp r u) (fun u : (Int32) => (WC cI cJ cE cD ad bd dd bHK bHP bPF bWC bRi bBe u bWa dB dS dN tC tKi tEa tHa tPr tEx tSt tTo tBe kC kKi kEa kHa kPr kEx kSt kTo kBe aC aWh aTa aWa iRo iEa iLa cC nC nFo nQd nRo nBe nEa nMi nHa nER nMR nTh nPa nOu nFr nQu eM eL eC eS eB eE eF eG)) 0 0 := by
  refine ent_i (cc := cX7_as) (maxL := 3) (ret := (some .int)) (by decide) rfl (Nat.le_of_ble_eq_true rfl) ?_
  intro p e s m args below meth c A Q hQ hx hb hr hml hown hts hlk hA hAB hP hD hS ls hl
  have hown : s.vm.findClass RX7 = some m.cls := hown
  have hl : lv_has ls 3 [(0, .ref (ad 0)), (1, .int a1), (2, .int a2)] := hl
  generalize hH : s.heap = H at hP ⊢
  have hS : va_S A s.heap H [] := by rw [← hH]; exact hS
  clear hH
  generalize ([] : List Loc) = locs at hS ⊢
  have B18 : ∀ (bFi_1 : Int32), wp_X7_as_b18 Qp bFi_1 → ∀ (H : Heap) (locs : List Loc) (ls : Array Slot), va_P D vwCl (WC cI cJ cE cD ad bd dd bHK bHP bPF bWC bRi bBe bFi_1 bWa dB dS dN tC tKi tEa tHa tPr tEx tSt tTo tBe kC kKi kEa kHa kPr kEx kSt kTo kBe aC aWh aTa aWa iRo iEa iLa cC nC nFo nQd nRo nBe nEa nMi nHa nER nMR nTh nPa nOu nFr nQu eM eL eC eS eB eE eF eG) H → va_D A (WC cI cJ cE cD ad bd dd bHK bHP bPF bWC bRi bBe bFi_1 bWa dB dS dN tC tKi tEa tHa tPr tEx tSt tTo tBe kC kKi kEa kHa kPr kEx kSt kTo kBe aC aWh aTa aWa iRo iEa iLa cC nC nFo nQd nRo nBe nEa nMi nHa nER nMR nTh nPa nOu nFr nQu eM eL eC eS eB eE eF eG) → va_S A s.heap H locs → lv_has ls 3 [(0, .ref (ad 0))] → W p l e (headSpec wsX7_as rm_X7_as).room s m args below meth c H locs 0 0 Q (F0 m 18 ls []) := by
    intro bFi_1 h H locs ls hP hD hS hl
    refine lv_aload_n hx hb dX7_as_18 rfl (lv_at hl 0 rfl) ?_
    refine lv_iconst (v := (-1)) hx hb dX7_as_19 (by decide) ?_
    refine cl_i hD hS hA (va_runV (As := [.int (-1)]) (rest := []) ⟨hx, hb, hml, hown, hts⟩ (ct_X7_finding h H.size) (cwV 1 hts gX7_as_X7_finding rfl rfl rfl (by decide +kernel) ⟨Nat.le_of_ble_eq_true rfl, Nat.le_of_ble_eq_true rfl⟩) ⟨CPre.blind, va_recv hAB.1 hP (ci := 7) (q0 := 0) rfl rfl, wd_pre hAB hP hD hS hA⟩ rfl rfl hl.1 rfl (lv_room (Nat.le_of_ble_eq_true rfl)) dX7_as_20 ⟨Nat.zero_le _, Nat.zero_le _⟩) (fun r_2 bFi_3 H locs h hP hD hS => ?_)
    have hP : va_P D vwCl (WC cI cJ cE cD ad bd dd bHK bHP bPF bWC bRi bBe bFi_3 bWa dB dS dN tC tKi tEa tHa tPr tEx tSt tTo tBe kC kKi kEa kHa kPr kEx kSt kTo kBe aC aWh aTa aWa iRo iEa iLa cC nC nFo nQd nRo nBe nEa nMi nHa nER nMR nTh nPa nOu nFr nQu eM eL eC eS eB eE eF eG) H := hP
    have hD : va_D A (WC cI cJ cE cD ad bd dd bHK bHP bPF bWC bRi bBe bFi_3 bWa dB dS dN tC tKi tEa tHa tPr tEx tSt tTo tBe kC kKi kEa kHa kPr kEx kSt kTo kBe aC aWh aTa aWa iRo iEa iLa cC nC nFo nQd nRo nBe nEa nMi nHa nER nMR nTh nPa nOu nFr nQu eM eL eC eS eB eE eF eG) := hD
    exact rt_i (bFi_3) hQ hx hb hr hlk hP hD hS ⟨Nat.zero_le _, Nat.zero_le _⟩ dX7_as_23 h
  refine lv_aload_n hx hb dX7_as_0 rfl (lv_at hl 0 rfl) ?_
  refine va_get (D := D) (ci := 7) (C := RX7) (T := TX7) (N := 14) hx hb hts inn_X7_as_7 hown hAB.1 hP 0 rfl rfl 1 (by decide) (hts (.fieldLink RX7 19 "BarnBench" "tasks" "LBarnBench$Tasks;") (by decide +kernel)) (fun _ h9 => h9) rfl dX7_as_1 ?_
  refine lv_iload_n hx hb dX7_as_4 rfl (lv_at hl 1 rfl) ?_
  refine cl_i hD hS hA (va_runV (As := [.int a1]) (rest := []) ⟨hx, hb, hml, hown, hts⟩ (ct_X5_has h H.size) (cwV 1 hts gX7_as_X5_has rfl rfl rfl (by decide +kernel) ⟨Nat.le_of_ble_eq_true rfl, Nat.le_of_ble_eq_true rfl⟩) ⟨CPre.blind, va_recv hAB.1 hP (ci := 5) (q0 := 10) rfl rfl, wd_pre hAB hP hD hS hA⟩ rfl rfl hl.1 rfl (lv_room (Nat.le_of_ble_eq_true rfl)) dX7_as_5 ⟨Nat.zero_le _, Nat.zero_le _⟩) (fun r_4 u H locs h hP hD hS => ?_)
  refine lv_if_eq (tgt := 18) hx hb dX7_as_8 (by decide) (fun c_5 => ?_) (fun c_5 => ?_)
  · have h := h.1 c_5
    exact B18 bFi h H locs ls hP hD hS (lv_sub hl [0] rfl)
  · have h := h.2 c_5
    refine lv_iload_n hx hb dX7_as_11 rfl (lv_at hl 2 rfl) ?_
    refine cl_i hD hS hA (va_runS (As := [.int a2]) (rest := []) ⟨hx, hb, hml, hown, hts⟩ (ct_X7_isKind h H.size) (va_cwS 1 hts gX7_as_X7_isKind rfl rfl rfl (by decide +kernel) ⟨Nat.le_of_ble_eq_true rfl, Nat.le_of_ble_eq_true rfl⟩) ⟨CPre.blind, wd_pre hAB hP hD hS hA⟩ rfl rfl hl.1 rfl (lv_room (Nat.le_of_ble_eq_true rfl)) dX7_as_12 ⟨Nat.zero_le _, Nat.zero_le _⟩) (fun r_6 u H locs h hP hD hS => ?_)
    refine lv_if_ne (tgt := 24) hx hb dX7_as_15 (by decide) (fun c_7 => ?_) (fun c_7 => ?_)
    · have h := h.1 c_7
      refine lv_aload_n hx hb dX7_as_24 rfl (lv_at hl 0 rfl) ?_
      refine va_get (D := D) (ci := 7) (C := RX7) (T := TX7) (N := 14) hx hb hts inn_X7_as_7 hown hAB.1 hP 0 rfl rfl 1 (by decide) (hts (.fieldLink RX7 19 "BarnBench" "tasks" "LBarnBench$Tasks;") (by decide +kernel)) (fun _ h9 => h9) rfl dX7_as_25 ?_
      refine va_get (D := D) (ci := 5) (C := RX5) (T := TX5) (N := 9) hx hb hts inn_X7_as_5 hown hAB.1 hP 10 rfl rfl 1 (by decide) (hts (.fieldLink RX7 135 "BarnBench$Tasks" "kind" "[I") (by decide +kernel)) (fun _ h9 => h9) rfl dX7_as_28 ?_
      refine lv_iload_n hx hb dX7_as_31 rfl (lv_at hl 1 rfl) ?_
      refine va_iald hx hb hAB.1 hP 11 0 rfl rfl h.1 dX7_as_32 ?_
      have h := h.2
      refine lv_iload_n hx hb dX7_as_33 rfl (lv_at hl 2 rfl) ?_
      refine cl_i hD hS hA (va_runS (As := [.int (tKi (Int32.toNatClampNeg a1)), .int a2]) (rest := []) ⟨hx, hb, hml, hown, hts⟩ (ct_X7_isUnder h H.size) (va_cwS 2 hts gX7_as_X7_isUnder rfl rfl rfl (by decide +kernel) ⟨Nat.le_of_ble_eq_true rfl, Nat.le_of_ble_eq_true rfl⟩) ⟨CPre.blind, wd_pre hAB hP hD hS hA⟩ rfl rfl hl.1 rfl (lv_room (Nat.le_of_ble_eq_true rfl)) dX7_as_34 ⟨Nat.zero_le _, Nat.zero_le _⟩) (fun r_8 u H locs h hP hD hS => ?_)
      refine lv_if_eq (tgt := 44) hx hb dX7_as_37 (by decide) (fun c_9 => ?_) (fun c_9 => ?_)
      · have h := h.1 c_9
        refine lv_aload_n hx hb dX7_as_44 rfl (lv_at hl 0 rfl) ?_
        refine lv_bipush (v := (-4)) hx hb dX7_as_45 (by decide) ?_
        refine cl_i hD hS hA (va_runV (As := [.int (-4)]) (rest := []) ⟨hx, hb, hml, hown, hts⟩ (ct_X7_finding h H.size) (cwV 1 hts gX7_as_X7_finding rfl rfl rfl (by decide +kernel) ⟨Nat.le_of_ble_eq_true rfl, Nat.le_of_ble_eq_true rfl⟩) ⟨CPre.blind, va_recv hAB.1 hP (ci := 7) (q0 := 0) rfl rfl, wd_pre hAB hP hD hS hA⟩ rfl rfl hl.1 rfl (lv_room (Nat.le_of_ble_eq_true rfl)) dX7_as_47 ⟨Nat.zero_le _, Nat.zero_le _⟩) (fun r_10 bFi_11 H locs h hP hD hS => ?_)
        have hP : va_P D vwCl (WC cI cJ cE cD ad bd dd bHK bHP bPF bWC bRi bBe bFi_11 bWa dB dS dN tC tKi tEa tHa tPr tEx tSt tTo tBe kC kKi kEa kHa kPr kEx kSt kTo kBe aC aWh aTa aWa iRo iEa iLa cC nC nFo nQd nRo nBe nEa nMi nHa nER nMR nTh nPa nOu nFr nQu eM eL eC eS eB eE eF eG) H := hP
        have hD : va_D A (WC cI cJ cE cD ad bd dd bHK bHP bPF bWC bRi bBe bFi_11 bWa dB dS dN tC tKi tEa tHa tPr tEx tSt tTo tBe kC kKi kEa kHa kPr kEx kSt kTo kBe aC aWh aTa aWa iRo iEa iLa cC nC nFo nQd nRo nBe nEa nMi nHa nER nMR nTh nPa nOu nFr nQu eM eL eC eS eB eE eF eG) := hD
        exact rt_i (bFi_11) hQ hx hb hr hlk hP hD hS ⟨Nat.zero_le _, Nat.zero_le _⟩ dX7_as_50 h
      · have h := h.2 c_9
        refine lv_iload_n hx hb dX7_as_40 rfl (lv_at hl 1 rfl) ?_
        refine lv_goto (tgt := 50) hx hb dX7_as_41 (by decide) ?_
        exact rt_i (bFi) hQ hx hb hr hlk hP hD hS ⟨Nat.zero_le _, Nat.zero_le _⟩ dX7_as_50 h
    · have h := h.2 c_7
      exact B18 bFi h H locs ls hP hD hS (lv_sub hl [0] rfl)
def wp_X7_ask (bFi : Int32) (tC : Int32) (tKi : Nat → Int32) (tEa : Nat → Int32) (tHa : Nat → Int32) (tPr : Nat → Int32) (tEx : Nat → Int32) (tSt : Nat → Int32) (a1 : Int32) (a2 : Int32) (Qp : Int32 → (Int32) → Prop) : Prop :=
  wp_X5_has tC a1 (fun (r_1 : Int32) => ((¬ r_1 = 0 → ((a2 = 0 → vp_in a1 12 ∧ Qp (tKi (Int32.toNatClampNeg a1)) bFi) ∧
   (¬ a2 = 0 → ((a2 = 1 → vp_in a1 12 ∧ Qp (tEa (Int32.toNatClampNeg a1)) bFi) ∧
   (¬ a2 = 1 → ((a2 = 2 → vp_in a1 12 ∧ Qp (tHa (Int32.toNatClampNeg a1)) bFi) ∧
   (¬ a2 = 2 → ((a2 = 3 → vp_in a1 12 ∧ Qp (tPr (Int32.toNatClampNeg a1)) bFi) ∧
   (¬ a2 = 3 → ((a2 = 4 → vp_in a1 12 ∧ Qp (tEx (Int32.toNatClampNeg a1)) bFi) ∧
   (¬ a2 = 4 → ((a2 = 5 → vp_in a1 12 ∧ Qp (tSt (Int32.toNatClampNeg a1)) bFi) ∧
   (¬ a2 = 5 → wp_X7_finding bFi (-1) (fun (r_9 : Int32) (bFi_10 : Int32) => Qp r_9 bFi_10)))))))))))))) ∧
   (r_1 = 0 → wp_X7_finding bFi (-1) (fun (r_11 : Int32) (bFi_12 : Int32) => Qp r_11 bFi_12))))
theorem inn_X7_ask_5 : ∀ w ∈ u_ws RX5 TX5 9, w ∈ wsX7_ask := fun _ h => List.mem_cons_of_mem _ (List.mem_append_right _ h)
theorem inn_X7_ask_7 : ∀ w ∈ u_ws RX7 TX7 14, w ∈ wsX7_ask := fun _ h => List.mem_cons_of_mem _ (List.mem_append_left _ (List.mem_append_right _ h))
def rm_X7_ask : Room := { frames := 1, cells := 0, slots := 0, locals := 21 }
set_option maxHeartbeats 4000000 in
set_option maxRecDepth 100000 in
theorem ct_X7_ask {l : Launch} {D : va_G} {cI cJ cZ cE cD cK : ClassId} {ad : Nat → Nat} {bd dd : Nat → Nat → Nat} {bHK : Int32} {bHP : Int32} {bPF : Int32} {bWC : Int32} {bRi : Int32} {bBe : Int32} {bFi : Int32} {bWa : Nat → Int32} {dB : Nat → Int32} {dS : Nat → Int32} {dN : Nat → Nat → Int64} {tC : Int32} {tKi : Nat → Int32} {tEa : Nat → Int32} {tHa : Nat → Int32} {tPr : Nat → Int32} {tEx : Nat → Int32} {tSt : Nat → Int32} {tTo : Nat → Int32} {tBe : Nat → Int32} {kC : Int32} {kKi : Nat → Int32} {kEa : Nat → Int32} {kHa : Nat → Int32} {kPr : Nat → Int32} {kEx : Nat → Int32} {kSt : Nat → Int32} {kTo : Nat → Int32} {kBe : Nat → Int32} {aC : Int32} {aWh : Nat → Int32} {aTa : Nat → Int32} {aWa : Nat → Int32} {iRo : Nat → Int32} {iEa : Nat → Int32} {iLa : Nat → Int32} {cC : Int32} {nC : Int32} {nFo : Int32} {nQd : Int32} {nRo : Nat → Int32} {nBe : Nat → Int32} {nEa : Nat → Int32} {nMi : Nat → Int32} {nHa : Nat → Int32} {nER : Nat → Int32} {nMR : Nat → Int32} {nTh : Nat → Int32} {nPa : Nat → Int32} {nOu : Nat → Int32} {nFr : Nat → Int32} {nQu : Nat → Int32} {eM : Nat} {eL : Nat → Int32} {eC : Nat → Int64} {eS : Nat → Int64} {eB : Nat → Nat → Int32} {eE : Nat → Nat → Int32} {eF : Nat → Nat → Int32} {eG : Nat → Nat → Int32}   {a1 : Int32} {a2 : Int32} {Qp : Int32 → (Int32) → Prop}   (h : wp_X7_ask bFi tC tKi tEa tHa tPr tEx tSt a1 a2 Qp) : CTi l yX7_ask wsX7_ask rm_X7_ask D (tyL cI cJ cZ cE cD cK) [.ref (ad 0), .int a1, .int a2] (WC cI cJ cE cD ad bd dd bHK bHP bPF bWC bRi bBe bFi bWa dB dS dN tC tKi tEa tHa tPr tEx tSt tTo tBe kC kKi kEa kHa kPr kEx kSt kTo kBe aC aWh aTa aWa iRo iEa iLa cC nC nFo nQd nRo nBe nEa nMi nHa nER nMR nTh nPa nOu nFr nQu eM eL eC eS eB eE eF eG) (fun (r : Int32) (u : (Int32)) => Qp r u) (fun u : (Int32) => (WC cI cJ cE cD ad bd dd bHK bHP bPF bWC bRi bBe u bWa dB dS dN tC tKi tEa tHa tPr tEx tSt tTo tBe kC kKi kEa kHa kPr kEx kSt kTo kBe aC aWh aTa aWa iRo iEa iLa cC nC nFo nQd nRo nBe nEa nMi nHa nER nMR nTh nPa nOu nFr nQu eM eL eC eS eB eE eF eG)) 0 0 := by
  refine ent_i (cc := cX7_ask) (maxL := 3) (ret := (some .int)) (by decide) rfl (Nat.le_of_ble_eq_true rfl) ?_
  intro p e s m args below meth c A Q hQ hx hb hr hml hown hts hlk hA hAB hP hD hS ls hl
  have hown : s.vm.findClass RX7 = some m.cls := hown
  have hl : lv_has ls 3 [(0, .ref (ad 0)), (1, .int a1), (2, .int a2)] := hl
  generalize hH : s.heap = H at hP ⊢
  have hS : va_S A s.heap H [] := by rw [← hH]; exact hS
  clear hH
  generalize ([] : List Loc) = locs at hS ⊢
  refine lv_aload_n hx hb dX7_ask_0 rfl (lv_at hl 0 rfl) ?_
  refine va_get (D := D) (ci := 7) (C := RX7) (T := TX7) (N := 14) hx hb hts inn_X7_ask_7 hown hAB.1 hP 0 rfl rfl 1 (by decide) (hts (.fieldLink RX7 19 "BarnBench" "tasks" "LBarnBench$Tasks;") (by decide +kernel)) (fun _ h9 => h9) rfl dX7_ask_1 ?_
  refine lv_iload_n hx hb dX7_ask_4 rfl (lv_at hl 1 rfl) ?_
  refine cl_i hD hS hA (va_runV (As := [.int a1]) (rest := []) ⟨hx, hb, hml, hown, hts⟩ (ct_X5_has h H.size) (cwV 1 hts gX7_ask_X5_has rfl rfl rfl (by decide +kernel) ⟨Nat.le_of_ble_eq_true rfl, Nat.le_of_ble_eq_true rfl⟩) ⟨CPre.blind, va_recv hAB.1 hP (ci := 5) (q0 := 10) rfl rfl, wd_pre hAB hP hD hS hA⟩ rfl rfl hl.1 rfl (lv_room (Nat.le_of_ble_eq_true rfl)) dX7_ask_5 ⟨Nat.zero_le _, Nat.zero_le _⟩) (fun r_1 u H locs h hP hD hS => ?_)
  refine lv_if_ne (tgt := 17) hx hb dX7_ask_8 (by decide) (fun c_2 => ?_) (fun c_2 => ?_)
  · have h := h.1 c_2
    refine lv_iload_n hx hb dX7_ask_17 rfl (lv_at hl 2 rfl) ?_
    by_cases c_3 : a2 = 0
    · have h := h.1 c_3
      refine lv_tableIn (tgt := 56) hx hb dX7_ask_18 (by rw [c_3]; decide) (by rw [c_3]; decide) (by rw [c_3]; rfl) (by decide) ?_
      refine lv_aload_n hx hb dX7_ask_56 rfl (lv_at hl 0 rfl) ?_
      refine va_get (D := D) (ci := 7) (C := RX7) (T := TX7) (N := 14) hx hb hts inn_X7_ask_7 hown hAB.1 hP 0 rfl rfl 1 (by decide) (hts (.fieldLink RX7 19 "BarnBench" "tasks" "LBarnBench$Tasks;") (by decide +kernel)) (fun _ h9 => h9) rfl dX7_ask_57 ?_
      refine va_get (D := D) (ci := 5) (C := RX5) (T := TX5) (N := 9) hx hb hts inn_X7_ask_5 hown hAB.1 hP 10 rfl rfl 1 (by decide) (hts (.fieldLink RX7 135 "BarnBench$Tasks" "kind" "[I") (by decide +kernel)) (fun _ h9 => h9) rfl dX7_ask_60 ?_
      refine lv_iload_n hx hb dX7_ask_63 rfl (lv_at hl 1 rfl) ?_
      refine va_iald hx hb hAB.1 hP 11 0 rfl rfl h.1 dX7_ask_64 ?_
      have h := h.2
      exact rt_i (bFi) hQ hx hb hr hlk hP hD hS ⟨Nat.zero_le _, Nat.zero_le _⟩ dX7_ask_65 h
    · have h := h.2 c_3
      by_cases c_4 : a2 = 1
      · have h := h.1 c_4
        refine lv_tableIn (tgt := 66) hx hb dX7_ask_18 (by rw [c_4]; decide) (by rw [c_4]; decide) (by rw [c_4]; rfl) (by decide) ?_
        refine lv_aload_n hx hb dX7_ask_66 rfl (lv_at hl 0 rfl) ?_
        refine va_get (D := D) (ci := 7) (C := RX7) (T := TX7) (N := 14) hx hb hts inn_X7_ask_7 hown hAB.1 hP 0 rfl rfl 1 (by decide) (hts (.fieldLink RX7 19 "BarnBench" "tasks" "LBarnBench$Tasks;") (by decide +kernel)) (fun _ h9 => h9) rfl dX7_ask_67 ?_
        refine va_get (D := D) (ci := 5) (C := RX5) (T := TX5) (N := 9) hx hb hts inn_X7_ask_5 hown hAB.1 hP 10 rfl rfl 2 (by decide) (hts (.fieldLink RX7 141 "BarnBench$Tasks" "easy" "[I") (by decide +kernel)) (fun _ h9 => h9) rfl dX7_ask_70 ?_
        refine lv_iload_n hx hb dX7_ask_73 rfl (lv_at hl 1 rfl) ?_
        refine va_iald hx hb hAB.1 hP 12 0 rfl rfl h.1 dX7_ask_74 ?_
        have h := h.2
        exact rt_i (bFi) hQ hx hb hr hlk hP hD hS ⟨Nat.zero_le _, Nat.zero_le _⟩ dX7_ask_75 h
      · have h := h.2 c_4
        by_cases c_5 : a2 = 2
        · have h := h.1 c_5
          refine lv_tableIn (tgt := 76) hx hb dX7_ask_18 (by rw [c_5]; decide) (by rw [c_5]; decide) (by rw [c_5]; rfl) (by decide) ?_
          refine lv_aload_n hx hb dX7_ask_76 rfl (lv_at hl 0 rfl) ?_
          refine va_get (D := D) (ci := 7) (C := RX7) (T := TX7) (N := 14) hx hb hts inn_X7_ask_7 hown hAB.1 hP 0 rfl rfl 1 (by decide) (hts (.fieldLink RX7 19 "BarnBench" "tasks" "LBarnBench$Tasks;") (by decide +kernel)) (fun _ h9 => h9) rfl dX7_ask_77 ?_
          refine va_get (D := D) (ci := 5) (C := RX5) (T := TX5) (N := 9) hx hb hts inn_X7_ask_5 hown hAB.1 hP 10 rfl rfl 3 (by decide) (hts (.fieldLink RX7 144 "BarnBench$Tasks" "hard" "[I") (by decide +kernel)) (fun _ h9 => h9) rfl dX7_ask_80 ?_
          refine lv_iload_n hx hb dX7_ask_83 rfl (lv_at hl 1 rfl) ?_
          refine va_iald hx hb hAB.1 hP 13 0 rfl rfl h.1 dX7_ask_84 ?_
          have h := h.2
          exact rt_i (bFi) hQ hx hb hr hlk hP hD hS ⟨Nat.zero_le _, Nat.zero_le _⟩ dX7_ask_85 h
        · have h := h.2 c_5
          by_cases c_6 : a2 = 3
          · have h := h.1 c_6
            refine lv_tableIn (tgt := 86) hx hb dX7_ask_18 (by rw [c_6]; decide) (by rw [c_6]; decide) (by rw [c_6]; rfl) (by decide) ?_
            refine lv_aload_n hx hb dX7_ask_86 rfl (lv_at hl 0 rfl) ?_
            refine va_get (D := D) (ci := 7) (C := RX7) (T := TX7) (N := 14) hx hb hts inn_X7_ask_7 hown hAB.1 hP 0 rfl rfl 1 (by decide) (hts (.fieldLink RX7 19 "BarnBench" "tasks" "LBarnBench$Tasks;") (by decide +kernel)) (fun _ h9 => h9) rfl dX7_ask_87 ?_
            refine va_get (D := D) (ci := 5) (C := RX5) (T := TX5) (N := 9) hx hb hts inn_X7_ask_5 hown hAB.1 hP 10 rfl rfl 4 (by decide) (hts (.fieldLink RX7 147 "BarnBench$Tasks" "price" "[I") (by decide +kernel)) (fun _ h9 => h9) rfl dX7_ask_90 ?_
            refine lv_iload_n hx hb dX7_ask_93 rfl (lv_at hl 1 rfl) ?_
            refine va_iald hx hb hAB.1 hP 14 0 rfl rfl h.1 dX7_ask_94 ?_
            have h := h.2
            exact rt_i (bFi) hQ hx hb hr hlk hP hD hS ⟨Nat.zero_le _, Nat.zero_le _⟩ dX7_ask_95 h
          · have h := h.2 c_6
            by_cases c_7 : a2 = 4
            · have h := h.1 c_7
              refine lv_tableIn (tgt := 96) hx hb dX7_ask_18 (by rw [c_7]; decide) (by rw [c_7]; decide) (by rw [c_7]; rfl) (by decide) ?_
              refine lv_aload_n hx hb dX7_ask_96 rfl (lv_at hl 0 rfl) ?_
              refine va_get (D := D) (ci := 7) (C := RX7) (T := TX7) (N := 14) hx hb hts inn_X7_ask_7 hown hAB.1 hP 0 rfl rfl 1 (by decide) (hts (.fieldLink RX7 19 "BarnBench" "tasks" "LBarnBench$Tasks;") (by decide +kernel)) (fun _ h9 => h9) rfl dX7_ask_97 ?_
              refine va_get (D := D) (ci := 5) (C := RX5) (T := TX5) (N := 9) hx hb hts inn_X7_ask_5 hown hAB.1 hP 10 rfl rfl 5 (by decide) (hts (.fieldLink RX7 150 "BarnBench$Tasks" "extra" "[I") (by decide +kernel)) (fun _ h9 => h9) rfl dX7_ask_100 ?_
              refine lv_iload_n hx hb dX7_ask_103 rfl (lv_at hl 1 rfl) ?_
              refine va_iald hx hb hAB.1 hP 15 0 rfl rfl h.1 dX7_ask_104 ?_
              have h := h.2
              exact rt_i (bFi) hQ hx hb hr hlk hP hD hS ⟨Nat.zero_le _, Nat.zero_le _⟩ dX7_ask_105 h
            · have h := h.2 c_7
              by_cases c_8 : a2 = 5
              · have h := h.1 c_8
                refine lv_tableIn (tgt := 106) hx hb dX7_ask_18 (by rw [c_8]; decide) (by rw [c_8]; decide) (by rw [c_8]; rfl) (by decide) ?_
                refine lv_aload_n hx hb dX7_ask_106 rfl (lv_at hl 0 rfl) ?_
                refine va_get (D := D) (ci := 7) (C := RX7) (T := TX7) (N := 14) hx hb hts inn_X7_ask_7 hown hAB.1 hP 0 rfl rfl 1 (by decide) (hts (.fieldLink RX7 19 "BarnBench" "tasks" "LBarnBench$Tasks;") (by decide +kernel)) (fun _ h9 => h9) rfl dX7_ask_107 ?_
                refine va_get (D := D) (ci := 5) (C := RX5) (T := TX5) (N := 9) hx hb hts inn_X7_ask_5 hown hAB.1 hP 10 rfl rfl 6 (by decide) (hts (.fieldLink RX7 153 "BarnBench$Tasks" "step" "[I") (by decide +kernel)) (fun _ h9 => h9) rfl dX7_ask_110 ?_
                refine lv_iload_n hx hb dX7_ask_113 rfl (lv_at hl 1 rfl) ?_
                refine va_iald hx hb hAB.1 hP 16 0 rfl rfl h.1 dX7_ask_114 ?_
                have h := h.2
                exact rt_i (bFi) hQ hx hb hr hlk hP hD hS ⟨Nat.zero_le _, Nat.zero_le _⟩ dX7_ask_115 h
              · have h := h.2 c_8
                refine lv_tableOut (tgt := 116) hx hb dX7_ask_18 (tb_out6 c_3 c_4 c_5 c_6 c_7 c_8) (by decide) ?_
                refine lv_aload_n hx hb dX7_ask_116 rfl (lv_at hl 0 rfl) ?_
                refine lv_iconst (v := (-1)) hx hb dX7_ask_117 (by decide) ?_
                refine cl_i hD hS hA (va_runV (As := [.int (-1)]) (rest := []) ⟨hx, hb, hml, hown, hts⟩ (ct_X7_finding h H.size) (cwV 1 hts gX7_ask_X7_finding rfl rfl rfl (by decide +kernel) ⟨Nat.le_of_ble_eq_true rfl, Nat.le_of_ble_eq_true rfl⟩) ⟨CPre.blind, va_recv hAB.1 hP (ci := 7) (q0 := 0) rfl rfl, wd_pre hAB hP hD hS hA⟩ rfl rfl hl.1 rfl (lv_room (Nat.le_of_ble_eq_true rfl)) dX7_ask_118 ⟨Nat.zero_le _, Nat.zero_le _⟩) (fun r_9 bFi_10 H locs h hP hD hS => ?_)
                have hP : va_P D vwCl (WC cI cJ cE cD ad bd dd bHK bHP bPF bWC bRi bBe bFi_10 bWa dB dS dN tC tKi tEa tHa tPr tEx tSt tTo tBe kC kKi kEa kHa kPr kEx kSt kTo kBe aC aWh aTa aWa iRo iEa iLa cC nC nFo nQd nRo nBe nEa nMi nHa nER nMR nTh nPa nOu nFr nQu eM eL eC eS eB eE eF eG) H := hP
                have hD : va_D A (WC cI cJ cE cD ad bd dd bHK bHP bPF bWC bRi bBe bFi_10 bWa dB dS dN tC tKi tEa tHa tPr tEx tSt tTo tBe kC kKi kEa kHa kPr kEx kSt kTo kBe aC aWh aTa aWa iRo iEa iLa cC nC nFo nQd nRo nBe nEa nMi nHa nER nMR nTh nPa nOu nFr nQu eM eL eC eS eB eE eF eG) := hD
                exact rt_i (bFi_10) hQ hx hb hr hlk hP hD hS ⟨Nat.zero_le _, Nat.zero_le _⟩ dX7_ask_121 h
  · have h := h.2 c_2
    refine lv_aload_n hx hb dX7_ask_11 rfl (lv_at hl 0 rfl) ?_
    refine lv_iconst (v := (-1)) hx hb dX7_ask_12 (by decide) ?_
    refine cl_i hD hS hA (va_runV (As := [.int (-1)]) (rest := []) ⟨hx, hb, hml, hown, hts⟩ (ct_X7_finding h H.size) (cwV 1 hts gX7_ask_X7_finding rfl rfl rfl (by decide +kernel) ⟨Nat.le_of_ble_eq_true rfl, Nat.le_of_ble_eq_true rfl⟩) ⟨CPre.blind, va_recv hAB.1 hP (ci := 7) (q0 := 0) rfl rfl, wd_pre hAB hP hD hS hA⟩ rfl rfl hl.1 rfl (lv_room (Nat.le_of_ble_eq_true rfl)) dX7_ask_13 ⟨Nat.zero_le _, Nat.zero_le _⟩) (fun r_11 bFi_12 H locs h hP hD hS => ?_)
    have hP : va_P D vwCl (WC cI cJ cE cD ad bd dd bHK bHP bPF bWC bRi bBe bFi_12 bWa dB dS dN tC tKi tEa tHa tPr tEx tSt tTo tBe kC kKi kEa kHa kPr kEx kSt kTo kBe aC aWh aTa aWa iRo iEa iLa cC nC nFo nQd nRo nBe nEa nMi nHa nER nMR nTh nPa nOu nFr nQu eM eL eC eS eB eE eF eG) H := hP
    have hD : va_D A (WC cI cJ cE cD ad bd dd bHK bHP bPF bWC bRi bBe bFi_12 bWa dB dS dN tC tKi tEa tHa tPr tEx tSt tTo tBe kC kKi kEa kHa kPr kEx kSt kTo kBe aC aWh aTa aWa iRo iEa iLa cC nC nFo nQd nRo nBe nEa nMi nHa nER nMR nTh nPa nOu nFr nQu eM eL eC eS eB eE eF eG) := hD
    exact rt_i (bFi_12) hQ hx hb hr hlk hP hD hS ⟨Nat.zero_le _, Nat.zero_le _⟩ dX7_ask_16 h
def wp_X7_follows_b22 (Qp : Int32 → (Int32) → Prop) (bFi_1 : Int32) : Prop :=
  wp_X7_finding bFi_1 (-1) (fun (r_2 : Int32) (bFi_3 : Int32) => Qp r_2 bFi_3)
def wp_X7_follows (bFi : Int32) (tC : Int32) (tBe : Nat → Int32) (a1 : Int32) (a2 : Int32) (Qp : Int32 → (Int32) → Prop) : Prop :=
  wp_X5_has tC a1 (fun (r_4 : Int32) => ((r_4 = 0 → wp_X7_follows_b22 Qp bFi) ∧
   (¬ r_4 = 0 → wp_X5_has tC a2 (fun (r_6 : Int32) => ((¬ r_6 = 0 → vp_in a1 12 ∧ wp_X7_hasBit (tBe (Int32.toNatClampNeg a1)) a2 (fun (r_8 : Int32) => ((r_8 = 0 → wp_X5_allBefore tC tBe a1 (fun (r_10 : Int32) => wp_X7_hasBit r_10 a2 (fun (r_11 : Int32) => ((r_11 = 0 → Qp 0 bFi) ∧
   (¬ r_11 = 0 → Qp 2 bFi))))) ∧
   (¬ r_8 = 0 → Qp 1 bFi)))) ∧
   (r_6 = 0 → wp_X7_follows_b22 Qp bFi))))))
theorem inn_X7_follows_5 : ∀ w ∈ u_ws RX5 TX5 9, w ∈ wsX7_follows := fun _ h => List.mem_cons_of_mem _ (List.mem_append_right _ h)
theorem inn_X7_follows_7 : ∀ w ∈ u_ws RX7 TX7 14, w ∈ wsX7_follows := fun _ h => List.mem_cons_of_mem _ (List.mem_append_left _ (List.mem_append_right _ h))
def rm_X7_follows : Room := { frames := 2, cells := 0, slots := 0, locals := 46 }
set_option maxHeartbeats 4000000 in
set_option maxRecDepth 100000 in
theorem ct_X7_follows {l : Launch} {D : va_G} {cI cJ cZ cE cD cK : ClassId} {ad : Nat → Nat} {bd dd : Nat → Nat → Nat} {bHK : Int32} {bHP : Int32} {bPF : Int32} {bWC : Int32} {bRi : Int32} {bBe : Int32} {bFi : Int32} {bWa : Nat → Int32} {dB : Nat → Int32} {dS : Nat → Int32} {dN : Nat → Nat → Int64} {tC : Int32} {tKi : Nat → Int32} {tEa : Nat → Int32} {tHa : Nat → Int32} {tPr : Nat → Int32} {tEx : Nat → Int32} {tSt : Nat → Int32} {tTo : Nat → Int32} {tBe : Nat → Int32} {kC : Int32} {kKi : Nat → Int32} {kEa : Nat → Int32} {kHa : Nat → Int32} {kPr : Nat → Int32} {kEx : Nat → Int32} {kSt : Nat → Int32} {kTo : Nat → Int32} {kBe : Nat → Int32} {aC : Int32} {aWh : Nat → Int32} {aTa : Nat → Int32} {aWa : Nat → Int32} {iRo : Nat → Int32} {iEa : Nat → Int32} {iLa : Nat → Int32} {cC : Int32} {nC : Int32} {nFo : Int32} {nQd : Int32} {nRo : Nat → Int32} {nBe : Nat → Int32} {nEa : Nat → Int32} {nMi : Nat → Int32} {nHa : Nat → Int32} {nER : Nat → Int32} {nMR : Nat → Int32} {nTh : Nat → Int32} {nPa : Nat → Int32} {nOu : Nat → Int32} {nFr : Nat → Int32} {nQu : Nat → Int32} {eM : Nat} {eL : Nat → Int32} {eC : Nat → Int64} {eS : Nat → Int64} {eB : Nat → Nat → Int32} {eE : Nat → Nat → Int32} {eF : Nat → Nat → Int32} {eG : Nat → Nat → Int32}   {a1 : Int32} {a2 : Int32} {Qp : Int32 → (Int32) → Prop}   (h : wp_X7_follows bFi tC tBe a1 a2 Qp) : CTi l yX7_follows wsX7_follows rm_X7_follows D (tyL cI cJ cZ cE cD cK) [.ref (ad 0), .int a1, .int a2] (WC cI cJ cE cD ad bd dd bHK bHP bPF bWC bRi bBe bFi bWa dB dS dN tC tKi tEa tHa tPr tEx tSt tTo tBe kC kKi kEa kHa kPr kEx kSt kTo kBe aC aWh aTa aWa iRo iEa iLa cC nC nFo nQd nRo nBe nEa nMi nHa nER nMR nTh nPa nOu nFr nQu eM eL eC eS eB eE eF eG) (fun (r : Int32) (u : (Int32)) => Qp r u) (fun u : (Int32) => (WC cI cJ cE cD ad bd dd bHK bHP bPF bWC bRi bBe u bWa dB dS dN tC tKi tEa tHa tPr tEx tSt tTo tBe kC kKi kEa kHa kPr kEx kSt kTo kBe aC aWh aTa aWa iRo iEa iLa cC nC nFo nQd nRo nBe nEa nMi nHa nER nMR nTh nPa nOu nFr nQu eM eL eC eS eB eE eF eG)) 0 0 := by
  refine ent_i (cc := cX7_follows) (maxL := 3) (ret := (some .int)) (by decide) rfl (Nat.le_of_ble_eq_true rfl) ?_
  intro p e s m args below meth c A Q hQ hx hb hr hml hown hts hlk hA hAB hP hD hS ls hl
  have hown : s.vm.findClass RX7 = some m.cls := hown
  have hl : lv_has ls 3 [(0, .ref (ad 0)), (1, .int a1), (2, .int a2)] := hl
  generalize hH : s.heap = H at hP ⊢
  have hS : va_S A s.heap H [] := by rw [← hH]; exact hS
  clear hH
  generalize ([] : List Loc) = locs at hS ⊢
  have B22 : ∀ (bFi_1 : Int32), wp_X7_follows_b22 Qp bFi_1 → ∀ (H : Heap) (locs : List Loc) (ls : Array Slot), va_P D vwCl (WC cI cJ cE cD ad bd dd bHK bHP bPF bWC bRi bBe bFi_1 bWa dB dS dN tC tKi tEa tHa tPr tEx tSt tTo tBe kC kKi kEa kHa kPr kEx kSt kTo kBe aC aWh aTa aWa iRo iEa iLa cC nC nFo nQd nRo nBe nEa nMi nHa nER nMR nTh nPa nOu nFr nQu eM eL eC eS eB eE eF eG) H → va_D A (WC cI cJ cE cD ad bd dd bHK bHP bPF bWC bRi bBe bFi_1 bWa dB dS dN tC tKi tEa tHa tPr tEx tSt tTo tBe kC kKi kEa kHa kPr kEx kSt kTo kBe aC aWh aTa aWa iRo iEa iLa cC nC nFo nQd nRo nBe nEa nMi nHa nER nMR nTh nPa nOu nFr nQu eM eL eC eS eB eE eF eG) → va_S A s.heap H locs → lv_has ls 3 [(0, .ref (ad 0))] → W p l e (headSpec wsX7_follows rm_X7_follows).room s m args below meth c H locs 0 0 Q (F0 m 22 ls []) := by
    intro bFi_1 h H locs ls hP hD hS hl
    refine lv_aload_n hx hb dX7_follows_22 rfl (lv_at hl 0 rfl) ?_
    refine lv_iconst (v := (-1)) hx hb dX7_follows_23 (by decide) ?_
    refine cl_i hD hS hA (va_runV (As := [.int (-1)]) (rest := []) ⟨hx, hb, hml, hown, hts⟩ (ct_X7_finding h H.size) (cwV 1 hts gX7_follows_X7_finding rfl rfl rfl (by decide +kernel) ⟨Nat.le_of_ble_eq_true rfl, Nat.le_of_ble_eq_true rfl⟩) ⟨CPre.blind, va_recv hAB.1 hP (ci := 7) (q0 := 0) rfl rfl, wd_pre hAB hP hD hS hA⟩ rfl rfl hl.1 rfl (lv_room (Nat.le_of_ble_eq_true rfl)) dX7_follows_24 ⟨Nat.zero_le _, Nat.zero_le _⟩) (fun r_2 bFi_3 H locs h hP hD hS => ?_)
    have hP : va_P D vwCl (WC cI cJ cE cD ad bd dd bHK bHP bPF bWC bRi bBe bFi_3 bWa dB dS dN tC tKi tEa tHa tPr tEx tSt tTo tBe kC kKi kEa kHa kPr kEx kSt kTo kBe aC aWh aTa aWa iRo iEa iLa cC nC nFo nQd nRo nBe nEa nMi nHa nER nMR nTh nPa nOu nFr nQu eM eL eC eS eB eE eF eG) H := hP
    have hD : va_D A (WC cI cJ cE cD ad bd dd bHK bHP bPF bWC bRi bBe bFi_3 bWa dB dS dN tC tKi tEa tHa tPr tEx tSt tTo tBe kC kKi kEa kHa kPr kEx kSt kTo kBe aC aWh aTa aWa iRo iEa iLa cC nC nFo nQd nRo nBe nEa nMi nHa nER nMR nTh nPa nOu nFr nQu eM eL eC eS eB eE eF eG) := hD
    exact rt_i (bFi_3) hQ hx hb hr hlk hP hD hS ⟨Nat.zero_le _, Nat.zero_le _⟩ dX7_follows_27 h
  refine lv_aload_n hx hb dX7_follows_0 rfl (lv_at hl 0 rfl) ?_
  refine va_get (D := D) (ci := 7) (C := RX7) (T := TX7) (N := 14) hx hb hts inn_X7_follows_7 hown hAB.1 hP 0 rfl rfl 1 (by decide) (hts (.fieldLink RX7 19 "BarnBench" "tasks" "LBarnBench$Tasks;") (by decide +kernel)) (fun _ h9 => h9) rfl dX7_follows_1 ?_
  refine lv_iload_n hx hb dX7_follows_4 rfl (lv_at hl 1 rfl) ?_
  refine cl_i hD hS hA (va_runV (As := [.int a1]) (rest := []) ⟨hx, hb, hml, hown, hts⟩ (ct_X5_has h H.size) (cwV 1 hts gX7_follows_X5_has rfl rfl rfl (by decide +kernel) ⟨Nat.le_of_ble_eq_true rfl, Nat.le_of_ble_eq_true rfl⟩) ⟨CPre.blind, va_recv hAB.1 hP (ci := 5) (q0 := 10) rfl rfl, wd_pre hAB hP hD hS hA⟩ rfl rfl hl.1 rfl (lv_room (Nat.le_of_ble_eq_true rfl)) dX7_follows_5 ⟨Nat.zero_le _, Nat.zero_le _⟩) (fun r_4 u H locs h hP hD hS => ?_)
  refine lv_if_eq (tgt := 22) hx hb dX7_follows_8 (by decide) (fun c_5 => ?_) (fun c_5 => ?_)
  · have h := h.1 c_5
    exact B22 bFi h H locs ls hP hD hS (lv_sub hl [0] rfl)
  · have h := h.2 c_5
    refine lv_aload_n hx hb dX7_follows_11 rfl (lv_at hl 0 rfl) ?_
    refine va_get (D := D) (ci := 7) (C := RX7) (T := TX7) (N := 14) hx hb hts inn_X7_follows_7 hown hAB.1 hP 0 rfl rfl 1 (by decide) (hts (.fieldLink RX7 19 "BarnBench" "tasks" "LBarnBench$Tasks;") (by decide +kernel)) (fun _ h9 => h9) rfl dX7_follows_12 ?_
    refine lv_iload_n hx hb dX7_follows_15 rfl (lv_at hl 2 rfl) ?_
    refine cl_i hD hS hA (va_runV (As := [.int a2]) (rest := []) ⟨hx, hb, hml, hown, hts⟩ (ct_X5_has h H.size) (cwV 1 hts gX7_follows_X5_has rfl rfl rfl (by decide +kernel) ⟨Nat.le_of_ble_eq_true rfl, Nat.le_of_ble_eq_true rfl⟩) ⟨CPre.blind, va_recv hAB.1 hP (ci := 5) (q0 := 10) rfl rfl, wd_pre hAB hP hD hS hA⟩ rfl rfl hl.1 rfl (lv_room (Nat.le_of_ble_eq_true rfl)) dX7_follows_16 ⟨Nat.zero_le _, Nat.zero_le _⟩) (fun r_6 u H locs h hP hD hS => ?_)
    refine lv_if_ne (tgt := 28) hx hb dX7_follows_19 (by decide) (fun c_7 => ?_) (fun c_7 => ?_)
    · have h := h.1 c_7
      refine lv_aload_n hx hb dX7_follows_28 rfl (lv_at hl 0 rfl) ?_
      refine va_get (D := D) (ci := 7) (C := RX7) (T := TX7) (N := 14) hx hb hts inn_X7_follows_7 hown hAB.1 hP 0 rfl rfl 1 (by decide) (hts (.fieldLink RX7 19 "BarnBench" "tasks" "LBarnBench$Tasks;") (by decide +kernel)) (fun _ h9 => h9) rfl dX7_follows_29 ?_
      refine va_get (D := D) (ci := 5) (C := RX5) (T := TX5) (N := 9) hx hb hts inn_X7_follows_5 hown hAB.1 hP 10 rfl rfl 8 (by decide) (hts (.fieldLink RX7 126 "BarnBench$Tasks" "before" "[I") (by decide +kernel)) (fun _ h9 => h9) rfl dX7_follows_32 ?_
      refine lv_iload_n hx hb dX7_follows_35 rfl (lv_at hl 1 rfl) ?_
      refine va_iald hx hb hAB.1 hP 18 0 rfl rfl h.1 dX7_follows_36 ?_
      have h := h.2
      refine lv_iload_n hx hb dX7_follows_37 rfl (lv_at hl 2 rfl) ?_
      refine cl_i hD hS hA (va_runS (As := [.int (tBe (Int32.toNatClampNeg a1)), .int a2]) (rest := []) ⟨hx, hb, hml, hown, hts⟩ (ct_X7_hasBit h H.size) (va_cwS 2 hts gX7_follows_X7_hasBit rfl rfl rfl (by decide +kernel) ⟨Nat.le_of_ble_eq_true rfl, Nat.le_of_ble_eq_true rfl⟩) ⟨CPre.blind, wd_pre hAB hP hD hS hA⟩ rfl rfl hl.1 rfl (lv_room (Nat.le_of_ble_eq_true rfl)) dX7_follows_38 ⟨Nat.zero_le _, Nat.zero_le _⟩) (fun r_8 u H locs h hP hD hS => ?_)
      refine lv_if_eq (tgt := 46) hx hb dX7_follows_41 (by decide) (fun c_9 => ?_) (fun c_9 => ?_)
      · have h := h.1 c_9
        refine lv_aload_n hx hb dX7_follows_46 rfl (lv_at hl 0 rfl) ?_
        refine va_get (D := D) (ci := 7) (C := RX7) (T := TX7) (N := 14) hx hb hts inn_X7_follows_7 hown hAB.1 hP 0 rfl rfl 1 (by decide) (hts (.fieldLink RX7 19 "BarnBench" "tasks" "LBarnBench$Tasks;") (by decide +kernel)) (fun _ h9 => h9) rfl dX7_follows_47 ?_
        refine lv_iload_n hx hb dX7_follows_50 rfl (lv_at hl 1 rfl) ?_
        refine cl_i hD hS hA (va_runV (As := [.int a1]) (rest := []) ⟨hx, hb, hml, hown, hts⟩ (ct_X5_allBefore h H.size) (cwV 1 hts gX7_follows_X5_allBefore rfl rfl rfl (by decide +kernel) ⟨Nat.le_of_ble_eq_true rfl, Nat.le_of_ble_eq_true rfl⟩) ⟨CPre.blind, va_recv hAB.1 hP (ci := 5) (q0 := 10) rfl rfl, wd_pre hAB hP hD hS hA⟩ rfl rfl hl.1 rfl (lv_room (Nat.le_of_ble_eq_true rfl)) dX7_follows_51 ⟨Nat.zero_le _, Nat.zero_le _⟩) (fun r_10 u H locs h hP hD hS => ?_)
        refine lv_iload_n hx hb dX7_follows_54 rfl (lv_at hl 2 rfl) ?_
        refine cl_i hD hS hA (va_runS (As := [.int r_10, .int a2]) (rest := []) ⟨hx, hb, hml, hown, hts⟩ (ct_X7_hasBit h H.size) (va_cwS 2 hts gX7_follows_X7_hasBit rfl rfl rfl (by decide +kernel) ⟨Nat.le_of_ble_eq_true rfl, Nat.le_of_ble_eq_true rfl⟩) ⟨CPre.blind, wd_pre hAB hP hD hS hA⟩ rfl rfl hl.1 rfl (lv_room (Nat.le_of_ble_eq_true rfl)) dX7_follows_55 ⟨Nat.zero_le _, Nat.zero_le _⟩) (fun r_11 u H locs h hP hD hS => ?_)
        refine lv_if_eq (tgt := 65) hx hb dX7_follows_58 (by decide) (fun c_12 => ?_) (fun c_12 => ?_)
        · have h := h.1 c_12
          refine lv_iconst (v := 0) hx hb dX7_follows_65 (by decide) ?_
          exact rt_i (bFi) hQ hx hb hr hlk hP hD hS ⟨Nat.zero_le _, Nat.zero_le _⟩ dX7_follows_66 h
        · have h := h.2 c_12
          refine lv_iconst (v := 2) hx hb dX7_follows_61 (by decide) ?_
          refine lv_goto (tgt := 66) hx hb dX7_follows_62 (by decide) ?_
          exact rt_i (bFi) hQ hx hb hr hlk hP hD hS ⟨Nat.zero_le _, Nat.zero_le _⟩ dX7_follows_66 h
      · have h := h.2 c_9
        refine lv_iconst (v := 1) hx hb dX7_follows_44 (by decide) ?_
        exact rt_i (bFi) hQ hx hb hr hlk hP hD hS ⟨Nat.zero_le _, Nat.zero_le _⟩ dX7_follows_45 h
    · have h := h.2 c_7
      exact B22 bFi h H locs ls hP hD hS (lv_sub hl [0] rfl)
def wp_X7_order (bFi : Int32) (tC : Int32) (tBe : Nat → Int32) (iRo : Nat → Int32) (a1 : Int32) (Qp : Int32 → (Int32) → (Nat → Int32) → Prop) : Prop :=
  wp_X5_has tC a1 (fun (r_1 : Int32) => ((¬ r_1 = 0 → wp_X5_arrange iRo tC tBe (fun (iRo_3 : Nat → Int32) => vp_in a1 12 ∧ Qp (iRo_3 (Int32.toNatClampNeg a1)) bFi iRo_3)) ∧
   (r_1 = 0 → wp_X7_finding bFi (-7) (fun (r_4 : Int32) (bFi_5 : Int32) => Qp r_4 bFi_5 iRo))))
theorem inn_X7_order_6 : ∀ w ∈ u_ws RX6 TX6 3, w ∈ wsX7_order := fun _ h => List.mem_cons_of_mem _ (List.mem_append_left _ (List.mem_append_right _ h))
theorem inn_X7_order_7 : ∀ w ∈ u_ws RX7 TX7 14, w ∈ wsX7_order := fun _ h => List.mem_cons_of_mem _ (List.mem_append_left _ (List.mem_append_left _ (List.mem_append_right _ h)))
def rm_X7_order : Room := { frames := 2, cells := 0, slots := 0, locals := 46 }
set_option maxHeartbeats 4000000 in
set_option maxRecDepth 100000 in
theorem ct_X7_order {l : Launch} {D : va_G} {cI cJ cZ cE cD cK : ClassId} {ad : Nat → Nat} {bd dd : Nat → Nat → Nat} {bHK : Int32} {bHP : Int32} {bPF : Int32} {bWC : Int32} {bRi : Int32} {bBe : Int32} {bFi : Int32} {bWa : Nat → Int32} {dB : Nat → Int32} {dS : Nat → Int32} {dN : Nat → Nat → Int64} {tC : Int32} {tKi : Nat → Int32} {tEa : Nat → Int32} {tHa : Nat → Int32} {tPr : Nat → Int32} {tEx : Nat → Int32} {tSt : Nat → Int32} {tTo : Nat → Int32} {tBe : Nat → Int32} {kC : Int32} {kKi : Nat → Int32} {kEa : Nat → Int32} {kHa : Nat → Int32} {kPr : Nat → Int32} {kEx : Nat → Int32} {kSt : Nat → Int32} {kTo : Nat → Int32} {kBe : Nat → Int32} {aC : Int32} {aWh : Nat → Int32} {aTa : Nat → Int32} {aWa : Nat → Int32} {iRo : Nat → Int32} {iEa : Nat → Int32} {iLa : Nat → Int32} {cC : Int32} {nC : Int32} {nFo : Int32} {nQd : Int32} {nRo : Nat → Int32} {nBe : Nat → Int32} {nEa : Nat → Int32} {nMi : Nat → Int32} {nHa : Nat → Int32} {nER : Nat → Int32} {nMR : Nat → Int32} {nTh : Nat → Int32} {nPa : Nat → Int32} {nOu : Nat → Int32} {nFr : Nat → Int32} {nQu : Nat → Int32} {eM : Nat} {eL : Nat → Int32} {eC : Nat → Int64} {eS : Nat → Int64} {eB : Nat → Nat → Int32} {eE : Nat → Nat → Int32} {eF : Nat → Nat → Int32} {eG : Nat → Nat → Int32}   {a1 : Int32} {Qp : Int32 → (Int32) → (Nat → Int32) → Prop}   (h : wp_X7_order bFi tC tBe iRo a1 Qp) : CTi l yX7_order wsX7_order rm_X7_order D (tyL cI cJ cZ cE cD cK) [.ref (ad 0), .int a1] (WC cI cJ cE cD ad bd dd bHK bHP bPF bWC bRi bBe bFi bWa dB dS dN tC tKi tEa tHa tPr tEx tSt tTo tBe kC kKi kEa kHa kPr kEx kSt kTo kBe aC aWh aTa aWa iRo iEa iLa cC nC nFo nQd nRo nBe nEa nMi nHa nER nMR nTh nPa nOu nFr nQu eM eL eC eS eB eE eF eG) (fun (r : Int32) (u : (Int32) × (Nat → Int32)) => Qp r u.1 u.2) (fun u : (Int32) × (Nat → Int32) => (WC cI cJ cE cD ad bd dd bHK bHP bPF bWC bRi bBe u.1 bWa dB dS dN tC tKi tEa tHa tPr tEx tSt tTo tBe kC kKi kEa kHa kPr kEx kSt kTo kBe aC aWh aTa aWa u.2 iEa iLa cC nC nFo nQd nRo nBe nEa nMi nHa nER nMR nTh nPa nOu nFr nQu eM eL eC eS eB eE eF eG)) 0 0 := by
  refine ent_i (cc := cX7_order) (maxL := 2) (ret := (some .int)) (by decide) rfl (Nat.le_of_ble_eq_true rfl) ?_
  intro p e s m args below meth c A Q hQ hx hb hr hml hown hts hlk hA hAB hP hD hS ls hl
  have hown : s.vm.findClass RX7 = some m.cls := hown
  have hl : lv_has ls 2 [(0, .ref (ad 0)), (1, .int a1)] := hl
  generalize hH : s.heap = H at hP ⊢
  have hS : va_S A s.heap H [] := by rw [← hH]; exact hS
  clear hH
  generalize ([] : List Loc) = locs at hS ⊢
  refine lv_aload_n hx hb dX7_order_0 rfl (lv_at hl 0 rfl) ?_
  refine va_get (D := D) (ci := 7) (C := RX7) (T := TX7) (N := 14) hx hb hts inn_X7_order_7 hown hAB.1 hP 0 rfl rfl 1 (by decide) (hts (.fieldLink RX7 19 "BarnBench" "tasks" "LBarnBench$Tasks;") (by decide +kernel)) (fun _ h9 => h9) rfl dX7_order_1 ?_
  refine lv_iload_n hx hb dX7_order_4 rfl (lv_at hl 1 rfl) ?_
  refine cl_i hD hS hA (va_runV (As := [.int a1]) (rest := []) ⟨hx, hb, hml, hown, hts⟩ (ct_X5_has h H.size) (cwV 1 hts gX7_order_X5_has rfl rfl rfl (by decide +kernel) ⟨Nat.le_of_ble_eq_true rfl, Nat.le_of_ble_eq_true rfl⟩) ⟨CPre.blind, va_recv hAB.1 hP (ci := 5) (q0 := 10) rfl rfl, wd_pre hAB hP hD hS hA⟩ rfl rfl hl.1 rfl (lv_room (Nat.le_of_ble_eq_true rfl)) dX7_order_5 ⟨Nat.zero_le _, Nat.zero_le _⟩) (fun r_1 u H locs h hP hD hS => ?_)
  refine lv_if_ne (tgt := 18) hx hb dX7_order_8 (by decide) (fun c_2 => ?_) (fun c_2 => ?_)
  · have h := h.1 c_2
    refine lv_aload_n hx hb dX7_order_18 rfl (lv_at hl 0 rfl) ?_
    refine va_get (D := D) (ci := 7) (C := RX7) (T := TX7) (N := 14) hx hb hts inn_X7_order_7 hown hAB.1 hP 0 rfl rfl 1 (by decide) (hts (.fieldLink RX7 19 "BarnBench" "tasks" "LBarnBench$Tasks;") (by decide +kernel)) (fun _ h9 => h9) rfl dX7_order_19 ?_
    refine lv_aload_n hx hb dX7_order_22 rfl (lv_at hl 0 rfl) ?_
    refine va_get (D := D) (ci := 7) (C := RX7) (T := TX7) (N := 14) hx hb hts inn_X7_order_7 hown hAB.1 hP 0 rfl rfl 5 (by decide) (hts (.fieldLink RX7 36 "BarnBench" "timing" "LBarnBench$Timing;") (by decide +kernel)) (fun _ h9 => h9) rfl dX7_order_23 ?_
    refine va_get (D := D) (ci := 6) (C := RX6) (T := TX6) (N := 3) hx hb hts inn_X7_order_6 hown hAB.1 hP 32 rfl rfl 0 (by decide) (hts (.fieldLink RX7 159 "BarnBench$Timing" "row" "[I") (by decide +kernel)) (fun _ h9 => h9) rfl dX7_order_26 ?_
    refine cl_v hD hS hA (va_runV (As := [.ref (ad 33)]) (rest := []) ⟨hx, hb, hml, hown, hts⟩ (ct_X5_arrange_1 h H.size) (cwV 1 hts gX7_order_X5_arrange rfl rfl rfl (by decide +kernel) ⟨Nat.le_of_ble_eq_true rfl, Nat.le_of_ble_eq_true rfl⟩) ⟨CPre.blind, va_recv hAB.1 hP (ci := 5) (q0 := 10) rfl rfl, wd_pre hAB hP hD hS hA⟩ rfl rfl hl.1 rfl (lv_room (Nat.le_of_ble_eq_true rfl)) dX7_order_29 ⟨Nat.zero_le _, Nat.zero_le _⟩) (fun iRo_3 H locs h hP hD hS => ?_)
    have hP : va_P D vwCl (WC cI cJ cE cD ad bd dd bHK bHP bPF bWC bRi bBe bFi bWa dB dS dN tC tKi tEa tHa tPr tEx tSt tTo tBe kC kKi kEa kHa kPr kEx kSt kTo kBe aC aWh aTa aWa iRo_3 iEa iLa cC nC nFo nQd nRo nBe nEa nMi nHa nER nMR nTh nPa nOu nFr nQu eM eL eC eS eB eE eF eG) H := hP
    have hD : va_D A (WC cI cJ cE cD ad bd dd bHK bHP bPF bWC bRi bBe bFi bWa dB dS dN tC tKi tEa tHa tPr tEx tSt tTo tBe kC kKi kEa kHa kPr kEx kSt kTo kBe aC aWh aTa aWa iRo_3 iEa iLa cC nC nFo nQd nRo nBe nEa nMi nHa nER nMR nTh nPa nOu nFr nQu eM eL eC eS eB eE eF eG) := hD
    refine lv_aload_n hx hb dX7_order_32 rfl (lv_at hl 0 rfl) ?_
    refine va_get (D := D) (ci := 7) (C := RX7) (T := TX7) (N := 14) hx hb hts inn_X7_order_7 hown hAB.1 hP 0 rfl rfl 5 (by decide) (hts (.fieldLink RX7 36 "BarnBench" "timing" "LBarnBench$Timing;") (by decide +kernel)) (fun _ h9 => h9) rfl dX7_order_33 ?_
    refine va_get (D := D) (ci := 6) (C := RX6) (T := TX6) (N := 3) hx hb hts inn_X7_order_6 hown hAB.1 hP 32 rfl rfl 0 (by decide) (hts (.fieldLink RX7 159 "BarnBench$Timing" "row" "[I") (by decide +kernel)) (fun _ h9 => h9) rfl dX7_order_36 ?_
    refine lv_iload_n hx hb dX7_order_39 rfl (lv_at hl 1 rfl) ?_
    refine va_iald hx hb hAB.1 hP 33 0 rfl rfl h.1 dX7_order_40 ?_
    have h := h.2
    exact rt_i (bFi, iRo_3) hQ hx hb hr hlk hP hD hS ⟨Nat.zero_le _, Nat.zero_le _⟩ dX7_order_41 h
  · have h := h.2 c_2
    refine lv_aload_n hx hb dX7_order_11 rfl (lv_at hl 0 rfl) ?_
    refine lv_bipush (v := (-7)) hx hb dX7_order_12 (by decide) ?_
    refine cl_i hD hS hA (va_runV (As := [.int (-7)]) (rest := []) ⟨hx, hb, hml, hown, hts⟩ (ct_X7_finding h H.size) (cwV 1 hts gX7_order_X7_finding rfl rfl rfl (by decide +kernel) ⟨Nat.le_of_ble_eq_true rfl, Nat.le_of_ble_eq_true rfl⟩) ⟨CPre.blind, va_recv hAB.1 hP (ci := 7) (q0 := 0) rfl rfl, wd_pre hAB hP hD hS hA⟩ rfl rfl hl.1 rfl (lv_room (Nat.le_of_ble_eq_true rfl)) dX7_order_14 ⟨Nat.zero_le _, Nat.zero_le _⟩) (fun r_4 bFi_5 H locs h hP hD hS => ?_)
    have hP : va_P D vwCl (WC cI cJ cE cD ad bd dd bHK bHP bPF bWC bRi bBe bFi_5 bWa dB dS dN tC tKi tEa tHa tPr tEx tSt tTo tBe kC kKi kEa kHa kPr kEx kSt kTo kBe aC aWh aTa aWa iRo iEa iLa cC nC nFo nQd nRo nBe nEa nMi nHa nER nMR nTh nPa nOu nFr nQu eM eL eC eS eB eE eF eG) H := hP
    have hD : va_D A (WC cI cJ cE cD ad bd dd bHK bHP bPF bWC bRi bBe bFi_5 bWa dB dS dN tC tKi tEa tHa tPr tEx tSt tTo tBe kC kKi kEa kHa kPr kEx kSt kTo kBe aC aWh aTa aWa iRo iEa iLa cC nC nFo nQd nRo nBe nEa nMi nHa nER nMR nTh nPa nOu nFr nQu eM eL eC eS eB eE eF eG) := hD
    exact rt_i (bFi_5, iRo) hQ hx hb hr hlk hP hD hS ⟨Nat.zero_le _, Nat.zero_le _⟩ dX7_order_17 h
def wp_X7_span_b23 (Qp : Int32 → (Int32) → (Nat → Int32) → (Int32) → (Nat → Int32) → (Nat → Int32) → (Nat → Int32) → Prop) (bFi_1 : Int32) (tTo_2 : Nat → Int32) (aC_3 : Int32) (aWh_4 : Nat → Int32) (aTa_5 : Nat → Int32) (aWa_6 : Nat → Int32) : Prop :=
  wp_X7_finding bFi_1 (-1) (fun (r_7 : Int32) (bFi_8 : Int32) => Qp r_7 bFi_8 tTo_2 aC_3 aWh_4 aTa_5 aWa_6)
def wp_X7_span (bFi : Int32) (tC : Int32) (tEa : Nat → Int32) (tHa : Nat → Int32) (tTo : Nat → Int32) (aC : Int32) (aWh : Nat → Int32) (aTa : Nat → Int32) (aWa : Nat → Int32) (a1 : Int32) (a2 : Int32) (Qp : Int32 → (Int32) → (Nat → Int32) → (Int32) → (Nat → Int32) → (Nat → Int32) → (Nat → Int32) → Prop) : Prop :=
  wp_X5_has tC a1 (fun (r_9 : Int32) => ((r_9 = 0 → wp_X7_span_b23 Qp bFi tTo aC aWh aTa aWa) ∧
   (¬ r_9 = 0 → wp_X5_allows tEa tHa a1 a2 (fun (r_11 : Int32) => ((¬ r_11 = 0 → vp_in a1 12 ∧ ∀ x3_13 : Int32, x3_13 = (tTo (Int32.toNatClampNeg a1)) → vp_in a1 12 ∧ ∀ tTo_15 : Nat → Int32, tTo_15 = upd tTo (Int32.toNatClampNeg a1) a2 → wp_X0_add aC aWh aTa aWa 2 a1 x3_13 (fun (aC_17 : Int32) (aWh_18 : Nat → Int32) (aTa_19 : Nat → Int32) (aWa_20 : Nat → Int32) => Qp x3_13 bFi tTo_15 aC_17 aWh_18 aTa_19 aWa_20)) ∧
   (r_11 = 0 → wp_X7_span_b23 Qp bFi tTo aC aWh aTa aWa))))))
theorem inn_X7_span_5 : ∀ w ∈ u_ws RX5 TX5 9, w ∈ wsX7_span := fun _ h => List.mem_cons_of_mem _ (List.mem_append_left _ (List.mem_append_right _ h))
theorem inn_X7_span_7 : ∀ w ∈ u_ws RX7 TX7 14, w ∈ wsX7_span := fun _ h => List.mem_cons_of_mem _ (List.mem_append_left _ (List.mem_append_left _ (List.mem_append_right _ h)))
def rm_X7_span : Room := { frames := 2, cells := 0, slots := 0, locals := 83 }
set_option maxHeartbeats 4000000 in
set_option maxRecDepth 100000 in
theorem ct_X7_span {l : Launch} {D : va_G} {cI cJ cZ cE cD cK : ClassId} {ad : Nat → Nat} {bd dd : Nat → Nat → Nat} {bHK : Int32} {bHP : Int32} {bPF : Int32} {bWC : Int32} {bRi : Int32} {bBe : Int32} {bFi : Int32} {bWa : Nat → Int32} {dB : Nat → Int32} {dS : Nat → Int32} {dN : Nat → Nat → Int64} {tC : Int32} {tKi : Nat → Int32} {tEa : Nat → Int32} {tHa : Nat → Int32} {tPr : Nat → Int32} {tEx : Nat → Int32} {tSt : Nat → Int32} {tTo : Nat → Int32} {tBe : Nat → Int32} {kC : Int32} {kKi : Nat → Int32} {kEa : Nat → Int32} {kHa : Nat → Int32} {kPr : Nat → Int32} {kEx : Nat → Int32} {kSt : Nat → Int32} {kTo : Nat → Int32} {kBe : Nat → Int32} {aC : Int32} {aWh : Nat → Int32} {aTa : Nat → Int32} {aWa : Nat → Int32} {iRo : Nat → Int32} {iEa : Nat → Int32} {iLa : Nat → Int32} {cC : Int32} {nC : Int32} {nFo : Int32} {nQd : Int32} {nRo : Nat → Int32} {nBe : Nat → Int32} {nEa : Nat → Int32} {nMi : Nat → Int32} {nHa : Nat → Int32} {nER : Nat → Int32} {nMR : Nat → Int32} {nTh : Nat → Int32} {nPa : Nat → Int32} {nOu : Nat → Int32} {nFr : Nat → Int32} {nQu : Nat → Int32} {eM : Nat} {eL : Nat → Int32} {eC : Nat → Int64} {eS : Nat → Int64} {eB : Nat → Nat → Int32} {eE : Nat → Nat → Int32} {eF : Nat → Nat → Int32} {eG : Nat → Nat → Int32}   {a1 : Int32} {a2 : Int32} {Qp : Int32 → (Int32) → (Nat → Int32) → (Int32) → (Nat → Int32) → (Nat → Int32) → (Nat → Int32) → Prop}   (h : wp_X7_span bFi tC tEa tHa tTo aC aWh aTa aWa a1 a2 Qp) : CTi l yX7_span wsX7_span rm_X7_span D (tyL cI cJ cZ cE cD cK) [.ref (ad 0), .int a1, .int a2] (WC cI cJ cE cD ad bd dd bHK bHP bPF bWC bRi bBe bFi bWa dB dS dN tC tKi tEa tHa tPr tEx tSt tTo tBe kC kKi kEa kHa kPr kEx kSt kTo kBe aC aWh aTa aWa iRo iEa iLa cC nC nFo nQd nRo nBe nEa nMi nHa nER nMR nTh nPa nOu nFr nQu eM eL eC eS eB eE eF eG) (fun (r : Int32) (u : (Int32) × (Nat → Int32) × (Int32) × (Nat → Int32) × (Nat → Int32) × (Nat → Int32)) => Qp r u.1 u.2.1 u.2.2.1 u.2.2.2.1 u.2.2.2.2.1 u.2.2.2.2.2) (fun u : (Int32) × (Nat → Int32) × (Int32) × (Nat → Int32) × (Nat → Int32) × (Nat → Int32) => (WC cI cJ cE cD ad bd dd bHK bHP bPF bWC bRi bBe u.1 bWa dB dS dN tC tKi tEa tHa tPr tEx tSt u.2.1 tBe kC kKi kEa kHa kPr kEx kSt kTo kBe u.2.2.1 u.2.2.2.1 u.2.2.2.2.1 u.2.2.2.2.2 iRo iEa iLa cC nC nFo nQd nRo nBe nEa nMi nHa nER nMR nTh nPa nOu nFr nQu eM eL eC eS eB eE eF eG)) 0 0 := by
  refine ent_i (cc := cX7_span) (maxL := 4) (ret := (some .int)) (by decide) rfl (Nat.le_of_ble_eq_true rfl) ?_
  intro p e s m args below meth c A Q hQ hx hb hr hml hown hts hlk hA hAB hP hD hS ls hl
  have hown : s.vm.findClass RX7 = some m.cls := hown
  have hl : lv_has ls 4 [(0, .ref (ad 0)), (1, .int a1), (2, .int a2)] := hl
  generalize hH : s.heap = H at hP ⊢
  have hS : va_S A s.heap H [] := by rw [← hH]; exact hS
  clear hH
  generalize ([] : List Loc) = locs at hS ⊢
  have B23 : ∀ (bFi_1 : Int32) (tTo_2 : Nat → Int32) (aC_3 : Int32) (aWh_4 : Nat → Int32) (aTa_5 : Nat → Int32) (aWa_6 : Nat → Int32), wp_X7_span_b23 Qp bFi_1 tTo_2 aC_3 aWh_4 aTa_5 aWa_6 → ∀ (H : Heap) (locs : List Loc) (ls : Array Slot), va_P D vwCl (WC cI cJ cE cD ad bd dd bHK bHP bPF bWC bRi bBe bFi_1 bWa dB dS dN tC tKi tEa tHa tPr tEx tSt tTo_2 tBe kC kKi kEa kHa kPr kEx kSt kTo kBe aC_3 aWh_4 aTa_5 aWa_6 iRo iEa iLa cC nC nFo nQd nRo nBe nEa nMi nHa nER nMR nTh nPa nOu nFr nQu eM eL eC eS eB eE eF eG) H → va_D A (WC cI cJ cE cD ad bd dd bHK bHP bPF bWC bRi bBe bFi_1 bWa dB dS dN tC tKi tEa tHa tPr tEx tSt tTo_2 tBe kC kKi kEa kHa kPr kEx kSt kTo kBe aC_3 aWh_4 aTa_5 aWa_6 iRo iEa iLa cC nC nFo nQd nRo nBe nEa nMi nHa nER nMR nTh nPa nOu nFr nQu eM eL eC eS eB eE eF eG) → va_S A s.heap H locs → lv_has ls 4 [(0, .ref (ad 0))] → W p l e (headSpec wsX7_span rm_X7_span).room s m args below meth c H locs 0 0 Q (F0 m 23 ls []) := by
    intro bFi_1 tTo_2 aC_3 aWh_4 aTa_5 aWa_6 h H locs ls hP hD hS hl
    refine lv_aload_n hx hb dX7_span_23 rfl (lv_at hl 0 rfl) ?_
    refine lv_iconst (v := (-1)) hx hb dX7_span_24 (by decide) ?_
    refine cl_i hD hS hA (va_runV (As := [.int (-1)]) (rest := []) ⟨hx, hb, hml, hown, hts⟩ (ct_X7_finding h H.size) (cwV 1 hts gX7_span_X7_finding rfl rfl rfl (by decide +kernel) ⟨Nat.le_of_ble_eq_true rfl, Nat.le_of_ble_eq_true rfl⟩) ⟨CPre.blind, va_recv hAB.1 hP (ci := 7) (q0 := 0) rfl rfl, wd_pre hAB hP hD hS hA⟩ rfl rfl hl.1 rfl (lv_room (Nat.le_of_ble_eq_true rfl)) dX7_span_25 ⟨Nat.zero_le _, Nat.zero_le _⟩) (fun r_7 bFi_8 H locs h hP hD hS => ?_)
    have hP : va_P D vwCl (WC cI cJ cE cD ad bd dd bHK bHP bPF bWC bRi bBe bFi_8 bWa dB dS dN tC tKi tEa tHa tPr tEx tSt tTo_2 tBe kC kKi kEa kHa kPr kEx kSt kTo kBe aC_3 aWh_4 aTa_5 aWa_6 iRo iEa iLa cC nC nFo nQd nRo nBe nEa nMi nHa nER nMR nTh nPa nOu nFr nQu eM eL eC eS eB eE eF eG) H := hP
    have hD : va_D A (WC cI cJ cE cD ad bd dd bHK bHP bPF bWC bRi bBe bFi_8 bWa dB dS dN tC tKi tEa tHa tPr tEx tSt tTo_2 tBe kC kKi kEa kHa kPr kEx kSt kTo kBe aC_3 aWh_4 aTa_5 aWa_6 iRo iEa iLa cC nC nFo nQd nRo nBe nEa nMi nHa nER nMR nTh nPa nOu nFr nQu eM eL eC eS eB eE eF eG) := hD
    exact rt_i (bFi_8, tTo_2, aC_3, aWh_4, aTa_5, aWa_6) hQ hx hb hr hlk hP hD hS ⟨Nat.zero_le _, Nat.zero_le _⟩ dX7_span_28 h
  refine lv_aload_n hx hb dX7_span_0 rfl (lv_at hl 0 rfl) ?_
  refine va_get (D := D) (ci := 7) (C := RX7) (T := TX7) (N := 14) hx hb hts inn_X7_span_7 hown hAB.1 hP 0 rfl rfl 1 (by decide) (hts (.fieldLink RX7 19 "BarnBench" "tasks" "LBarnBench$Tasks;") (by decide +kernel)) (fun _ h9 => h9) rfl dX7_span_1 ?_
  refine lv_iload_n hx hb dX7_span_4 rfl (lv_at hl 1 rfl) ?_
  refine cl_i hD hS hA (va_runV (As := [.int a1]) (rest := []) ⟨hx, hb, hml, hown, hts⟩ (ct_X5_has h H.size) (cwV 1 hts gX7_span_X5_has rfl rfl rfl (by decide +kernel) ⟨Nat.le_of_ble_eq_true rfl, Nat.le_of_ble_eq_true rfl⟩) ⟨CPre.blind, va_recv hAB.1 hP (ci := 5) (q0 := 10) rfl rfl, wd_pre hAB hP hD hS hA⟩ rfl rfl hl.1 rfl (lv_room (Nat.le_of_ble_eq_true rfl)) dX7_span_5 ⟨Nat.zero_le _, Nat.zero_le _⟩) (fun r_9 u H locs h hP hD hS => ?_)
  refine lv_if_eq (tgt := 23) hx hb dX7_span_8 (by decide) (fun c_10 => ?_) (fun c_10 => ?_)
  · have h := h.1 c_10
    exact B23 bFi tTo aC aWh aTa aWa h H locs ls hP hD hS (lv_sub hl [0] rfl)
  · have h := h.2 c_10
    refine lv_aload_n hx hb dX7_span_11 rfl (lv_at hl 0 rfl) ?_
    refine va_get (D := D) (ci := 7) (C := RX7) (T := TX7) (N := 14) hx hb hts inn_X7_span_7 hown hAB.1 hP 0 rfl rfl 1 (by decide) (hts (.fieldLink RX7 19 "BarnBench" "tasks" "LBarnBench$Tasks;") (by decide +kernel)) (fun _ h9 => h9) rfl dX7_span_12 ?_
    refine lv_iload_n hx hb dX7_span_15 rfl (lv_at hl 1 rfl) ?_
    refine lv_iload_n hx hb dX7_span_16 rfl (lv_at hl 2 rfl) ?_
    refine cl_i hD hS hA (va_runV (As := [.int a1, .int a2]) (rest := []) ⟨hx, hb, hml, hown, hts⟩ (ct_X5_allows h H.size) (cwV 2 hts gX7_span_X5_allows rfl rfl rfl (by decide +kernel) ⟨Nat.le_of_ble_eq_true rfl, Nat.le_of_ble_eq_true rfl⟩) ⟨CPre.blind, va_recv hAB.1 hP (ci := 5) (q0 := 10) rfl rfl, wd_pre hAB hP hD hS hA⟩ rfl rfl hl.1 rfl (lv_room (Nat.le_of_ble_eq_true rfl)) dX7_span_17 ⟨Nat.zero_le _, Nat.zero_le _⟩) (fun r_11 u H locs h hP hD hS => ?_)
    refine lv_if_ne (tgt := 29) hx hb dX7_span_20 (by decide) (fun c_12 => ?_) (fun c_12 => ?_)
    · have h := h.1 c_12
      refine lv_aload_n hx hb dX7_span_29 rfl (lv_at hl 0 rfl) ?_
      refine va_get (D := D) (ci := 7) (C := RX7) (T := TX7) (N := 14) hx hb hts inn_X7_span_7 hown hAB.1 hP 0 rfl rfl 1 (by decide) (hts (.fieldLink RX7 19 "BarnBench" "tasks" "LBarnBench$Tasks;") (by decide +kernel)) (fun _ h9 => h9) rfl dX7_span_30 ?_
      refine va_get (D := D) (ci := 5) (C := RX5) (T := TX5) (N := 9) hx hb hts inn_X7_span_5 hown hAB.1 hP 10 rfl rfl 7 (by decide) (hts (.fieldLink RX7 169 "BarnBench$Tasks" "told" "[I") (by decide +kernel)) (fun _ h9 => h9) rfl dX7_span_33 ?_
      refine lv_iload_n hx hb dX7_span_36 rfl (lv_at hl 1 rfl) ?_
      refine va_iald hx hb hAB.1 hP 17 0 rfl rfl h.1 dX7_span_37 ?_
      have h := h.2
      refine lv_topi (fun x3_13 e_14 => ?_)
      have h := h x3_13 e_14
      refine lv_istore_n (lv' := [(3, .int x3_13), (0, .ref (ad 0)), (1, .int a1), (2, .int a2)]) hx hb dX7_span_38 rfl hl (by decide) rfl (fun ls hl => ?_)
      refine lv_aload_n hx hb dX7_span_39 rfl (lv_at hl 1 rfl) ?_
      refine va_get (D := D) (ci := 7) (C := RX7) (T := TX7) (N := 14) hx hb hts inn_X7_span_7 hown hAB.1 hP 0 rfl rfl 1 (by decide) (hts (.fieldLink RX7 19 "BarnBench" "tasks" "LBarnBench$Tasks;") (by decide +kernel)) (fun _ h9 => h9) rfl dX7_span_40 ?_
      refine va_get (D := D) (ci := 5) (C := RX5) (T := TX5) (N := 9) hx hb hts inn_X7_span_5 hown hAB.1 hP 10 rfl rfl 7 (by decide) (hts (.fieldLink RX7 169 "BarnBench$Tasks" "told" "[I") (by decide +kernel)) (fun _ h9 => h9) rfl dX7_span_43 ?_
      refine lv_iload_n hx hb dX7_span_46 rfl (lv_at hl 2 rfl) ?_
      refine lv_iload_n hx hb dX7_span_47 rfl (lv_at hl 3 rfl) ?_
      refine sC_17 hx hb hAB hP hD hS h.1 dX7_span_48 (fun tTo_15 H locs e_16 hP hD hS => ?_)
      have h := h.2
      have h := h tTo_15 e_16
      refine lv_aload_n hx hb dX7_span_49 rfl (lv_at hl 1 rfl) ?_
      refine va_get (D := D) (ci := 7) (C := RX7) (T := TX7) (N := 14) hx hb hts inn_X7_span_7 hown hAB.1 hP 0 rfl rfl 4 (by decide) (hts (.fieldLink RX7 29 "BarnBench" "acts" "LBarnBench$Acts;") (by decide +kernel)) (fun _ h9 => h9) rfl dX7_span_50 ?_
      refine lv_iconst (v := 2) hx hb dX7_span_53 (by decide) ?_
      refine lv_iload_n hx hb dX7_span_54 rfl (lv_at hl 2 rfl) ?_
      refine lv_iload_n hx hb dX7_span_55 rfl (lv_at hl 0 rfl) ?_
      refine cl_v hD hS hA (va_runV (As := [.int 2, .int a1, .int x3_13]) (rest := []) ⟨hx, hb, hml, hown, hts⟩ (ct_X0_add h H.size) (cwV 3 hts gX7_span_X0_add rfl rfl rfl (by decide +kernel) ⟨Nat.le_of_ble_eq_true rfl, Nat.le_of_ble_eq_true rfl⟩) ⟨CPre.blind, va_recv hAB.1 hP (ci := 0) (q0 := 28) rfl rfl, wd_pre hAB hP hD hS hA⟩ rfl rfl hl.1 rfl (lv_room (Nat.le_of_ble_eq_true rfl)) dX7_span_56 ⟨Nat.zero_le _, Nat.zero_le _⟩) (fun u H locs h hP hD hS => ?_)
      obtain ⟨aC_17, aWh_18, aTa_19, aWa_20⟩ := u
      have hP : va_P D vwCl (WC cI cJ cE cD ad bd dd bHK bHP bPF bWC bRi bBe bFi bWa dB dS dN tC tKi tEa tHa tPr tEx tSt tTo_15 tBe kC kKi kEa kHa kPr kEx kSt kTo kBe aC_17 aWh_18 aTa_19 aWa_20 iRo iEa iLa cC nC nFo nQd nRo nBe nEa nMi nHa nER nMR nTh nPa nOu nFr nQu eM eL eC eS eB eE eF eG) H := hP
      have hD : va_D A (WC cI cJ cE cD ad bd dd bHK bHP bPF bWC bRi bBe bFi bWa dB dS dN tC tKi tEa tHa tPr tEx tSt tTo_15 tBe kC kKi kEa kHa kPr kEx kSt kTo kBe aC_17 aWh_18 aTa_19 aWa_20 iRo iEa iLa cC nC nFo nQd nRo nBe nEa nMi nHa nER nMR nTh nPa nOu nFr nQu eM eL eC eS eB eE eF eG) := hD
      refine lv_iload_n hx hb dX7_span_59 rfl (lv_at hl 0 rfl) ?_
      exact rt_i (bFi, tTo_15, aC_17, aWh_18, aTa_19, aWa_20) hQ hx hb hr hlk hP hD hS ⟨Nat.zero_le _, Nat.zero_le _⟩ dX7_span_60 h
    · have h := h.2 c_12
      exact B23 bFi tTo aC aWh aTa aWa h H locs ls hP hD hS (lv_sub hl [0] rfl)
def wp_X7_length (tC : Int32) (tTo : Nat → Int32) (tBe : Nat → Int32) (iRo : Nat → Int32) (iEa : Nat → Int32)  (Qp : Int32 → (Nat → Int32) → (Nat → Int32) → Prop) : Prop :=
  wp_X6_beginEarly tTo tC tBe iRo iEa (fun (r_1 : Int32) (iRo_2 : Nat → Int32) (iEa_3 : Nat → Int32) => Qp r_1 iRo_2 iEa_3)
theorem inn_X7_length_5 : ∀ w ∈ u_ws RX5 TX5 9, w ∈ wsX7_length := fun _ h => List.mem_cons_of_mem _ (List.mem_append_left _ (List.mem_append_right _ h))
theorem inn_X7_length_7 : ∀ w ∈ u_ws RX7 TX7 14, w ∈ wsX7_length := fun _ h => List.mem_cons_of_mem _ (List.mem_append_left _ (List.mem_append_left _ (List.mem_append_right _ h)))
def rm_X7_length : Room := { frames := 3, cells := 0, slots := 0, locals := 74 }
set_option maxHeartbeats 4000000 in
set_option maxRecDepth 100000 in
theorem ct_X7_length {l : Launch} {D : va_G} {cI cJ cZ cE cD cK : ClassId} {ad : Nat → Nat} {bd dd : Nat → Nat → Nat} {bHK : Int32} {bHP : Int32} {bPF : Int32} {bWC : Int32} {bRi : Int32} {bBe : Int32} {bFi : Int32} {bWa : Nat → Int32} {dB : Nat → Int32} {dS : Nat → Int32} {dN : Nat → Nat → Int64} {tC : Int32} {tKi : Nat → Int32} {tEa : Nat → Int32} {tHa : Nat → Int32} {tPr : Nat → Int32} {tEx : Nat → Int32} {tSt : Nat → Int32} {tTo : Nat → Int32} {tBe : Nat → Int32} {kC : Int32} {kKi : Nat → Int32} {kEa : Nat → Int32} {kHa : Nat → Int32} {kPr : Nat → Int32} {kEx : Nat → Int32} {kSt : Nat → Int32} {kTo : Nat → Int32} {kBe : Nat → Int32} {aC : Int32} {aWh : Nat → Int32} {aTa : Nat → Int32} {aWa : Nat → Int32} {iRo : Nat → Int32} {iEa : Nat → Int32} {iLa : Nat → Int32} {cC : Int32} {nC : Int32} {nFo : Int32} {nQd : Int32} {nRo : Nat → Int32} {nBe : Nat → Int32} {nEa : Nat → Int32} {nMi : Nat → Int32} {nHa : Nat → Int32} {nER : Nat → Int32} {nMR : Nat → Int32} {nTh : Nat → Int32} {nPa : Nat → Int32} {nOu : Nat → Int32} {nFr : Nat → Int32} {nQu : Nat → Int32} {eM : Nat} {eL : Nat → Int32} {eC : Nat → Int64} {eS : Nat → Int64} {eB : Nat → Nat → Int32} {eE : Nat → Nat → Int32} {eF : Nat → Nat → Int32} {eG : Nat → Nat → Int32}    {Qp : Int32 → (Nat → Int32) → (Nat → Int32) → Prop}   (h : wp_X7_length tC tTo tBe iRo iEa Qp) : CTi l yX7_length wsX7_length rm_X7_length D (tyL cI cJ cZ cE cD cK) [.ref (ad 0)] (WC cI cJ cE cD ad bd dd bHK bHP bPF bWC bRi bBe bFi bWa dB dS dN tC tKi tEa tHa tPr tEx tSt tTo tBe kC kKi kEa kHa kPr kEx kSt kTo kBe aC aWh aTa aWa iRo iEa iLa cC nC nFo nQd nRo nBe nEa nMi nHa nER nMR nTh nPa nOu nFr nQu eM eL eC eS eB eE eF eG) (fun (r : Int32) (u : (Nat → Int32) × (Nat → Int32)) => Qp r u.1 u.2) (fun u : (Nat → Int32) × (Nat → Int32) => (WC cI cJ cE cD ad bd dd bHK bHP bPF bWC bRi bBe bFi bWa dB dS dN tC tKi tEa tHa tPr tEx tSt tTo tBe kC kKi kEa kHa kPr kEx kSt kTo kBe aC aWh aTa aWa u.1 u.2 iLa cC nC nFo nQd nRo nBe nEa nMi nHa nER nMR nTh nPa nOu nFr nQu eM eL eC eS eB eE eF eG)) 0 0 := by
  refine ent_i (cc := cX7_length) (maxL := 1) (ret := (some .int)) (by decide) rfl (Nat.le_of_ble_eq_true rfl) ?_
  intro p e s m args below meth c A Q hQ hx hb hr hml hown hts hlk hA hAB hP hD hS ls hl
  have hown : s.vm.findClass RX7 = some m.cls := hown
  have hl : lv_has ls 1 [(0, .ref (ad 0))] := hl
  generalize hH : s.heap = H at hP ⊢
  have hS : va_S A s.heap H [] := by rw [← hH]; exact hS
  clear hH
  generalize ([] : List Loc) = locs at hS ⊢
  refine lv_aload_n hx hb dX7_length_0 rfl (lv_at hl 0 rfl) ?_
  refine va_get (D := D) (ci := 7) (C := RX7) (T := TX7) (N := 14) hx hb hts inn_X7_length_7 hown hAB.1 hP 0 rfl rfl 5 (by decide) (hts (.fieldLink RX7 36 "BarnBench" "timing" "LBarnBench$Timing;") (by decide +kernel)) (fun _ h9 => h9) rfl dX7_length_1 ?_
  refine lv_aload_n hx hb dX7_length_4 rfl (lv_at hl 0 rfl) ?_
  refine va_get (D := D) (ci := 7) (C := RX7) (T := TX7) (N := 14) hx hb hts inn_X7_length_7 hown hAB.1 hP 0 rfl rfl 1 (by decide) (hts (.fieldLink RX7 19 "BarnBench" "tasks" "LBarnBench$Tasks;") (by decide +kernel)) (fun _ h9 => h9) rfl dX7_length_5 ?_
  refine lv_aload_n hx hb dX7_length_8 rfl (lv_at hl 0 rfl) ?_
  refine va_get (D := D) (ci := 7) (C := RX7) (T := TX7) (N := 14) hx hb hts inn_X7_length_7 hown hAB.1 hP 0 rfl rfl 1 (by decide) (hts (.fieldLink RX7 19 "BarnBench" "tasks" "LBarnBench$Tasks;") (by decide +kernel)) (fun _ h9 => h9) rfl dX7_length_9 ?_
  refine va_get (D := D) (ci := 5) (C := RX5) (T := TX5) (N := 9) hx hb hts inn_X7_length_5 hown hAB.1 hP 10 rfl rfl 7 (by decide) (hts (.fieldLink RX7 169 "BarnBench$Tasks" "told" "[I") (by decide +kernel)) (fun _ h9 => h9) rfl dX7_length_12 ?_
  refine cl_i hD hS hA (va_runV (As := [.ref (ad 10), .ref (ad 17)]) (rest := []) ⟨hx, hb, hml, hown, hts⟩ (ct_X6_beginEarly_1 h H.size) (cwV 2 hts gX7_length_X6_beginEarly rfl rfl rfl (by decide +kernel) ⟨Nat.le_of_ble_eq_true rfl, Nat.le_of_ble_eq_true rfl⟩) ⟨CPre.blind, va_recv hAB.1 hP (ci := 6) (q0 := 32) rfl rfl, wd_pre hAB hP hD hS hA⟩ rfl rfl hl.1 rfl (lv_room (Nat.le_of_ble_eq_true rfl)) dX7_length_15 ⟨Nat.zero_le _, Nat.zero_le _⟩) (fun r_1 u H locs h hP hD hS => ?_)
  obtain ⟨iRo_2, iEa_3⟩ := u
  have hP : va_P D vwCl (WC cI cJ cE cD ad bd dd bHK bHP bPF bWC bRi bBe bFi bWa dB dS dN tC tKi tEa tHa tPr tEx tSt tTo tBe kC kKi kEa kHa kPr kEx kSt kTo kBe aC aWh aTa aWa iRo_2 iEa_3 iLa cC nC nFo nQd nRo nBe nEa nMi nHa nER nMR nTh nPa nOu nFr nQu eM eL eC eS eB eE eF eG) H := hP
  have hD : va_D A (WC cI cJ cE cD ad bd dd bHK bHP bPF bWC bRi bBe bFi bWa dB dS dN tC tKi tEa tHa tPr tEx tSt tTo tBe kC kKi kEa kHa kPr kEx kSt kTo kBe aC aWh aTa aWa iRo_2 iEa_3 iLa cC nC nFo nQd nRo nBe nEa nMi nHa nER nMR nTh nPa nOu nFr nQu eM eL eC eS eB eE eF eG) := hD
  exact rt_i (iRo_2, iEa_3) hQ hx hb hr hlk hP hD hS ⟨Nat.zero_le _, Nat.zero_le _⟩ dX7_length_18 h
def wp_X7_early (bFi : Int32) (tC : Int32) (tTo : Nat → Int32) (tBe : Nat → Int32) (iRo : Nat → Int32) (iEa : Nat → Int32) (iLa : Nat → Int32) (a1 : Int32) (a2 : Int32) (Qp : Int32 → (Int32) → (Nat → Int32) → (Nat → Int32) → (Nat → Int32) → Prop) : Prop :=
  wp_X5_has tC a1 (fun (r_1 : Int32) => ((¬ r_1 = 0 → wp_X6_beginBoth tTo tC tBe iRo iEa iLa (fun (iRo_3 : Nat → Int32) (iEa_4 : Nat → Int32) (iLa_5 : Nat → Int32) => ((a2 = 0 → vp_in a1 12 ∧ Qp (iEa_4 (Int32.toNatClampNeg a1)) bFi iRo_3 iEa_4 iLa_5) ∧
   (¬ a2 = 0 → vp_in a1 12 ∧ Qp (iLa_5 (Int32.toNatClampNeg a1)) bFi iRo_3 iEa_4 iLa_5)))) ∧
   (r_1 = 0 → wp_X7_finding bFi (-1) (fun (r_7 : Int32) (bFi_8 : Int32) => Qp r_7 bFi_8 iRo iEa iLa))))
theorem inn_X7_early_5 : ∀ w ∈ u_ws RX5 TX5 9, w ∈ wsX7_early := fun _ h => List.mem_cons_of_mem _ (List.mem_append_left _ (List.mem_append_right _ h))
theorem inn_X7_early_6 : ∀ w ∈ u_ws RX6 TX6 3, w ∈ wsX7_early := fun _ h => List.mem_cons_of_mem _ (List.mem_append_right _ h)
theorem inn_X7_early_7 : ∀ w ∈ u_ws RX7 TX7 14, w ∈ wsX7_early := fun _ h => List.mem_cons_of_mem _ (List.mem_append_left _ (List.mem_append_left _ (List.mem_append_right _ h)))
def rm_X7_early : Room := { frames := 4, cells := 0, slots := 0, locals := 102 }
set_option maxHeartbeats 4000000 in
set_option maxRecDepth 100000 in
theorem ct_X7_early {l : Launch} {D : va_G} {cI cJ cZ cE cD cK : ClassId} {ad : Nat → Nat} {bd dd : Nat → Nat → Nat} {bHK : Int32} {bHP : Int32} {bPF : Int32} {bWC : Int32} {bRi : Int32} {bBe : Int32} {bFi : Int32} {bWa : Nat → Int32} {dB : Nat → Int32} {dS : Nat → Int32} {dN : Nat → Nat → Int64} {tC : Int32} {tKi : Nat → Int32} {tEa : Nat → Int32} {tHa : Nat → Int32} {tPr : Nat → Int32} {tEx : Nat → Int32} {tSt : Nat → Int32} {tTo : Nat → Int32} {tBe : Nat → Int32} {kC : Int32} {kKi : Nat → Int32} {kEa : Nat → Int32} {kHa : Nat → Int32} {kPr : Nat → Int32} {kEx : Nat → Int32} {kSt : Nat → Int32} {kTo : Nat → Int32} {kBe : Nat → Int32} {aC : Int32} {aWh : Nat → Int32} {aTa : Nat → Int32} {aWa : Nat → Int32} {iRo : Nat → Int32} {iEa : Nat → Int32} {iLa : Nat → Int32} {cC : Int32} {nC : Int32} {nFo : Int32} {nQd : Int32} {nRo : Nat → Int32} {nBe : Nat → Int32} {nEa : Nat → Int32} {nMi : Nat → Int32} {nHa : Nat → Int32} {nER : Nat → Int32} {nMR : Nat → Int32} {nTh : Nat → Int32} {nPa : Nat → Int32} {nOu : Nat → Int32} {nFr : Nat → Int32} {nQu : Nat → Int32} {eM : Nat} {eL : Nat → Int32} {eC : Nat → Int64} {eS : Nat → Int64} {eB : Nat → Nat → Int32} {eE : Nat → Nat → Int32} {eF : Nat → Nat → Int32} {eG : Nat → Nat → Int32}   {a1 : Int32} {a2 : Int32} {Qp : Int32 → (Int32) → (Nat → Int32) → (Nat → Int32) → (Nat → Int32) → Prop}   (h : wp_X7_early bFi tC tTo tBe iRo iEa iLa a1 a2 Qp) : CTi l yX7_early wsX7_early rm_X7_early D (tyL cI cJ cZ cE cD cK) [.ref (ad 0), .int a1, .int a2] (WC cI cJ cE cD ad bd dd bHK bHP bPF bWC bRi bBe bFi bWa dB dS dN tC tKi tEa tHa tPr tEx tSt tTo tBe kC kKi kEa kHa kPr kEx kSt kTo kBe aC aWh aTa aWa iRo iEa iLa cC nC nFo nQd nRo nBe nEa nMi nHa nER nMR nTh nPa nOu nFr nQu eM eL eC eS eB eE eF eG) (fun (r : Int32) (u : (Int32) × (Nat → Int32) × (Nat → Int32) × (Nat → Int32)) => Qp r u.1 u.2.1 u.2.2.1 u.2.2.2) (fun u : (Int32) × (Nat → Int32) × (Nat → Int32) × (Nat → Int32) => (WC cI cJ cE cD ad bd dd bHK bHP bPF bWC bRi bBe u.1 bWa dB dS dN tC tKi tEa tHa tPr tEx tSt tTo tBe kC kKi kEa kHa kPr kEx kSt kTo kBe aC aWh aTa aWa u.2.1 u.2.2.1 u.2.2.2 cC nC nFo nQd nRo nBe nEa nMi nHa nER nMR nTh nPa nOu nFr nQu eM eL eC eS eB eE eF eG)) 0 0 := by
  refine ent_i (cc := cX7_early) (maxL := 3) (ret := (some .int)) (by decide) rfl (Nat.le_of_ble_eq_true rfl) ?_
  intro p e s m args below meth c A Q hQ hx hb hr hml hown hts hlk hA hAB hP hD hS ls hl
  have hown : s.vm.findClass RX7 = some m.cls := hown
  have hl : lv_has ls 3 [(0, .ref (ad 0)), (1, .int a1), (2, .int a2)] := hl
  generalize hH : s.heap = H at hP ⊢
  have hS : va_S A s.heap H [] := by rw [← hH]; exact hS
  clear hH
  generalize ([] : List Loc) = locs at hS ⊢
  refine lv_aload_n hx hb dX7_early_0 rfl (lv_at hl 0 rfl) ?_
  refine va_get (D := D) (ci := 7) (C := RX7) (T := TX7) (N := 14) hx hb hts inn_X7_early_7 hown hAB.1 hP 0 rfl rfl 1 (by decide) (hts (.fieldLink RX7 19 "BarnBench" "tasks" "LBarnBench$Tasks;") (by decide +kernel)) (fun _ h9 => h9) rfl dX7_early_1 ?_
  refine lv_iload_n hx hb dX7_early_4 rfl (lv_at hl 1 rfl) ?_
  refine cl_i hD hS hA (va_runV (As := [.int a1]) (rest := []) ⟨hx, hb, hml, hown, hts⟩ (ct_X5_has h H.size) (cwV 1 hts gX7_early_X5_has rfl rfl rfl (by decide +kernel) ⟨Nat.le_of_ble_eq_true rfl, Nat.le_of_ble_eq_true rfl⟩) ⟨CPre.blind, va_recv hAB.1 hP (ci := 5) (q0 := 10) rfl rfl, wd_pre hAB hP hD hS hA⟩ rfl rfl hl.1 rfl (lv_room (Nat.le_of_ble_eq_true rfl)) dX7_early_5 ⟨Nat.zero_le _, Nat.zero_le _⟩) (fun r_1 u H locs h hP hD hS => ?_)
  refine lv_if_ne (tgt := 17) hx hb dX7_early_8 (by decide) (fun c_2 => ?_) (fun c_2 => ?_)
  · have h := h.1 c_2
    refine lv_aload_n hx hb dX7_early_17 rfl (lv_at hl 0 rfl) ?_
    refine va_get (D := D) (ci := 7) (C := RX7) (T := TX7) (N := 14) hx hb hts inn_X7_early_7 hown hAB.1 hP 0 rfl rfl 5 (by decide) (hts (.fieldLink RX7 36 "BarnBench" "timing" "LBarnBench$Timing;") (by decide +kernel)) (fun _ h9 => h9) rfl dX7_early_18 ?_
    refine lv_aload_n hx hb dX7_early_21 rfl (lv_at hl 0 rfl) ?_
    refine va_get (D := D) (ci := 7) (C := RX7) (T := TX7) (N := 14) hx hb hts inn_X7_early_7 hown hAB.1 hP 0 rfl rfl 1 (by decide) (hts (.fieldLink RX7 19 "BarnBench" "tasks" "LBarnBench$Tasks;") (by decide +kernel)) (fun _ h9 => h9) rfl dX7_early_22 ?_
    refine lv_aload_n hx hb dX7_early_25 rfl (lv_at hl 0 rfl) ?_
    refine va_get (D := D) (ci := 7) (C := RX7) (T := TX7) (N := 14) hx hb hts inn_X7_early_7 hown hAB.1 hP 0 rfl rfl 1 (by decide) (hts (.fieldLink RX7 19 "BarnBench" "tasks" "LBarnBench$Tasks;") (by decide +kernel)) (fun _ h9 => h9) rfl dX7_early_26 ?_
    refine va_get (D := D) (ci := 5) (C := RX5) (T := TX5) (N := 9) hx hb hts inn_X7_early_5 hown hAB.1 hP 10 rfl rfl 7 (by decide) (hts (.fieldLink RX7 169 "BarnBench$Tasks" "told" "[I") (by decide +kernel)) (fun _ h9 => h9) rfl dX7_early_29 ?_
    refine cl_v hD hS hA (va_runV (As := [.ref (ad 10), .ref (ad 17)]) (rest := []) ⟨hx, hb, hml, hown, hts⟩ (ct_X6_beginBoth h H.size) (cwV 2 hts gX7_early_X6_beginBoth rfl rfl rfl (by decide +kernel) ⟨Nat.le_of_ble_eq_true rfl, Nat.le_of_ble_eq_true rfl⟩) ⟨CPre.blind, va_recv hAB.1 hP (ci := 6) (q0 := 32) rfl rfl, wd_pre hAB hP hD hS hA⟩ rfl rfl hl.1 rfl (lv_room (Nat.le_of_ble_eq_true rfl)) dX7_early_32 ⟨Nat.zero_le _, Nat.zero_le _⟩) (fun u H locs h hP hD hS => ?_)
    obtain ⟨iRo_3, iEa_4, iLa_5⟩ := u
    have hP : va_P D vwCl (WC cI cJ cE cD ad bd dd bHK bHP bPF bWC bRi bBe bFi bWa dB dS dN tC tKi tEa tHa tPr tEx tSt tTo tBe kC kKi kEa kHa kPr kEx kSt kTo kBe aC aWh aTa aWa iRo_3 iEa_4 iLa_5 cC nC nFo nQd nRo nBe nEa nMi nHa nER nMR nTh nPa nOu nFr nQu eM eL eC eS eB eE eF eG) H := hP
    have hD : va_D A (WC cI cJ cE cD ad bd dd bHK bHP bPF bWC bRi bBe bFi bWa dB dS dN tC tKi tEa tHa tPr tEx tSt tTo tBe kC kKi kEa kHa kPr kEx kSt kTo kBe aC aWh aTa aWa iRo_3 iEa_4 iLa_5 cC nC nFo nQd nRo nBe nEa nMi nHa nER nMR nTh nPa nOu nFr nQu eM eL eC eS eB eE eF eG) := hD
    refine lv_iload_n hx hb dX7_early_35 rfl (lv_at hl 2 rfl) ?_
    refine lv_if_eq (tgt := 51) hx hb dX7_early_36 (by decide) (fun c_6 => ?_) (fun c_6 => ?_)
    · have h := h.1 c_6
      refine lv_aload_n hx hb dX7_early_51 rfl (lv_at hl 0 rfl) ?_
      refine va_get (D := D) (ci := 7) (C := RX7) (T := TX7) (N := 14) hx hb hts inn_X7_early_7 hown hAB.1 hP 0 rfl rfl 5 (by decide) (hts (.fieldLink RX7 36 "BarnBench" "timing" "LBarnBench$Timing;") (by decide +kernel)) (fun _ h9 => h9) rfl dX7_early_52 ?_
      refine va_get (D := D) (ci := 6) (C := RX6) (T := TX6) (N := 3) hx hb hts inn_X7_early_6 hown hAB.1 hP 32 rfl rfl 1 (by decide) (hts (.fieldLink RX7 183 "BarnBench$Timing" "earlies" "[I") (by decide +kernel)) (fun _ h9 => h9) rfl dX7_early_55 ?_
      refine lv_iload_n hx hb dX7_early_58 rfl (lv_at hl 1 rfl) ?_
      refine va_iald hx hb hAB.1 hP 34 0 rfl rfl h.1 dX7_early_59 ?_
      have h := h.2
      exact rt_i (bFi, iRo_3, iEa_4, iLa_5) hQ hx hb hr hlk hP hD hS ⟨Nat.zero_le _, Nat.zero_le _⟩ dX7_early_60 h
    · have h := h.2 c_6
      refine lv_aload_n hx hb dX7_early_39 rfl (lv_at hl 0 rfl) ?_
      refine va_get (D := D) (ci := 7) (C := RX7) (T := TX7) (N := 14) hx hb hts inn_X7_early_7 hown hAB.1 hP 0 rfl rfl 5 (by decide) (hts (.fieldLink RX7 36 "BarnBench" "timing" "LBarnBench$Timing;") (by decide +kernel)) (fun _ h9 => h9) rfl dX7_early_40 ?_
      refine va_get (D := D) (ci := 6) (C := RX6) (T := TX6) (N := 3) hx hb hts inn_X7_early_6 hown hAB.1 hP 32 rfl rfl 2 (by decide) (hts (.fieldLink RX7 180 "BarnBench$Timing" "lates" "[I") (by decide +kernel)) (fun _ h9 => h9) rfl dX7_early_43 ?_
      refine lv_iload_n hx hb dX7_early_46 rfl (lv_at hl 1 rfl) ?_
      refine va_iald hx hb hAB.1 hP 35 0 rfl rfl h.1 dX7_early_47 ?_
      have h := h.2
      refine lv_goto (tgt := 60) hx hb dX7_early_48 (by decide) ?_
      exact rt_i (bFi, iRo_3, iEa_4, iLa_5) hQ hx hb hr hlk hP hD hS ⟨Nat.zero_le _, Nat.zero_le _⟩ dX7_early_60 h
  · have h := h.2 c_2
    refine lv_aload_n hx hb dX7_early_11 rfl (lv_at hl 0 rfl) ?_
    refine lv_iconst (v := (-1)) hx hb dX7_early_12 (by decide) ?_
    refine cl_i hD hS hA (va_runV (As := [.int (-1)]) (rest := []) ⟨hx, hb, hml, hown, hts⟩ (ct_X7_finding h H.size) (cwV 1 hts gX7_early_X7_finding rfl rfl rfl (by decide +kernel) ⟨Nat.le_of_ble_eq_true rfl, Nat.le_of_ble_eq_true rfl⟩) ⟨CPre.blind, va_recv hAB.1 hP (ci := 7) (q0 := 0) rfl rfl, wd_pre hAB hP hD hS hA⟩ rfl rfl hl.1 rfl (lv_room (Nat.le_of_ble_eq_true rfl)) dX7_early_13 ⟨Nat.zero_le _, Nat.zero_le _⟩) (fun r_7 bFi_8 H locs h hP hD hS => ?_)
    have hP : va_P D vwCl (WC cI cJ cE cD ad bd dd bHK bHP bPF bWC bRi bBe bFi_8 bWa dB dS dN tC tKi tEa tHa tPr tEx tSt tTo tBe kC kKi kEa kHa kPr kEx kSt kTo kBe aC aWh aTa aWa iRo iEa iLa cC nC nFo nQd nRo nBe nEa nMi nHa nER nMR nTh nPa nOu nFr nQu eM eL eC eS eB eE eF eG) H := hP
    have hD : va_D A (WC cI cJ cE cD ad bd dd bHK bHP bPF bWC bRi bBe bFi_8 bWa dB dS dN tC tKi tEa tHa tPr tEx tSt tTo tBe kC kKi kEa kHa kPr kEx kSt kTo kBe aC aWh aTa aWa iRo iEa iLa cC nC nFo nQd nRo nBe nEa nMi nHa nER nMR nTh nPa nOu nFr nQu eM eL eC eS eB eE eF eG) := hD
    exact rt_i (bFi_8, iRo, iEa, iLa) hQ hx hb hr hlk hP hD hS ⟨Nat.zero_le _, Nat.zero_le _⟩ dX7_early_16 h
def wp_X7_tight_b60 (k22 : (Int32) → (Int32) → Prop) (x1_7 : Int32) (x2_8 : Int32) : Prop :=
  ∀ x2_9 : Int32, x2_9 = x2_8 + 1 → k22 x1_7 x2_9
def wp_X7_tight_L22 (tC : Int32) (iEa_2 : Nat → Int32) (iLa_3 : Nat → Int32) (x22 : (Int32) → Prop) : Nat → (Int32) → (Int32) → Prop
  | 0, _, _ => False
  | n22 + 1, x1_4, x2_5 =>
  ((tC ≤ x2_5 → x22 x1_4) ∧
   (¬ tC ≤ x2_5 → vp_in x2_5 12 ∧ vp_in x2_5 12 ∧ ((¬ (iEa_2 (Int32.toNatClampNeg x2_5)) = (iLa_3 (Int32.toNatClampNeg x2_5)) → wp_X7_tight_b60 (wp_X7_tight_L22 tC iEa_2 iLa_3 x22 n22) x1_4 x2_5) ∧
   ((iEa_2 (Int32.toNatClampNeg x2_5)) = (iLa_3 (Int32.toNatClampNeg x2_5)) → ∀ x1_13 : Int32, x1_13 = (x1_4 ||| (1 <<< (x2_5 &&& 31))) → wp_X7_tight_b60 (wp_X7_tight_L22 tC iEa_2 iLa_3 x22 n22) x1_13 x2_5))))
def wp_X7_tight (tC : Int32) (tTo : Nat → Int32) (tBe : Nat → Int32) (iRo : Nat → Int32) (iEa : Nat → Int32) (iLa : Nat → Int32)  (Qp : Int32 → (Nat → Int32) → (Nat → Int32) → (Nat → Int32) → Prop) : Prop :=
  wp_X6_beginBoth tTo tC tBe iRo iEa iLa (fun (iRo_1 : Nat → Int32) (iEa_2 : Nat → Int32) (iLa_3 : Nat → Int32) => (∃ n22 : Nat, wp_X7_tight_L22 tC iEa_2 iLa_3 (fun (x1_6 : Int32) => Qp x1_6 iRo_1 iEa_2 iLa_3) n22 0 0))
theorem inn_X7_tight_5 : ∀ w ∈ u_ws RX5 TX5 9, w ∈ wsX7_tight := fun _ h => List.mem_cons_of_mem _ (List.mem_append_left _ (List.mem_append_right _ h))
theorem inn_X7_tight_6 : ∀ w ∈ u_ws RX6 TX6 3, w ∈ wsX7_tight := fun _ h => List.mem_cons_of_mem _ (List.mem_append_right _ h)
theorem inn_X7_tight_7 : ∀ w ∈ u_ws RX7 TX7 14, w ∈ wsX7_tight := fun _ h => List.mem_cons_of_mem _ (List.mem_append_left _ (List.mem_append_left _ (List.mem_append_right _ h)))
def rm_X7_tight : Room := { frames := 4, cells := 0, slots := 0, locals := 102 }
set_option maxHeartbeats 4000000 in
set_option maxRecDepth 100000 in
theorem ct_X7_tight {l : Launch} {D : va_G} {cI cJ cZ cE cD cK : ClassId} {ad : Nat → Nat} {bd dd : Nat → Nat → Nat} {bHK : Int32} {bHP : Int32} {bPF : Int32} {bWC : Int32} {bRi : Int32} {bBe : Int32} {bFi : Int32} {bWa : Nat → Int32} {dB : Nat → Int32} {dS : Nat → Int32} {dN : Nat → Nat → Int64} {tC : Int32} {tKi : Nat → Int32} {tEa : Nat → Int32} {tHa : Nat → Int32} {tPr : Nat → Int32} {tEx : Nat → Int32} {tSt : Nat → Int32} {tTo : Nat → Int32} {tBe : Nat → Int32} {kC : Int32} {kKi : Nat → Int32} {kEa : Nat → Int32} {kHa : Nat → Int32} {kPr : Nat → Int32} {kEx : Nat → Int32} {kSt : Nat → Int32} {kTo : Nat → Int32} {kBe : Nat → Int32} {aC : Int32} {aWh : Nat → Int32} {aTa : Nat → Int32} {aWa : Nat → Int32} {iRo : Nat → Int32} {iEa : Nat → Int32} {iLa : Nat → Int32} {cC : Int32} {nC : Int32} {nFo : Int32} {nQd : Int32} {nRo : Nat → Int32} {nBe : Nat → Int32} {nEa : Nat → Int32} {nMi : Nat → Int32} {nHa : Nat → Int32} {nER : Nat → Int32} {nMR : Nat → Int32} {nTh : Nat → Int32} {nPa : Nat → Int32} {nOu : Nat → Int32} {nFr : Nat → Int32} {nQu : Nat → Int32} {eM : Nat} {eL : Nat → Int32} {eC : Nat → Int64} {eS : Nat → Int64} {eB : Nat → Nat → Int32} {eE : Nat → Nat → Int32} {eF : Nat → Nat → Int32} {eG : Nat → Nat → Int32}    {Qp : Int32 → (Nat → Int32) → (Nat → Int32) → (Nat → Int32) → Prop}   (h : wp_X7_tight tC tTo tBe iRo iEa iLa Qp) : CTi l yX7_tight wsX7_tight rm_X7_tight D (tyL cI cJ cZ cE cD cK) [.ref (ad 0)] (WC cI cJ cE cD ad bd dd bHK bHP bPF bWC bRi bBe bFi bWa dB dS dN tC tKi tEa tHa tPr tEx tSt tTo tBe kC kKi kEa kHa kPr kEx kSt kTo kBe aC aWh aTa aWa iRo iEa iLa cC nC nFo nQd nRo nBe nEa nMi nHa nER nMR nTh nPa nOu nFr nQu eM eL eC eS eB eE eF eG) (fun (r : Int32) (u : (Nat → Int32) × (Nat → Int32) × (Nat → Int32)) => Qp r u.1 u.2.1 u.2.2) (fun u : (Nat → Int32) × (Nat → Int32) × (Nat → Int32) => (WC cI cJ cE cD ad bd dd bHK bHP bPF bWC bRi bBe bFi bWa dB dS dN tC tKi tEa tHa tPr tEx tSt tTo tBe kC kKi kEa kHa kPr kEx kSt kTo kBe aC aWh aTa aWa u.1 u.2.1 u.2.2 cC nC nFo nQd nRo nBe nEa nMi nHa nER nMR nTh nPa nOu nFr nQu eM eL eC eS eB eE eF eG)) 0 0 := by
  refine ent_i (cc := cX7_tight) (maxL := 3) (ret := (some .int)) (by decide) rfl (Nat.le_of_ble_eq_true rfl) ?_
  intro p e s m args below meth c A Q hQ hx hb hr hml hown hts hlk hA hAB hP hD hS ls hl
  have hown : s.vm.findClass RX7 = some m.cls := hown
  have hl : lv_has ls 3 [(0, .ref (ad 0))] := hl
  generalize hH : s.heap = H at hP ⊢
  have hS : va_S A s.heap H [] := by rw [← hH]; exact hS
  clear hH
  generalize ([] : List Loc) = locs at hS ⊢
  refine lv_aload_n hx hb dX7_tight_0 rfl (lv_at hl 0 rfl) ?_
  refine va_get (D := D) (ci := 7) (C := RX7) (T := TX7) (N := 14) hx hb hts inn_X7_tight_7 hown hAB.1 hP 0 rfl rfl 5 (by decide) (hts (.fieldLink RX7 36 "BarnBench" "timing" "LBarnBench$Timing;") (by decide +kernel)) (fun _ h9 => h9) rfl dX7_tight_1 ?_
  refine lv_aload_n hx hb dX7_tight_4 rfl (lv_at hl 0 rfl) ?_
  refine va_get (D := D) (ci := 7) (C := RX7) (T := TX7) (N := 14) hx hb hts inn_X7_tight_7 hown hAB.1 hP 0 rfl rfl 1 (by decide) (hts (.fieldLink RX7 19 "BarnBench" "tasks" "LBarnBench$Tasks;") (by decide +kernel)) (fun _ h9 => h9) rfl dX7_tight_5 ?_
  refine lv_aload_n hx hb dX7_tight_8 rfl (lv_at hl 0 rfl) ?_
  refine va_get (D := D) (ci := 7) (C := RX7) (T := TX7) (N := 14) hx hb hts inn_X7_tight_7 hown hAB.1 hP 0 rfl rfl 1 (by decide) (hts (.fieldLink RX7 19 "BarnBench" "tasks" "LBarnBench$Tasks;") (by decide +kernel)) (fun _ h9 => h9) rfl dX7_tight_9 ?_
  refine va_get (D := D) (ci := 5) (C := RX5) (T := TX5) (N := 9) hx hb hts inn_X7_tight_5 hown hAB.1 hP 10 rfl rfl 7 (by decide) (hts (.fieldLink RX7 169 "BarnBench$Tasks" "told" "[I") (by decide +kernel)) (fun _ h9 => h9) rfl dX7_tight_12 ?_
  refine cl_v hD hS hA (va_runV (As := [.ref (ad 10), .ref (ad 17)]) (rest := []) ⟨hx, hb, hml, hown, hts⟩ (ct_X6_beginBoth h H.size) (cwV 2 hts gX7_tight_X6_beginBoth rfl rfl rfl (by decide +kernel) ⟨Nat.le_of_ble_eq_true rfl, Nat.le_of_ble_eq_true rfl⟩) ⟨CPre.blind, va_recv hAB.1 hP (ci := 6) (q0 := 32) rfl rfl, wd_pre hAB hP hD hS hA⟩ rfl rfl hl.1 rfl (lv_room (Nat.le_of_ble_eq_true rfl)) dX7_tight_15 ⟨Nat.zero_le _, Nat.zero_le _⟩) (fun u H locs h hP hD hS => ?_)
  obtain ⟨iRo_1, iEa_2, iLa_3⟩ := u
  have hP : va_P D vwCl (WC cI cJ cE cD ad bd dd bHK bHP bPF bWC bRi bBe bFi bWa dB dS dN tC tKi tEa tHa tPr tEx tSt tTo tBe kC kKi kEa kHa kPr kEx kSt kTo kBe aC aWh aTa aWa iRo_1 iEa_2 iLa_3 cC nC nFo nQd nRo nBe nEa nMi nHa nER nMR nTh nPa nOu nFr nQu eM eL eC eS eB eE eF eG) H := hP
  have hD : va_D A (WC cI cJ cE cD ad bd dd bHK bHP bPF bWC bRi bBe bFi bWa dB dS dN tC tKi tEa tHa tPr tEx tSt tTo tBe kC kKi kEa kHa kPr kEx kSt kTo kBe aC aWh aTa aWa iRo_1 iEa_2 iLa_3 cC nC nFo nQd nRo nBe nEa nMi nHa nER nMR nTh nPa nOu nFr nQu eM eL eC eS eB eE eF eG) := hD
  refine lv_iconst (v := 0) hx hb dX7_tight_18 (by decide) ?_
  refine lv_istore_n (lv' := [(1, .int 0), (0, .ref (ad 0))]) hx hb dX7_tight_19 rfl hl (by decide) rfl (fun ls hl => ?_)
  refine lv_iconst (v := 0) hx hb dX7_tight_20 (by decide) ?_
  refine lv_istore_n (lv' := [(2, .int 0), (1, .int 0), (0, .ref (ad 0))]) hx hb dX7_tight_21 rfl hl (by decide) rfl (fun ls hl => ?_)
  have L22 : ∀ (x22 : (Int32) → Prop) (hk22 : ∀ (x1_6 : Int32), x22 x1_6 → ∀ (H : Heap) (locs : List Loc) (ls : Array Slot), va_P D vwCl (WC cI cJ cE cD ad bd dd bHK bHP bPF bWC bRi bBe bFi bWa dB dS dN tC tKi tEa tHa tPr tEx tSt tTo tBe kC kKi kEa kHa kPr kEx kSt kTo kBe aC aWh aTa aWa iRo_1 iEa_2 iLa_3 cC nC nFo nQd nRo nBe nEa nMi nHa nER nMR nTh nPa nOu nFr nQu eM eL eC eS eB eE eF eG) H → va_D A (WC cI cJ cE cD ad bd dd bHK bHP bPF bWC bRi bBe bFi bWa dB dS dN tC tKi tEa tHa tPr tEx tSt tTo tBe kC kKi kEa kHa kPr kEx kSt kTo kBe aC aWh aTa aWa iRo_1 iEa_2 iLa_3 cC nC nFo nQd nRo nBe nEa nMi nHa nER nMR nTh nPa nOu nFr nQu eM eL eC eS eB eE eF eG) → va_S A s.heap H locs → lv_has ls 3 [(1, .int x1_6)] → W p l e (headSpec wsX7_tight rm_X7_tight).room s m args below meth c H locs 0 0 Q (F0 m 66 ls [])) (n22 : Nat) (x1_4 : Int32) (x2_5 : Int32), wp_X7_tight_L22 tC iEa_2 iLa_3 x22 n22 x1_4 x2_5 → ∀ (H : Heap) (locs : List Loc) (ls : Array Slot), va_P D vwCl (WC cI cJ cE cD ad bd dd bHK bHP bPF bWC bRi bBe bFi bWa dB dS dN tC tKi tEa tHa tPr tEx tSt tTo tBe kC kKi kEa kHa kPr kEx kSt kTo kBe aC aWh aTa aWa iRo_1 iEa_2 iLa_3 cC nC nFo nQd nRo nBe nEa nMi nHa nER nMR nTh nPa nOu nFr nQu eM eL eC eS eB eE eF eG) H → va_D A (WC cI cJ cE cD ad bd dd bHK bHP bPF bWC bRi bBe bFi bWa dB dS dN tC tKi tEa tHa tPr tEx tSt tTo tBe kC kKi kEa kHa kPr kEx kSt kTo kBe aC aWh aTa aWa iRo_1 iEa_2 iLa_3 cC nC nFo nQd nRo nBe nEa nMi nHa nER nMR nTh nPa nOu nFr nQu eM eL eC eS eB eE eF eG) → va_S A s.heap H locs → lv_has ls 3 [(0, .ref (ad 0)), (1, .int x1_4), (2, .int x2_5)] → W p l e (headSpec wsX7_tight rm_X7_tight).room s m args below meth c H locs 0 0 Q (F0 m 22 ls []) := by
    intro x22 hk22 n22
    induction n22 with
    | zero => intro x1_4 x2_5 h; exact False.elim h
    | succ n22 ih22 =>
      intro x1_4 x2_5 h H locs ls hP hD hS hl
      have B60 : ∀ (x1_7 : Int32) (x2_8 : Int32), wp_X7_tight_b60 (wp_X7_tight_L22 tC iEa_2 iLa_3 x22 n22) x1_7 x2_8 → ∀ (H : Heap) (locs : List Loc) (ls : Array Slot), va_P D vwCl (WC cI cJ cE cD ad bd dd bHK bHP bPF bWC bRi bBe bFi bWa dB dS dN tC tKi tEa tHa tPr tEx tSt tTo tBe kC kKi kEa kHa kPr kEx kSt kTo kBe aC aWh aTa aWa iRo_1 iEa_2 iLa_3 cC nC nFo nQd nRo nBe nEa nMi nHa nER nMR nTh nPa nOu nFr nQu eM eL eC eS eB eE eF eG) H → va_D A (WC cI cJ cE cD ad bd dd bHK bHP bPF bWC bRi bBe bFi bWa dB dS dN tC tKi tEa tHa tPr tEx tSt tTo tBe kC kKi kEa kHa kPr kEx kSt kTo kBe aC aWh aTa aWa iRo_1 iEa_2 iLa_3 cC nC nFo nQd nRo nBe nEa nMi nHa nER nMR nTh nPa nOu nFr nQu eM eL eC eS eB eE eF eG) → va_S A s.heap H locs → lv_has ls 3 [(0, .ref (ad 0)), (1, .int x1_7), (2, .int x2_8)] → W p l e (headSpec wsX7_tight rm_X7_tight).room s m args below meth c H locs 0 0 Q (F0 m 60 ls []) := by
        intro x1_7 x2_8 h H locs ls hP hD hS hl
        obtain ⟨x2_9, e_10⟩ : ∃ y : Int32, y = x2_8 + 1 := ⟨_, rfl⟩
        have h := h x2_9 e_10
        refine lv_iinc (v := x2_9) (lv' := [(2, .int x2_9), (0, .ref (ad 0)), (1, .int x1_7)]) hx hb dX7_tight_60 hl (k := 2) rfl (by rw [e_10]; rfl) (by decide) rfl (fun ls hl => ?_)
        refine lv_goto (tgt := 22) hx hb dX7_tight_63 (by decide) ?_
        exact ih22 x1_7 x2_9 h H locs ls hP hD hS (lv_sub hl [1, 2, 0] rfl)
      refine lv_iload_n hx hb dX7_tight_22 rfl (lv_at hl 2 rfl) ?_
      refine lv_aload_n hx hb dX7_tight_23 rfl (lv_at hl 0 rfl) ?_
      refine va_get (D := D) (ci := 7) (C := RX7) (T := TX7) (N := 14) hx hb hts inn_X7_tight_7 hown hAB.1 hP 0 rfl rfl 1 (by decide) (hts (.fieldLink RX7 19 "BarnBench" "tasks" "LBarnBench$Tasks;") (by decide +kernel)) (fun _ h9 => h9) rfl dX7_tight_24 ?_
      refine va_get (D := D) (ci := 5) (C := RX5) (T := TX5) (N := 9) hx hb hts inn_X7_tight_5 hown hAB.1 hP 10 rfl rfl 0 (by decide) (hts (.fieldLink RX7 104 "BarnBench$Tasks" "count" "I") (by decide +kernel)) (fun _ h9 => h9) rfl dX7_tight_27 ?_
      refine lv_icmp_ge (tgt := 66) hx hb dX7_tight_30 (by decide) (fun c_11 => ?_) (fun c_11 => ?_)
      · have h := h.1 c_11
        exact hk22 x1_4 h H locs ls hP hD hS (lv_sub hl [1] rfl)
      · have h := h.2 c_11
        refine lv_aload_n hx hb dX7_tight_33 rfl (lv_at hl 0 rfl) ?_
        refine va_get (D := D) (ci := 7) (C := RX7) (T := TX7) (N := 14) hx hb hts inn_X7_tight_7 hown hAB.1 hP 0 rfl rfl 5 (by decide) (hts (.fieldLink RX7 36 "BarnBench" "timing" "LBarnBench$Timing;") (by decide +kernel)) (fun _ h9 => h9) rfl dX7_tight_34 ?_
        refine va_get (D := D) (ci := 6) (C := RX6) (T := TX6) (N := 3) hx hb hts inn_X7_tight_6 hown hAB.1 hP 32 rfl rfl 1 (by decide) (hts (.fieldLink RX7 183 "BarnBench$Timing" "earlies" "[I") (by decide +kernel)) (fun _ h9 => h9) rfl dX7_tight_37 ?_
        refine lv_iload_n hx hb dX7_tight_40 rfl (lv_at hl 2 rfl) ?_
        refine va_iald hx hb hAB.1 hP 34 0 rfl rfl h.1 dX7_tight_41 ?_
        have h := h.2
        refine lv_aload_n hx hb dX7_tight_42 rfl (lv_at hl 0 rfl) ?_
        refine va_get (D := D) (ci := 7) (C := RX7) (T := TX7) (N := 14) hx hb hts inn_X7_tight_7 hown hAB.1 hP 0 rfl rfl 5 (by decide) (hts (.fieldLink RX7 36 "BarnBench" "timing" "LBarnBench$Timing;") (by decide +kernel)) (fun _ h9 => h9) rfl dX7_tight_43 ?_
        refine va_get (D := D) (ci := 6) (C := RX6) (T := TX6) (N := 3) hx hb hts inn_X7_tight_6 hown hAB.1 hP 32 rfl rfl 2 (by decide) (hts (.fieldLink RX7 180 "BarnBench$Timing" "lates" "[I") (by decide +kernel)) (fun _ h9 => h9) rfl dX7_tight_46 ?_
        refine lv_iload_n hx hb dX7_tight_49 rfl (lv_at hl 2 rfl) ?_
        refine va_iald hx hb hAB.1 hP 35 0 rfl rfl h.1 dX7_tight_50 ?_
        have h := h.2
        refine lv_icmp_ne (tgt := 60) hx hb dX7_tight_51 (by decide) (fun c_12 => ?_) (fun c_12 => ?_)
        · have h := h.1 c_12
          exact B60 x1_4 x2_5 h H locs ls hP hD hS (lv_sub hl [0, 1, 2] rfl)
        · have h := h.2 c_12
          refine lv_iload_n hx hb dX7_tight_54 rfl (lv_at hl 1 rfl) ?_
          refine lv_iconst (v := 1) hx hb dX7_tight_55 (by decide) ?_
          refine lv_iload_n hx hb dX7_tight_56 rfl (lv_at hl 2 rfl) ?_
          refine lv_ishl hx hb dX7_tight_57 ?_
          refine lv_ior hx hb dX7_tight_58 ?_
          refine lv_topi (fun x1_13 e_14 => ?_)
          have h := h x1_13 e_14
          refine lv_istore_n (lv' := [(1, .int x1_13), (0, .ref (ad 0)), (2, .int x2_5)]) hx hb dX7_tight_59 rfl hl (by decide) rfl (fun ls hl => ?_)
          exact B60 x1_13 x2_5 h H locs ls hP hD hS (lv_sub hl [1, 0, 2] rfl)
  obtain ⟨n22, h⟩ := h
  refine L22 _ (fun x1_6 h H locs ls hP hD hS hl => ?_) n22 0 0 h H locs ls hP hD hS (lv_sub hl [2, 1, 0] rfl)
  refine lv_iload_n hx hb dX7_tight_66 rfl (lv_at hl 0 rfl) ?_
  exact rt_i (iRo_1, iEa_2, iLa_3) hQ hx hb hr hlk hP hD hS ⟨Nat.zero_le _, Nat.zero_le _⟩ dX7_tight_67 h
def wp_X7_toldCost_L4 (tC : Int32) (tEa : Nat → Int32) (tEx : Nat → Int32) (tKi : Nat → Int32) (tPr : Nat → Int32) (tSt : Nat → Int32) (tTo : Nat → Int32) (x4 : (Int64) → Prop) : Nat → (Int64) → (Int32) → Prop
  | 0, _, _ => False
  | n4 + 1, x1_1, x3_2 =>
  ((tC ≤ x3_2 → x4 x1_1) ∧
   (¬ tC ≤ x3_2 → vp_in x3_2 12 ∧ wp_X5_costOf tKi tEa tPr tEx tSt x3_2 (tTo (Int32.toNatClampNeg x3_2)) (fun (r_5 : Int64) => ∀ x1_6 : Int64, x1_6 = (x1_1 + r_5) → ∀ x3_8 : Int32, x3_8 = x3_2 + 1 → (wp_X7_toldCost_L4 tC tEa tEx tKi tPr tSt tTo x4 n4) x1_6 x3_8)))
def wp_X7_toldCost (tC : Int32) (tKi : Nat → Int32) (tEa : Nat → Int32) (tPr : Nat → Int32) (tEx : Nat → Int32) (tSt : Nat → Int32) (tTo : Nat → Int32)  (Qp : Int64 → Prop) : Prop :=
  (∃ n4 : Nat, wp_X7_toldCost_L4 tC tEa tEx tKi tPr tSt tTo (fun (x1_3 : Int64) => Qp x1_3) n4 0 0)
theorem inn_X7_toldCost_5 : ∀ w ∈ u_ws RX5 TX5 9, w ∈ wsX7_toldCost := fun _ h => List.mem_cons_of_mem _ (List.mem_append_right _ h)
theorem inn_X7_toldCost_7 : ∀ w ∈ u_ws RX7 TX7 14, w ∈ wsX7_toldCost := fun _ h => List.mem_cons_of_mem _ (List.mem_append_left _ (List.mem_append_right _ h))
def rm_X7_toldCost : Room := { frames := 2, cells := 0, slots := 0, locals := 47 }
set_option maxHeartbeats 4000000 in
set_option maxRecDepth 100000 in
theorem ct_X7_toldCost {l : Launch} {D : va_G} {cI cJ cZ cE cD cK : ClassId} {ad : Nat → Nat} {bd dd : Nat → Nat → Nat} {bHK : Int32} {bHP : Int32} {bPF : Int32} {bWC : Int32} {bRi : Int32} {bBe : Int32} {bFi : Int32} {bWa : Nat → Int32} {dB : Nat → Int32} {dS : Nat → Int32} {dN : Nat → Nat → Int64} {tC : Int32} {tKi : Nat → Int32} {tEa : Nat → Int32} {tHa : Nat → Int32} {tPr : Nat → Int32} {tEx : Nat → Int32} {tSt : Nat → Int32} {tTo : Nat → Int32} {tBe : Nat → Int32} {kC : Int32} {kKi : Nat → Int32} {kEa : Nat → Int32} {kHa : Nat → Int32} {kPr : Nat → Int32} {kEx : Nat → Int32} {kSt : Nat → Int32} {kTo : Nat → Int32} {kBe : Nat → Int32} {aC : Int32} {aWh : Nat → Int32} {aTa : Nat → Int32} {aWa : Nat → Int32} {iRo : Nat → Int32} {iEa : Nat → Int32} {iLa : Nat → Int32} {cC : Int32} {nC : Int32} {nFo : Int32} {nQd : Int32} {nRo : Nat → Int32} {nBe : Nat → Int32} {nEa : Nat → Int32} {nMi : Nat → Int32} {nHa : Nat → Int32} {nER : Nat → Int32} {nMR : Nat → Int32} {nTh : Nat → Int32} {nPa : Nat → Int32} {nOu : Nat → Int32} {nFr : Nat → Int32} {nQu : Nat → Int32} {eM : Nat} {eL : Nat → Int32} {eC : Nat → Int64} {eS : Nat → Int64} {eB : Nat → Nat → Int32} {eE : Nat → Nat → Int32} {eF : Nat → Nat → Int32} {eG : Nat → Nat → Int32}    {Qp : Int64 → Prop}   (h : wp_X7_toldCost tC tKi tEa tPr tEx tSt tTo Qp) : CTl l yX7_toldCost wsX7_toldCost rm_X7_toldCost D (tyL cI cJ cZ cE cD cK) [.ref (ad 0)] (WC cI cJ cE cD ad bd dd bHK bHP bPF bWC bRi bBe bFi bWa dB dS dN tC tKi tEa tHa tPr tEx tSt tTo tBe kC kKi kEa kHa kPr kEx kSt kTo kBe aC aWh aTa aWa iRo iEa iLa cC nC nFo nQd nRo nBe nEa nMi nHa nER nMR nTh nPa nOu nFr nQu eM eL eC eS eB eE eF eG) (fun (r : Int64) (u : Unit) => Qp r ) (fun u : Unit => (WC cI cJ cE cD ad bd dd bHK bHP bPF bWC bRi bBe bFi bWa dB dS dN tC tKi tEa tHa tPr tEx tSt tTo tBe kC kKi kEa kHa kPr kEx kSt kTo kBe aC aWh aTa aWa iRo iEa iLa cC nC nFo nQd nRo nBe nEa nMi nHa nER nMR nTh nPa nOu nFr nQu eM eL eC eS eB eE eF eG)) 0 0 := by
  refine ent_l (cc := cX7_toldCost) (maxL := 4) (ret := (some .long)) (by decide) rfl (Nat.le_of_ble_eq_true rfl) ?_
  intro p e s m args below meth c A Q hQ hx hb hr hml hown hts hlk hA hAB hP hD hS ls hl
  have hown : s.vm.findClass RX7 = some m.cls := hown
  have hl : lv_has ls 4 [(0, .ref (ad 0))] := hl
  generalize hH : s.heap = H at hP ⊢
  have hS : va_S A s.heap H [] := by rw [← hH]; exact hS
  clear hH
  generalize ([] : List Loc) = locs at hS ⊢
  refine lv_lconst (v := 0) hx hb dX7_toldCost_0 (by decide) ?_
  refine lv_lstore_n (lv' := [(1, .long 0), (0, .ref (ad 0))]) hx hb dX7_toldCost_1 rfl hl (by decide) rfl (fun ls hl => ?_)
  refine lv_iconst (v := 0) hx hb dX7_toldCost_2 (by decide) ?_
  refine lv_istore_n (lv' := [(3, .int 0), (1, .long 0), (0, .ref (ad 0))]) hx hb dX7_toldCost_3 rfl hl (by decide) rfl (fun ls hl => ?_)
  have L4 : ∀ (x4 : (Int64) → Prop) (hk4 : ∀ (x1_3 : Int64), x4 x1_3 → ∀ (H : Heap) (locs : List Loc) (ls : Array Slot), va_P D vwCl (WC cI cJ cE cD ad bd dd bHK bHP bPF bWC bRi bBe bFi bWa dB dS dN tC tKi tEa tHa tPr tEx tSt tTo tBe kC kKi kEa kHa kPr kEx kSt kTo kBe aC aWh aTa aWa iRo iEa iLa cC nC nFo nQd nRo nBe nEa nMi nHa nER nMR nTh nPa nOu nFr nQu eM eL eC eS eB eE eF eG) H → va_D A (WC cI cJ cE cD ad bd dd bHK bHP bPF bWC bRi bBe bFi bWa dB dS dN tC tKi tEa tHa tPr tEx tSt tTo tBe kC kKi kEa kHa kPr kEx kSt kTo kBe aC aWh aTa aWa iRo iEa iLa cC nC nFo nQd nRo nBe nEa nMi nHa nER nMR nTh nPa nOu nFr nQu eM eL eC eS eB eE eF eG) → va_S A s.heap H locs → lv_has ls 4 [(1, .long x1_3)] → W p l e (headSpec wsX7_toldCost rm_X7_toldCost).room s m args below meth c H locs 0 0 Q (F0 m 41 ls [])) (n4 : Nat) (x1_1 : Int64) (x3_2 : Int32), wp_X7_toldCost_L4 tC tEa tEx tKi tPr tSt tTo x4 n4 x1_1 x3_2 → ∀ (H : Heap) (locs : List Loc) (ls : Array Slot), va_P D vwCl (WC cI cJ cE cD ad bd dd bHK bHP bPF bWC bRi bBe bFi bWa dB dS dN tC tKi tEa tHa tPr tEx tSt tTo tBe kC kKi kEa kHa kPr kEx kSt kTo kBe aC aWh aTa aWa iRo iEa iLa cC nC nFo nQd nRo nBe nEa nMi nHa nER nMR nTh nPa nOu nFr nQu eM eL eC eS eB eE eF eG) H → va_D A (WC cI cJ cE cD ad bd dd bHK bHP bPF bWC bRi bBe bFi bWa dB dS dN tC tKi tEa tHa tPr tEx tSt tTo tBe kC kKi kEa kHa kPr kEx kSt kTo kBe aC aWh aTa aWa iRo iEa iLa cC nC nFo nQd nRo nBe nEa nMi nHa nER nMR nTh nPa nOu nFr nQu eM eL eC eS eB eE eF eG) → va_S A s.heap H locs → lv_has ls 4 [(0, .ref (ad 0)), (1, .long x1_1), (3, .int x3_2)] → W p l e (headSpec wsX7_toldCost rm_X7_toldCost).room s m args below meth c H locs 0 0 Q (F0 m 4 ls []) := by
    intro x4 hk4 n4
    induction n4 with
    | zero => intro x1_1 x3_2 h; exact False.elim h
    | succ n4 ih4 =>
      intro x1_1 x3_2 h H locs ls hP hD hS hl
      refine lv_iload_n hx hb dX7_toldCost_4 rfl (lv_at hl 2 rfl) ?_
      refine lv_aload_n hx hb dX7_toldCost_5 rfl (lv_at hl 0 rfl) ?_
      refine va_get (D := D) (ci := 7) (C := RX7) (T := TX7) (N := 14) hx hb hts inn_X7_toldCost_7 hown hAB.1 hP 0 rfl rfl 1 (by decide) (hts (.fieldLink RX7 19 "BarnBench" "tasks" "LBarnBench$Tasks;") (by decide +kernel)) (fun _ h9 => h9) rfl dX7_toldCost_6 ?_
      refine va_get (D := D) (ci := 5) (C := RX5) (T := TX5) (N := 9) hx hb hts inn_X7_toldCost_5 hown hAB.1 hP 10 rfl rfl 0 (by decide) (hts (.fieldLink RX7 104 "BarnBench$Tasks" "count" "I") (by decide +kernel)) (fun _ h9 => h9) rfl dX7_toldCost_9 ?_
      refine lv_icmp_ge (tgt := 41) hx hb dX7_toldCost_12 (by decide) (fun c_4 => ?_) (fun c_4 => ?_)
      · have h := h.1 c_4
        exact hk4 x1_1 h H locs ls hP hD hS (lv_sub hl [1] rfl)
      · have h := h.2 c_4
        refine lv_lload_n hx hb dX7_toldCost_15 rfl (lv_at hl 1 rfl) ?_
        refine lv_aload_n hx hb dX7_toldCost_16 rfl (lv_at hl 0 rfl) ?_
        refine va_get (D := D) (ci := 7) (C := RX7) (T := TX7) (N := 14) hx hb hts inn_X7_toldCost_7 hown hAB.1 hP 0 rfl rfl 1 (by decide) (hts (.fieldLink RX7 19 "BarnBench" "tasks" "LBarnBench$Tasks;") (by decide +kernel)) (fun _ h9 => h9) rfl dX7_toldCost_17 ?_
        refine lv_iload_n hx hb dX7_toldCost_20 rfl (lv_at hl 2 rfl) ?_
        refine lv_aload_n hx hb dX7_toldCost_21 rfl (lv_at hl 0 rfl) ?_
        refine va_get (D := D) (ci := 7) (C := RX7) (T := TX7) (N := 14) hx hb hts inn_X7_toldCost_7 hown hAB.1 hP 0 rfl rfl 1 (by decide) (hts (.fieldLink RX7 19 "BarnBench" "tasks" "LBarnBench$Tasks;") (by decide +kernel)) (fun _ h9 => h9) rfl dX7_toldCost_22 ?_
        refine va_get (D := D) (ci := 5) (C := RX5) (T := TX5) (N := 9) hx hb hts inn_X7_toldCost_5 hown hAB.1 hP 10 rfl rfl 7 (by decide) (hts (.fieldLink RX7 169 "BarnBench$Tasks" "told" "[I") (by decide +kernel)) (fun _ h9 => h9) rfl dX7_toldCost_25 ?_
        refine lv_iload_n hx hb dX7_toldCost_28 rfl (lv_at hl 2 rfl) ?_
        refine va_iald hx hb hAB.1 hP 17 0 rfl rfl h.1 dX7_toldCost_29 ?_
        have h := h.2
        refine cl_l hD hS hA (va_runV (As := [.int x3_2, .int (tTo (Int32.toNatClampNeg x3_2))]) (rest := [.long x1_1]) ⟨hx, hb, hml, hown, hts⟩ (ct_X5_costOf h H.size) (cwV 2 hts gX7_toldCost_X5_costOf rfl rfl rfl (by decide +kernel) ⟨Nat.le_of_ble_eq_true rfl, Nat.le_of_ble_eq_true rfl⟩) ⟨CPre.blind, va_recv hAB.1 hP (ci := 5) (q0 := 10) rfl rfl, wd_pre hAB hP hD hS hA⟩ rfl rfl hl.1 rfl (lv_room (Nat.le_of_ble_eq_true rfl)) dX7_toldCost_30 ⟨Nat.zero_le _, Nat.zero_le _⟩) (fun r_5 u H locs h hP hD hS => ?_)
        refine lv_ladd hx hb dX7_toldCost_33 ?_
        refine lv_topl (fun x1_6 e_7 => ?_)
        have h := h x1_6 e_7
        refine lv_lstore_n (lv' := [(1, .long x1_6), (0, .ref (ad 0)), (3, .int x3_2)]) hx hb dX7_toldCost_34 rfl hl (by decide) rfl (fun ls hl => ?_)
        obtain ⟨x3_8, e_9⟩ : ∃ y : Int32, y = x3_2 + 1 := ⟨_, rfl⟩
        have h := h x3_8 e_9
        refine lv_iinc (v := x3_8) (lv' := [(3, .int x3_8), (1, .long x1_6), (0, .ref (ad 0))]) hx hb dX7_toldCost_35 hl (k := 2) rfl (by rw [e_9]; rfl) (by decide) rfl (fun ls hl => ?_)
        refine lv_goto (tgt := 4) hx hb dX7_toldCost_38 (by decide) ?_
        exact ih4 x1_6 x3_8 h H locs ls hP hD hS (lv_sub hl [2, 1, 0] rfl)
  obtain ⟨n4, h⟩ := h
  refine L4 _ (fun x1_3 h H locs ls hP hD hS hl => ?_) n4 0 0 h H locs ls hP hD hS (lv_sub hl [2, 1, 0] rfl)
  refine lv_lload_n hx hb dX7_toldCost_41 rfl (lv_at hl 0 rfl) ?_
  exact rt_l () hQ hx hb hr hlk hP hD hS ⟨Nat.zero_le _, Nat.zero_le _⟩ dX7_toldCost_42 h
def wp_X7_longest (tC : Int32) (tEa : Nat → Int32) (tHa : Nat → Int32) (tBe : Nat → Int32) (iRo : Nat → Int32) (iEa : Nat → Int32) (a1 : Int32) (Qp : Int32 → (Nat → Int32) → (Nat → Int32) → Prop) : Prop :=
  ((a1 = 0 → wp_X6_beginEarly tEa tC tBe iRo iEa (fun (r_2 : Int32) (iRo_3 : Nat → Int32) (iEa_4 : Nat → Int32) => Qp r_2 iRo_3 iEa_4)) ∧
   (¬ a1 = 0 → wp_X6_beginEarly tHa tC tBe iRo iEa (fun (r_5 : Int32) (iRo_6 : Nat → Int32) (iEa_7 : Nat → Int32) => Qp r_5 iRo_6 iEa_7)))
theorem inn_X7_longest_5 : ∀ w ∈ u_ws RX5 TX5 9, w ∈ wsX7_longest := fun _ h => List.mem_cons_of_mem _ (List.mem_append_left _ (List.mem_append_right _ h))
theorem inn_X7_longest_7 : ∀ w ∈ u_ws RX7 TX7 14, w ∈ wsX7_longest := fun _ h => List.mem_cons_of_mem _ (List.mem_append_left _ (List.mem_append_left _ (List.mem_append_right _ h)))
def rm_X7_longest : Room := { frames := 3, cells := 0, slots := 0, locals := 74 }
set_option maxHeartbeats 4000000 in
set_option maxRecDepth 100000 in
theorem ct_X7_longest {l : Launch} {D : va_G} {cI cJ cZ cE cD cK : ClassId} {ad : Nat → Nat} {bd dd : Nat → Nat → Nat} {bHK : Int32} {bHP : Int32} {bPF : Int32} {bWC : Int32} {bRi : Int32} {bBe : Int32} {bFi : Int32} {bWa : Nat → Int32} {dB : Nat → Int32} {dS : Nat → Int32} {dN : Nat → Nat → Int64} {tC : Int32} {tKi : Nat → Int32} {tEa : Nat → Int32} {tHa : Nat → Int32} {tPr : Nat → Int32} {tEx : Nat → Int32} {tSt : Nat → Int32} {tTo : Nat → Int32} {tBe : Nat → Int32} {kC : Int32} {kKi : Nat → Int32} {kEa : Nat → Int32} {kHa : Nat → Int32} {kPr : Nat → Int32} {kEx : Nat → Int32} {kSt : Nat → Int32} {kTo : Nat → Int32} {kBe : Nat → Int32} {aC : Int32} {aWh : Nat → Int32} {aTa : Nat → Int32} {aWa : Nat → Int32} {iRo : Nat → Int32} {iEa : Nat → Int32} {iLa : Nat → Int32} {cC : Int32} {nC : Int32} {nFo : Int32} {nQd : Int32} {nRo : Nat → Int32} {nBe : Nat → Int32} {nEa : Nat → Int32} {nMi : Nat → Int32} {nHa : Nat → Int32} {nER : Nat → Int32} {nMR : Nat → Int32} {nTh : Nat → Int32} {nPa : Nat → Int32} {nOu : Nat → Int32} {nFr : Nat → Int32} {nQu : Nat → Int32} {eM : Nat} {eL : Nat → Int32} {eC : Nat → Int64} {eS : Nat → Int64} {eB : Nat → Nat → Int32} {eE : Nat → Nat → Int32} {eF : Nat → Nat → Int32} {eG : Nat → Nat → Int32}   {a1 : Int32} {Qp : Int32 → (Nat → Int32) → (Nat → Int32) → Prop}   (h : wp_X7_longest tC tEa tHa tBe iRo iEa a1 Qp) : CTi l yX7_longest wsX7_longest rm_X7_longest D (tyL cI cJ cZ cE cD cK) [.ref (ad 0), .int a1] (WC cI cJ cE cD ad bd dd bHK bHP bPF bWC bRi bBe bFi bWa dB dS dN tC tKi tEa tHa tPr tEx tSt tTo tBe kC kKi kEa kHa kPr kEx kSt kTo kBe aC aWh aTa aWa iRo iEa iLa cC nC nFo nQd nRo nBe nEa nMi nHa nER nMR nTh nPa nOu nFr nQu eM eL eC eS eB eE eF eG) (fun (r : Int32) (u : (Nat → Int32) × (Nat → Int32)) => Qp r u.1 u.2) (fun u : (Nat → Int32) × (Nat → Int32) => (WC cI cJ cE cD ad bd dd bHK bHP bPF bWC bRi bBe bFi bWa dB dS dN tC tKi tEa tHa tPr tEx tSt tTo tBe kC kKi kEa kHa kPr kEx kSt kTo kBe aC aWh aTa aWa u.1 u.2 iLa cC nC nFo nQd nRo nBe nEa nMi nHa nER nMR nTh nPa nOu nFr nQu eM eL eC eS eB eE eF eG)) 0 0 := by
  refine ent_i (cc := cX7_longest) (maxL := 2) (ret := (some .int)) (by decide) rfl (Nat.le_of_ble_eq_true rfl) ?_
  intro p e s m args below meth c A Q hQ hx hb hr hml hown hts hlk hA hAB hP hD hS ls hl
  have hown : s.vm.findClass RX7 = some m.cls := hown
  have hl : lv_has ls 2 [(0, .ref (ad 0)), (1, .int a1)] := hl
  generalize hH : s.heap = H at hP ⊢
  have hS : va_S A s.heap H [] := by rw [← hH]; exact hS
  clear hH
  generalize ([] : List Loc) = locs at hS ⊢
  refine lv_aload_n hx hb dX7_longest_0 rfl (lv_at hl 0 rfl) ?_
  refine va_get (D := D) (ci := 7) (C := RX7) (T := TX7) (N := 14) hx hb hts inn_X7_longest_7 hown hAB.1 hP 0 rfl rfl 5 (by decide) (hts (.fieldLink RX7 36 "BarnBench" "timing" "LBarnBench$Timing;") (by decide +kernel)) (fun _ h9 => h9) rfl dX7_longest_1 ?_
  refine lv_aload_n hx hb dX7_longest_4 rfl (lv_at hl 0 rfl) ?_
  refine va_get (D := D) (ci := 7) (C := RX7) (T := TX7) (N := 14) hx hb hts inn_X7_longest_7 hown hAB.1 hP 0 rfl rfl 1 (by decide) (hts (.fieldLink RX7 19 "BarnBench" "tasks" "LBarnBench$Tasks;") (by decide +kernel)) (fun _ h9 => h9) rfl dX7_longest_5 ?_
  refine lv_iload_n hx hb dX7_longest_8 rfl (lv_at hl 1 rfl) ?_
  refine lv_if_eq (tgt := 22) hx hb dX7_longest_9 (by decide) (fun c_1 => ?_) (fun c_1 => ?_)
  · have h := h.1 c_1
    refine lv_aload_n hx hb dX7_longest_22 rfl (lv_at hl 0 rfl) ?_
    refine va_get (D := D) (ci := 7) (C := RX7) (T := TX7) (N := 14) hx hb hts inn_X7_longest_7 hown hAB.1 hP 0 rfl rfl 1 (by decide) (hts (.fieldLink RX7 19 "BarnBench" "tasks" "LBarnBench$Tasks;") (by decide +kernel)) (fun _ h9 => h9) rfl dX7_longest_23 ?_
    refine va_get (D := D) (ci := 5) (C := RX5) (T := TX5) (N := 9) hx hb hts inn_X7_longest_5 hown hAB.1 hP 10 rfl rfl 2 (by decide) (hts (.fieldLink RX7 141 "BarnBench$Tasks" "easy" "[I") (by decide +kernel)) (fun _ h9 => h9) rfl dX7_longest_26 ?_
    refine cl_i hD hS hA (va_runV (As := [.ref (ad 10), .ref (ad 12)]) (rest := []) ⟨hx, hb, hml, hown, hts⟩ (ct_X6_beginEarly_3 h H.size) (cwV 2 hts gX7_longest_X6_beginEarly rfl rfl rfl (by decide +kernel) ⟨Nat.le_of_ble_eq_true rfl, Nat.le_of_ble_eq_true rfl⟩) ⟨CPre.blind, va_recv hAB.1 hP (ci := 6) (q0 := 32) rfl rfl, wd_pre hAB hP hD hS hA⟩ rfl rfl hl.1 rfl (lv_room (Nat.le_of_ble_eq_true rfl)) dX7_longest_29 ⟨Nat.zero_le _, Nat.zero_le _⟩) (fun r_2 u H locs h hP hD hS => ?_)
    obtain ⟨iRo_3, iEa_4⟩ := u
    have hP : va_P D vwCl (WC cI cJ cE cD ad bd dd bHK bHP bPF bWC bRi bBe bFi bWa dB dS dN tC tKi tEa tHa tPr tEx tSt tTo tBe kC kKi kEa kHa kPr kEx kSt kTo kBe aC aWh aTa aWa iRo_3 iEa_4 iLa cC nC nFo nQd nRo nBe nEa nMi nHa nER nMR nTh nPa nOu nFr nQu eM eL eC eS eB eE eF eG) H := hP
    have hD : va_D A (WC cI cJ cE cD ad bd dd bHK bHP bPF bWC bRi bBe bFi bWa dB dS dN tC tKi tEa tHa tPr tEx tSt tTo tBe kC kKi kEa kHa kPr kEx kSt kTo kBe aC aWh aTa aWa iRo_3 iEa_4 iLa cC nC nFo nQd nRo nBe nEa nMi nHa nER nMR nTh nPa nOu nFr nQu eM eL eC eS eB eE eF eG) := hD
    exact rt_i (iRo_3, iEa_4) hQ hx hb hr hlk hP hD hS ⟨Nat.zero_le _, Nat.zero_le _⟩ dX7_longest_32 h
  · have h := h.2 c_1
    refine lv_aload_n hx hb dX7_longest_12 rfl (lv_at hl 0 rfl) ?_
    refine va_get (D := D) (ci := 7) (C := RX7) (T := TX7) (N := 14) hx hb hts inn_X7_longest_7 hown hAB.1 hP 0 rfl rfl 1 (by decide) (hts (.fieldLink RX7 19 "BarnBench" "tasks" "LBarnBench$Tasks;") (by decide +kernel)) (fun _ h9 => h9) rfl dX7_longest_13 ?_
    refine va_get (D := D) (ci := 5) (C := RX5) (T := TX5) (N := 9) hx hb hts inn_X7_longest_5 hown hAB.1 hP 10 rfl rfl 3 (by decide) (hts (.fieldLink RX7 144 "BarnBench$Tasks" "hard" "[I") (by decide +kernel)) (fun _ h9 => h9) rfl dX7_longest_16 ?_
    refine lv_goto (tgt := 29) hx hb dX7_longest_19 (by decide) ?_
    refine cl_i hD hS hA (va_runV (As := [.ref (ad 10), .ref (ad 13)]) (rest := []) ⟨hx, hb, hml, hown, hts⟩ (ct_X6_beginEarly_2 h H.size) (cwV 2 hts gX7_longest_X6_beginEarly rfl rfl rfl (by decide +kernel) ⟨Nat.le_of_ble_eq_true rfl, Nat.le_of_ble_eq_true rfl⟩) ⟨CPre.blind, va_recv hAB.1 hP (ci := 6) (q0 := 32) rfl rfl, wd_pre hAB hP hD hS hA⟩ rfl rfl hl.1 rfl (lv_room (Nat.le_of_ble_eq_true rfl)) dX7_longest_29 ⟨Nat.zero_le _, Nat.zero_le _⟩) (fun r_5 u H locs h hP hD hS => ?_)
    obtain ⟨iRo_6, iEa_7⟩ := u
    have hP : va_P D vwCl (WC cI cJ cE cD ad bd dd bHK bHP bPF bWC bRi bBe bFi bWa dB dS dN tC tKi tEa tHa tPr tEx tSt tTo tBe kC kKi kEa kHa kPr kEx kSt kTo kBe aC aWh aTa aWa iRo_6 iEa_7 iLa cC nC nFo nQd nRo nBe nEa nMi nHa nER nMR nTh nPa nOu nFr nQu eM eL eC eS eB eE eF eG) H := hP
    have hD : va_D A (WC cI cJ cE cD ad bd dd bHK bHP bPF bWC bRi bBe bFi bWa dB dS dN tC tKi tEa tHa tPr tEx tSt tTo tBe kC kKi kEa kHa kPr kEx kSt kTo kBe aC aWh aTa aWa iRo_6 iEa_7 iLa cC nC nFo nQd nRo nBe nEa nMi nHa nER nMR nTh nPa nOu nFr nQu eM eL eC eS eB eE eF eG) := hD
    exact rt_i (iRo_6, iEa_7) hQ hx hb hr hlk hP hD hS ⟨Nat.zero_le _, Nat.zero_le _⟩ dX7_longest_32 h
def wp_X7_tell (bWC : Int32) (bFi : Int32) (bWa : Nat → Int32) (a1 : Int32) (Qp : Int32 → (Int32) → (Int32) → (Nat → Int32) → Prop) : Prop :=
  ((bWC < 60 → vp_in bWC 60 ∧ ∀ bWa_2 : Nat → Int32, bWa_2 = upd bWa (Int32.toNatClampNeg bWC) a1 → ∀ bWC_4 : Int32, bWC_4 = (bWC + 1) → Qp bWC_4 bWC_4 bFi bWa_2) ∧
   (¬ bWC < 60 → wp_X7_finding bFi (-5) (fun (r_6 : Int32) (bFi_7 : Int32) => Qp r_6 bWC bFi_7 bWa)))
theorem inn_X7_tell_7 : ∀ w ∈ u_ws RX7 TX7 14, w ∈ wsX7_tell := fun _ h => List.mem_cons_of_mem _ (List.mem_append_right _ h)
def rm_X7_tell : Room := { frames := 1, cells := 0, slots := 0, locals := 21 }
set_option maxHeartbeats 4000000 in
set_option maxRecDepth 100000 in
theorem ct_X7_tell {l : Launch} {D : va_G} {cI cJ cZ cE cD cK : ClassId} {ad : Nat → Nat} {bd dd : Nat → Nat → Nat} {bHK : Int32} {bHP : Int32} {bPF : Int32} {bWC : Int32} {bRi : Int32} {bBe : Int32} {bFi : Int32} {bWa : Nat → Int32} {dB : Nat → Int32} {dS : Nat → Int32} {dN : Nat → Nat → Int64} {tC : Int32} {tKi : Nat → Int32} {tEa : Nat → Int32} {tHa : Nat → Int32} {tPr : Nat → Int32} {tEx : Nat → Int32} {tSt : Nat → Int32} {tTo : Nat → Int32} {tBe : Nat → Int32} {kC : Int32} {kKi : Nat → Int32} {kEa : Nat → Int32} {kHa : Nat → Int32} {kPr : Nat → Int32} {kEx : Nat → Int32} {kSt : Nat → Int32} {kTo : Nat → Int32} {kBe : Nat → Int32} {aC : Int32} {aWh : Nat → Int32} {aTa : Nat → Int32} {aWa : Nat → Int32} {iRo : Nat → Int32} {iEa : Nat → Int32} {iLa : Nat → Int32} {cC : Int32} {nC : Int32} {nFo : Int32} {nQd : Int32} {nRo : Nat → Int32} {nBe : Nat → Int32} {nEa : Nat → Int32} {nMi : Nat → Int32} {nHa : Nat → Int32} {nER : Nat → Int32} {nMR : Nat → Int32} {nTh : Nat → Int32} {nPa : Nat → Int32} {nOu : Nat → Int32} {nFr : Nat → Int32} {nQu : Nat → Int32} {eM : Nat} {eL : Nat → Int32} {eC : Nat → Int64} {eS : Nat → Int64} {eB : Nat → Nat → Int32} {eE : Nat → Nat → Int32} {eF : Nat → Nat → Int32} {eG : Nat → Nat → Int32}   {a1 : Int32} {Qp : Int32 → (Int32) → (Int32) → (Nat → Int32) → Prop}   (h : wp_X7_tell bWC bFi bWa a1 Qp) : CTi l yX7_tell wsX7_tell rm_X7_tell D (tyL cI cJ cZ cE cD cK) [.ref (ad 0), .int a1] (WC cI cJ cE cD ad bd dd bHK bHP bPF bWC bRi bBe bFi bWa dB dS dN tC tKi tEa tHa tPr tEx tSt tTo tBe kC kKi kEa kHa kPr kEx kSt kTo kBe aC aWh aTa aWa iRo iEa iLa cC nC nFo nQd nRo nBe nEa nMi nHa nER nMR nTh nPa nOu nFr nQu eM eL eC eS eB eE eF eG) (fun (r : Int32) (u : (Int32) × (Int32) × (Nat → Int32)) => Qp r u.1 u.2.1 u.2.2) (fun u : (Int32) × (Int32) × (Nat → Int32) => (WC cI cJ cE cD ad bd dd bHK bHP bPF u.1 bRi bBe u.2.1 u.2.2 dB dS dN tC tKi tEa tHa tPr tEx tSt tTo tBe kC kKi kEa kHa kPr kEx kSt kTo kBe aC aWh aTa aWa iRo iEa iLa cC nC nFo nQd nRo nBe nEa nMi nHa nER nMR nTh nPa nOu nFr nQu eM eL eC eS eB eE eF eG)) 0 0 := by
  refine ent_i (cc := cX7_tell) (maxL := 2) (ret := (some .int)) (by decide) rfl (Nat.le_of_ble_eq_true rfl) ?_
  intro p e s m args below meth c A Q hQ hx hb hr hml hown hts hlk hA hAB hP hD hS ls hl
  have hown : s.vm.findClass RX7 = some m.cls := hown
  have hl : lv_has ls 2 [(0, .ref (ad 0)), (1, .int a1)] := hl
  generalize hH : s.heap = H at hP ⊢
  have hS : va_S A s.heap H [] := by rw [← hH]; exact hS
  clear hH
  generalize ([] : List Loc) = locs at hS ⊢
  refine lv_aload_n hx hb dX7_tell_0 rfl (lv_at hl 0 rfl) ?_
  refine va_get (D := D) (ci := 7) (C := RX7) (T := TX7) (N := 14) hx hb hts inn_X7_tell_7 hown hAB.1 hP 0 rfl rfl 10 (by decide) (hts (.fieldLink RX7 253 "BarnBench" "waitingCount" "I") (by decide +kernel)) (fun _ h9 => h9) rfl dX7_tell_1 ?_
  refine lv_bipush (v := 60) hx hb dX7_tell_4 (by decide) ?_
  refine lv_icmp_lt (tgt := 16) hx hb dX7_tell_6 (by decide) (fun c_1 => ?_) (fun c_1 => ?_)
  · have h := h.1 c_1
    refine lv_aload_n hx hb dX7_tell_16 rfl (lv_at hl 0 rfl) ?_
    refine va_get (D := D) (ci := 7) (C := RX7) (T := TX7) (N := 14) hx hb hts inn_X7_tell_7 hown hAB.1 hP 0 rfl rfl 9 (by decide) (hts (.fieldLink RX7 47 "BarnBench" "waiting" "[I") (by decide +kernel)) (fun _ h9 => h9) rfl dX7_tell_17 ?_
    refine lv_aload_n hx hb dX7_tell_20 rfl (lv_at hl 0 rfl) ?_
    refine va_get (D := D) (ci := 7) (C := RX7) (T := TX7) (N := 14) hx hb hts inn_X7_tell_7 hown hAB.1 hP 0 rfl rfl 10 (by decide) (hts (.fieldLink RX7 253 "BarnBench" "waitingCount" "I") (by decide +kernel)) (fun _ h9 => h9) rfl dX7_tell_21 ?_
    refine lv_iload_n hx hb dX7_tell_24 rfl (lv_at hl 1 rfl) ?_
    refine sC_51 hx hb hAB hP hD hS h.1 dX7_tell_25 (fun bWa_2 H locs e_3 hP hD hS => ?_)
    have h := h.2
    have h := h bWa_2 e_3
    refine lv_aload_n hx hb dX7_tell_26 rfl (lv_at hl 0 rfl) ?_
    refine lv_dup hx hb dX7_tell_27 rfl ?_
    refine va_get (D := D) (ci := 7) (C := RX7) (T := TX7) (N := 14) hx hb hts inn_X7_tell_7 hown hAB.1 hP 0 rfl rfl 10 (by decide) (hts (.fieldLink RX7 253 "BarnBench" "waitingCount" "I") (by decide +kernel)) (fun _ h9 => h9) rfl dX7_tell_28 ?_
    refine lv_iconst (v := 1) hx hb dX7_tell_31 (by decide) ?_
    refine lv_iadd hx hb dX7_tell_32 ?_
    refine fC_0_waitingCount hx hb hAB hP hD hS hts inn_X7_tell_7 hown (hts (.fieldLink RX7 253 "BarnBench" "waitingCount" "I") (by decide +kernel)) dX7_tell_33 (fun bWC_4 H locs e_5 hP hD hS => ?_)
    have h := h bWC_4 e_5
    refine lv_aload_n hx hb dX7_tell_36 rfl (lv_at hl 0 rfl) ?_
    refine va_get (D := D) (ci := 7) (C := RX7) (T := TX7) (N := 14) hx hb hts inn_X7_tell_7 hown hAB.1 hP 0 rfl rfl 10 (by decide) (hts (.fieldLink RX7 253 "BarnBench" "waitingCount" "I") (by decide +kernel)) (fun _ h9 => h9) rfl dX7_tell_37 ?_
    exact rt_i (bWC_4, bFi, bWa_2) hQ hx hb hr hlk hP hD hS ⟨Nat.zero_le _, Nat.zero_le _⟩ dX7_tell_40 h
  · have h := h.2 c_1
    refine lv_aload_n hx hb dX7_tell_9 rfl (lv_at hl 0 rfl) ?_
    refine lv_bipush (v := (-5)) hx hb dX7_tell_10 (by decide) ?_
    refine cl_i hD hS hA (va_runV (As := [.int (-5)]) (rest := []) ⟨hx, hb, hml, hown, hts⟩ (ct_X7_finding h H.size) (cwV 1 hts gX7_tell_X7_finding rfl rfl rfl (by decide +kernel) ⟨Nat.le_of_ble_eq_true rfl, Nat.le_of_ble_eq_true rfl⟩) ⟨CPre.blind, va_recv hAB.1 hP (ci := 7) (q0 := 0) rfl rfl, wd_pre hAB hP hD hS hA⟩ rfl rfl hl.1 rfl (lv_room (Nat.le_of_ble_eq_true rfl)) dX7_tell_12 ⟨Nat.zero_le _, Nat.zero_le _⟩) (fun r_6 bFi_7 H locs h hP hD hS => ?_)
    have hP : va_P D vwCl (WC cI cJ cE cD ad bd dd bHK bHP bPF bWC bRi bBe bFi_7 bWa dB dS dN tC tKi tEa tHa tPr tEx tSt tTo tBe kC kKi kEa kHa kPr kEx kSt kTo kBe aC aWh aTa aWa iRo iEa iLa cC nC nFo nQd nRo nBe nEa nMi nHa nER nMR nTh nPa nOu nFr nQu eM eL eC eS eB eE eF eG) H := hP
    have hD : va_D A (WC cI cJ cE cD ad bd dd bHK bHP bPF bWC bRi bBe bFi_7 bWa dB dS dN tC tKi tEa tHa tPr tEx tSt tTo tBe kC kKi kEa kHa kPr kEx kSt kTo kBe aC aWh aTa aWa iRo iEa iLa cC nC nFo nQd nRo nBe nEa nMi nHa nER nMR nTh nPa nOu nFr nQu eM eL eC eS eB eE eF eG) := hD
    exact rt_i (bWC, bFi_7, bWa) hQ hx hb hr hlk hP hD hS ⟨Nat.zero_le _, Nat.zero_le _⟩ dX7_tell_15 h
def wp_X7_undo_b146 (Qp : Int32 → (Int32) → (Int32) → (Int32) → (Nat → Int32) → (Nat → Int32) → (Int32) → (Int32) → Prop) (bHP_1 : Int32) (bFi_2 : Int32) (tC_3 : Int32) (tTo_4 : Nat → Int32) (tBe_5 : Nat → Int32) (aC_6 : Int32) (cC_7 : Int32) : Prop :=
  Qp aC_6 bHP_1 bFi_2 tC_3 tTo_4 tBe_5 aC_6 cC_7
def wp_X7_undo (bHP : Int32) (bFi : Int32) (tC : Int32) (tTo : Nat → Int32) (tBe : Nat → Int32) (aC : Int32) (aWh : Nat → Int32) (aTa : Nat → Int32) (aWa : Nat → Int32) (cC : Int32)  (Qp : Int32 → (Int32) → (Int32) → (Int32) → (Nat → Int32) → (Nat → Int32) → (Int32) → (Int32) → Prop) : Prop :=
  ((¬ aC = 0 → ∀ aC_9 : Int32, aC_9 = (aC - 1) → vp_in aC_9 30 ∧ ∀ x1_11 : Int32, x1_11 = (aTa (Int32.toNatClampNeg aC_9)) → vp_in aC_9 30 ∧ ∀ x2_13 : Int32, x2_13 = (aWa (Int32.toNatClampNeg aC_9)) → vp_in aC_9 30 ∧ (((aWh (Int32.toNatClampNeg aC_9)) = 0 → ∀ tC_16 : Int32, tC_16 = x1_11 → wp_X7_forgetPlans bHP cC (fun (bHP_18 : Int32) (cC_19 : Int32) => wp_X7_undo_b146 Qp bHP_18 bFi tC_16 tTo tBe aC_9 cC_19)) ∧
   (¬ (aWh (Int32.toNatClampNeg aC_9)) = 0 → (((aWh (Int32.toNatClampNeg aC_9)) = 1 → vp_in x1_11 12 ∧ ∀ tBe_21 : Nat → Int32, tBe_21 = upd tBe (Int32.toNatClampNeg x1_11) x2_13 → wp_X7_forgetPlans bHP cC (fun (bHP_23 : Int32) (cC_24 : Int32) => wp_X7_undo_b146 Qp bHP_23 bFi tC tTo tBe_21 aC_9 cC_24)) ∧
   (¬ (aWh (Int32.toNatClampNeg aC_9)) = 1 → vp_in x1_11 12 ∧ ∀ tTo_25 : Nat → Int32, tTo_25 = upd tTo (Int32.toNatClampNeg x1_11) x2_13 → wp_X7_undo_b146 Qp bHP bFi tC tTo_25 tBe aC_9 cC))))) ∧
   (aC = 0 → wp_X7_finding bFi (-7) (fun (r_27 : Int32) (bFi_28 : Int32) => Qp r_27 bHP bFi_28 tC tTo tBe aC cC)))
theorem inn_X7_undo_0 : ∀ w ∈ u_ws RX0 TX0 4, w ∈ wsX7_undo := fun _ h => List.mem_cons_of_mem _ (List.mem_append_left _ (List.mem_append_left _ (List.mem_append_right _ h)))
theorem inn_X7_undo_5 : ∀ w ∈ u_ws RX5 TX5 9, w ∈ wsX7_undo := fun _ h => List.mem_cons_of_mem _ (List.mem_append_left _ (List.mem_append_right _ h))
theorem inn_X7_undo_7 : ∀ w ∈ u_ws RX7 TX7 14, w ∈ wsX7_undo := fun _ h => List.mem_cons_of_mem _ (List.mem_append_left _ (List.mem_append_left _ (List.mem_append_left _ (List.mem_append_right _ h))))
def rm_X7_undo : Room := { frames := 1, cells := 0, slots := 0, locals := 21 }
set_option maxHeartbeats 4000000 in
set_option maxRecDepth 100000 in
theorem ct_X7_undo {l : Launch} {D : va_G} {cI cJ cZ cE cD cK : ClassId} {ad : Nat → Nat} {bd dd : Nat → Nat → Nat} {bHK : Int32} {bHP : Int32} {bPF : Int32} {bWC : Int32} {bRi : Int32} {bBe : Int32} {bFi : Int32} {bWa : Nat → Int32} {dB : Nat → Int32} {dS : Nat → Int32} {dN : Nat → Nat → Int64} {tC : Int32} {tKi : Nat → Int32} {tEa : Nat → Int32} {tHa : Nat → Int32} {tPr : Nat → Int32} {tEx : Nat → Int32} {tSt : Nat → Int32} {tTo : Nat → Int32} {tBe : Nat → Int32} {kC : Int32} {kKi : Nat → Int32} {kEa : Nat → Int32} {kHa : Nat → Int32} {kPr : Nat → Int32} {kEx : Nat → Int32} {kSt : Nat → Int32} {kTo : Nat → Int32} {kBe : Nat → Int32} {aC : Int32} {aWh : Nat → Int32} {aTa : Nat → Int32} {aWa : Nat → Int32} {iRo : Nat → Int32} {iEa : Nat → Int32} {iLa : Nat → Int32} {cC : Int32} {nC : Int32} {nFo : Int32} {nQd : Int32} {nRo : Nat → Int32} {nBe : Nat → Int32} {nEa : Nat → Int32} {nMi : Nat → Int32} {nHa : Nat → Int32} {nER : Nat → Int32} {nMR : Nat → Int32} {nTh : Nat → Int32} {nPa : Nat → Int32} {nOu : Nat → Int32} {nFr : Nat → Int32} {nQu : Nat → Int32} {eM : Nat} {eL : Nat → Int32} {eC : Nat → Int64} {eS : Nat → Int64} {eB : Nat → Nat → Int32} {eE : Nat → Nat → Int32} {eF : Nat → Nat → Int32} {eG : Nat → Nat → Int32}    {Qp : Int32 → (Int32) → (Int32) → (Int32) → (Nat → Int32) → (Nat → Int32) → (Int32) → (Int32) → Prop}   (h : wp_X7_undo bHP bFi tC tTo tBe aC aWh aTa aWa cC Qp) : CTi l yX7_undo wsX7_undo rm_X7_undo D (tyL cI cJ cZ cE cD cK) [.ref (ad 0)] (WC cI cJ cE cD ad bd dd bHK bHP bPF bWC bRi bBe bFi bWa dB dS dN tC tKi tEa tHa tPr tEx tSt tTo tBe kC kKi kEa kHa kPr kEx kSt kTo kBe aC aWh aTa aWa iRo iEa iLa cC nC nFo nQd nRo nBe nEa nMi nHa nER nMR nTh nPa nOu nFr nQu eM eL eC eS eB eE eF eG) (fun (r : Int32) (u : (Int32) × (Int32) × (Int32) × (Nat → Int32) × (Nat → Int32) × (Int32) × (Int32)) => Qp r u.1 u.2.1 u.2.2.1 u.2.2.2.1 u.2.2.2.2.1 u.2.2.2.2.2.1 u.2.2.2.2.2.2) (fun u : (Int32) × (Int32) × (Int32) × (Nat → Int32) × (Nat → Int32) × (Int32) × (Int32) => (WC cI cJ cE cD ad bd dd bHK u.1 bPF bWC bRi bBe u.2.1 bWa dB dS dN u.2.2.1 tKi tEa tHa tPr tEx tSt u.2.2.2.1 u.2.2.2.2.1 kC kKi kEa kHa kPr kEx kSt kTo kBe u.2.2.2.2.2.1 aWh aTa aWa iRo iEa iLa u.2.2.2.2.2.2 nC nFo nQd nRo nBe nEa nMi nHa nER nMR nTh nPa nOu nFr nQu eM eL eC eS eB eE eF eG)) 0 0 := by
  refine ent_i (cc := cX7_undo) (maxL := 3) (ret := (some .int)) (by decide) rfl (Nat.le_of_ble_eq_true rfl) ?_
  intro p e s m args below meth c A Q hQ hx hb hr hml hown hts hlk hA hAB hP hD hS ls hl
  have hown : s.vm.findClass RX7 = some m.cls := hown
  have hl : lv_has ls 3 [(0, .ref (ad 0))] := hl
  generalize hH : s.heap = H at hP ⊢
  have hS : va_S A s.heap H [] := by rw [← hH]; exact hS
  clear hH
  generalize ([] : List Loc) = locs at hS ⊢
  have B146 : ∀ (bHP_1 : Int32) (bFi_2 : Int32) (tC_3 : Int32) (tTo_4 : Nat → Int32) (tBe_5 : Nat → Int32) (aC_6 : Int32) (cC_7 : Int32), wp_X7_undo_b146 Qp bHP_1 bFi_2 tC_3 tTo_4 tBe_5 aC_6 cC_7 → ∀ (H : Heap) (locs : List Loc) (ls : Array Slot), va_P D vwCl (WC cI cJ cE cD ad bd dd bHK bHP_1 bPF bWC bRi bBe bFi_2 bWa dB dS dN tC_3 tKi tEa tHa tPr tEx tSt tTo_4 tBe_5 kC kKi kEa kHa kPr kEx kSt kTo kBe aC_6 aWh aTa aWa iRo iEa iLa cC_7 nC nFo nQd nRo nBe nEa nMi nHa nER nMR nTh nPa nOu nFr nQu eM eL eC eS eB eE eF eG) H → va_D A (WC cI cJ cE cD ad bd dd bHK bHP_1 bPF bWC bRi bBe bFi_2 bWa dB dS dN tC_3 tKi tEa tHa tPr tEx tSt tTo_4 tBe_5 kC kKi kEa kHa kPr kEx kSt kTo kBe aC_6 aWh aTa aWa iRo iEa iLa cC_7 nC nFo nQd nRo nBe nEa nMi nHa nER nMR nTh nPa nOu nFr nQu eM eL eC eS eB eE eF eG) → va_S A s.heap H locs → lv_has ls 3 [(0, .ref (ad 0))] → W p l e (headSpec wsX7_undo rm_X7_undo).room s m args below meth c H locs 0 0 Q (F0 m 146 ls []) := by
    intro bHP_1 bFi_2 tC_3 tTo_4 tBe_5 aC_6 cC_7 h H locs ls hP hD hS hl
    refine lv_aload_n hx hb dX7_undo_146 rfl (lv_at hl 0 rfl) ?_
    refine va_get (D := D) (ci := 7) (C := RX7) (T := TX7) (N := 14) hx hb hts inn_X7_undo_7 hown hAB.1 hP 0 rfl rfl 4 (by decide) (hts (.fieldLink RX7 29 "BarnBench" "acts" "LBarnBench$Acts;") (by decide +kernel)) (fun _ h9 => h9) rfl dX7_undo_147 ?_
    refine va_get (D := D) (ci := 0) (C := RX0) (T := TX0) (N := 4) hx hb hts inn_X7_undo_0 hown hAB.1 hP 28 rfl rfl 0 (by decide) (hts (.fieldLink RX7 260 "BarnBench$Acts" "count" "I") (by decide +kernel)) (fun _ h9 => h9) rfl dX7_undo_150 ?_
    exact rt_i (bHP_1, bFi_2, tC_3, tTo_4, tBe_5, aC_6, cC_7) hQ hx hb hr hlk hP hD hS ⟨Nat.zero_le _, Nat.zero_le _⟩ dX7_undo_153 h
  refine lv_aload_n hx hb dX7_undo_0 rfl (lv_at hl 0 rfl) ?_
  refine va_get (D := D) (ci := 7) (C := RX7) (T := TX7) (N := 14) hx hb hts inn_X7_undo_7 hown hAB.1 hP 0 rfl rfl 4 (by decide) (hts (.fieldLink RX7 29 "BarnBench" "acts" "LBarnBench$Acts;") (by decide +kernel)) (fun _ h9 => h9) rfl dX7_undo_1 ?_
  refine va_get (D := D) (ci := 0) (C := RX0) (T := TX0) (N := 4) hx hb hts inn_X7_undo_0 hown hAB.1 hP 28 rfl rfl 0 (by decide) (hts (.fieldLink RX7 260 "BarnBench$Acts" "count" "I") (by decide +kernel)) (fun _ h9 => h9) rfl dX7_undo_4 ?_
  refine lv_if_ne (tgt := 17) hx hb dX7_undo_7 (by decide) (fun c_8 => ?_) (fun c_8 => ?_)
  · have h := h.1 c_8
    refine lv_aload_n hx hb dX7_undo_17 rfl (lv_at hl 0 rfl) ?_
    refine va_get (D := D) (ci := 7) (C := RX7) (T := TX7) (N := 14) hx hb hts inn_X7_undo_7 hown hAB.1 hP 0 rfl rfl 4 (by decide) (hts (.fieldLink RX7 29 "BarnBench" "acts" "LBarnBench$Acts;") (by decide +kernel)) (fun _ h9 => h9) rfl dX7_undo_18 ?_
    refine lv_dup hx hb dX7_undo_21 rfl ?_
    refine va_get (D := D) (ci := 0) (C := RX0) (T := TX0) (N := 4) hx hb hts inn_X7_undo_0 hown hAB.1 hP 28 rfl rfl 0 (by decide) (hts (.fieldLink RX7 260 "BarnBench$Acts" "count" "I") (by decide +kernel)) (fun _ h9 => h9) rfl dX7_undo_22 ?_
    refine lv_iconst (v := 1) hx hb dX7_undo_25 (by decide) ?_
    refine lv_isub hx hb dX7_undo_26 ?_
    refine fC_28_count hx hb hAB hP hD hS hts inn_X7_undo_0 hown (hts (.fieldLink RX7 260 "BarnBench$Acts" "count" "I") (by decide +kernel)) dX7_undo_27 (fun aC_9 H locs e_10 hP hD hS => ?_)
    have h := h aC_9 e_10
    refine lv_aload_n hx hb dX7_undo_30 rfl (lv_at hl 0 rfl) ?_
    refine va_get (D := D) (ci := 7) (C := RX7) (T := TX7) (N := 14) hx hb hts inn_X7_undo_7 hown hAB.1 hP 0 rfl rfl 4 (by decide) (hts (.fieldLink RX7 29 "BarnBench" "acts" "LBarnBench$Acts;") (by decide +kernel)) (fun _ h9 => h9) rfl dX7_undo_31 ?_
    refine va_get (D := D) (ci := 0) (C := RX0) (T := TX0) (N := 4) hx hb hts inn_X7_undo_0 hown hAB.1 hP 28 rfl rfl 2 (by decide) (hts (.fieldLink RX7 261 "BarnBench$Acts" "task" "[I") (by decide +kernel)) (fun _ h9 => h9) rfl dX7_undo_34 ?_
    refine lv_aload_n hx hb dX7_undo_37 rfl (lv_at hl 0 rfl) ?_
    refine va_get (D := D) (ci := 7) (C := RX7) (T := TX7) (N := 14) hx hb hts inn_X7_undo_7 hown hAB.1 hP 0 rfl rfl 4 (by decide) (hts (.fieldLink RX7 29 "BarnBench" "acts" "LBarnBench$Acts;") (by decide +kernel)) (fun _ h9 => h9) rfl dX7_undo_38 ?_
    refine va_get (D := D) (ci := 0) (C := RX0) (T := TX0) (N := 4) hx hb hts inn_X7_undo_0 hown hAB.1 hP 28 rfl rfl 0 (by decide) (hts (.fieldLink RX7 260 "BarnBench$Acts" "count" "I") (by decide +kernel)) (fun _ h9 => h9) rfl dX7_undo_41 ?_
    refine va_iald hx hb hAB.1 hP 30 0 rfl rfl h.1 dX7_undo_44 ?_
    have h := h.2
    refine lv_topi (fun x1_11 e_12 => ?_)
    have h := h x1_11 e_12
    refine lv_istore_n (lv' := [(1, .int x1_11), (0, .ref (ad 0))]) hx hb dX7_undo_45 rfl hl (by decide) rfl (fun ls hl => ?_)
    refine lv_aload_n hx hb dX7_undo_46 rfl (lv_at hl 1 rfl) ?_
    refine va_get (D := D) (ci := 7) (C := RX7) (T := TX7) (N := 14) hx hb hts inn_X7_undo_7 hown hAB.1 hP 0 rfl rfl 4 (by decide) (hts (.fieldLink RX7 29 "BarnBench" "acts" "LBarnBench$Acts;") (by decide +kernel)) (fun _ h9 => h9) rfl dX7_undo_47 ?_
    refine va_get (D := D) (ci := 0) (C := RX0) (T := TX0) (N := 4) hx hb hts inn_X7_undo_0 hown hAB.1 hP 28 rfl rfl 3 (by decide) (hts (.fieldLink RX7 264 "BarnBench$Acts" "was" "[I") (by decide +kernel)) (fun _ h9 => h9) rfl dX7_undo_50 ?_
    refine lv_aload_n hx hb dX7_undo_53 rfl (lv_at hl 1 rfl) ?_
    refine va_get (D := D) (ci := 7) (C := RX7) (T := TX7) (N := 14) hx hb hts inn_X7_undo_7 hown hAB.1 hP 0 rfl rfl 4 (by decide) (hts (.fieldLink RX7 29 "BarnBench" "acts" "LBarnBench$Acts;") (by decide +kernel)) (fun _ h9 => h9) rfl dX7_undo_54 ?_
    refine va_get (D := D) (ci := 0) (C := RX0) (T := TX0) (N := 4) hx hb hts inn_X7_undo_0 hown hAB.1 hP 28 rfl rfl 0 (by decide) (hts (.fieldLink RX7 260 "BarnBench$Acts" "count" "I") (by decide +kernel)) (fun _ h9 => h9) rfl dX7_undo_57 ?_
    refine va_iald hx hb hAB.1 hP 31 0 rfl rfl h.1 dX7_undo_60 ?_
    have h := h.2
    refine lv_topi (fun x2_13 e_14 => ?_)
    have h := h x2_13 e_14
    refine lv_istore_n (lv' := [(2, .int x2_13), (1, .int x1_11), (0, .ref (ad 0))]) hx hb dX7_undo_61 rfl hl (by decide) rfl (fun ls hl => ?_)
    refine lv_aload_n hx hb dX7_undo_62 rfl (lv_at hl 2 rfl) ?_
    refine va_get (D := D) (ci := 7) (C := RX7) (T := TX7) (N := 14) hx hb hts inn_X7_undo_7 hown hAB.1 hP 0 rfl rfl 4 (by decide) (hts (.fieldLink RX7 29 "BarnBench" "acts" "LBarnBench$Acts;") (by decide +kernel)) (fun _ h9 => h9) rfl dX7_undo_63 ?_
    refine va_get (D := D) (ci := 0) (C := RX0) (T := TX0) (N := 4) hx hb hts inn_X7_undo_0 hown hAB.1 hP 28 rfl rfl 1 (by decide) (hts (.fieldLink RX7 267 "BarnBench$Acts" "what" "[I") (by decide +kernel)) (fun _ h9 => h9) rfl dX7_undo_66 ?_
    refine lv_aload_n hx hb dX7_undo_69 rfl (lv_at hl 2 rfl) ?_
    refine va_get (D := D) (ci := 7) (C := RX7) (T := TX7) (N := 14) hx hb hts inn_X7_undo_7 hown hAB.1 hP 0 rfl rfl 4 (by decide) (hts (.fieldLink RX7 29 "BarnBench" "acts" "LBarnBench$Acts;") (by decide +kernel)) (fun _ h9 => h9) rfl dX7_undo_70 ?_
    refine va_get (D := D) (ci := 0) (C := RX0) (T := TX0) (N := 4) hx hb hts inn_X7_undo_0 hown hAB.1 hP 28 rfl rfl 0 (by decide) (hts (.fieldLink RX7 260 "BarnBench$Acts" "count" "I") (by decide +kernel)) (fun _ h9 => h9) rfl dX7_undo_73 ?_
    refine va_iald hx hb hAB.1 hP 29 0 rfl rfl h.1 dX7_undo_76 ?_
    have h := h.2
    by_cases c_15 : (aWh (Int32.toNatClampNeg aC_9)) = 0
    · have h := h.1 c_15
      refine lv_lookup (off := 27) (tgt := 104) hx hb dX7_undo_77 (by decide) (by rw [c_15] <;> rfl) (by decide) ?_
      refine lv_aload_n hx hb dX7_undo_104 rfl (lv_at hl 2 rfl) ?_
      refine va_get (D := D) (ci := 7) (C := RX7) (T := TX7) (N := 14) hx hb hts inn_X7_undo_7 hown hAB.1 hP 0 rfl rfl 1 (by decide) (hts (.fieldLink RX7 19 "BarnBench" "tasks" "LBarnBench$Tasks;") (by decide +kernel)) (fun _ h9 => h9) rfl dX7_undo_105 ?_
      refine lv_iload_n hx hb dX7_undo_108 rfl (lv_at hl 1 rfl) ?_
      refine fC_10_count hx hb hAB hP hD hS hts inn_X7_undo_5 hown (hts (.fieldLink RX7 104 "BarnBench$Tasks" "count" "I") (by decide +kernel)) dX7_undo_109 (fun tC_16 H locs e_17 hP hD hS => ?_)
      have h := h tC_16 e_17
      refine lv_aload_n hx hb dX7_undo_112 rfl (lv_at hl 2 rfl) ?_
      refine cl_v hD hS hA (va_runV (As := []) (rest := []) ⟨hx, hb, hml, hown, hts⟩ (ct_X7_forgetPlans h H.size) (cwV 0 hts gX7_undo_X7_forgetPlans rfl rfl rfl (by decide +kernel) ⟨Nat.le_of_ble_eq_true rfl, Nat.le_of_ble_eq_true rfl⟩) ⟨CPre.blind, va_recv hAB.1 hP (ci := 7) (q0 := 0) rfl rfl, wd_pre hAB hP hD hS hA⟩ rfl rfl hl.1 rfl (lv_room (Nat.le_of_ble_eq_true rfl)) dX7_undo_113 ⟨Nat.zero_le _, Nat.zero_le _⟩) (fun u H locs h hP hD hS => ?_)
      obtain ⟨bHP_18, cC_19⟩ := u
      have hP : va_P D vwCl (WC cI cJ cE cD ad bd dd bHK bHP_18 bPF bWC bRi bBe bFi bWa dB dS dN tC_16 tKi tEa tHa tPr tEx tSt tTo tBe kC kKi kEa kHa kPr kEx kSt kTo kBe aC_9 aWh aTa aWa iRo iEa iLa cC_19 nC nFo nQd nRo nBe nEa nMi nHa nER nMR nTh nPa nOu nFr nQu eM eL eC eS eB eE eF eG) H := hP
      have hD : va_D A (WC cI cJ cE cD ad bd dd bHK bHP_18 bPF bWC bRi bBe bFi bWa dB dS dN tC_16 tKi tEa tHa tPr tEx tSt tTo tBe kC kKi kEa kHa kPr kEx kSt kTo kBe aC_9 aWh aTa aWa iRo iEa iLa cC_19 nC nFo nQd nRo nBe nEa nMi nHa nER nMR nTh nPa nOu nFr nQu eM eL eC eS eB eE eF eG) := hD
      refine lv_goto (tgt := 146) hx hb dX7_undo_116 (by decide) ?_
      exact B146 bHP_18 bFi tC_16 tTo tBe aC_9 cC_19 h H locs ls hP hD hS (lv_sub hl [2] rfl)
    · have h := h.2 c_15
      by_cases c_20 : (aWh (Int32.toNatClampNeg aC_9)) = 1
      · have h := h.1 c_20
        refine lv_lookup (off := 42) (tgt := 119) hx hb dX7_undo_77 (by decide) (by rw [c_20] <;> rfl) (by decide) ?_
        refine lv_aload_n hx hb dX7_undo_119 rfl (lv_at hl 2 rfl) ?_
        refine va_get (D := D) (ci := 7) (C := RX7) (T := TX7) (N := 14) hx hb hts inn_X7_undo_7 hown hAB.1 hP 0 rfl rfl 1 (by decide) (hts (.fieldLink RX7 19 "BarnBench" "tasks" "LBarnBench$Tasks;") (by decide +kernel)) (fun _ h9 => h9) rfl dX7_undo_120 ?_
        refine va_get (D := D) (ci := 5) (C := RX5) (T := TX5) (N := 9) hx hb hts inn_X7_undo_5 hown hAB.1 hP 10 rfl rfl 8 (by decide) (hts (.fieldLink RX7 126 "BarnBench$Tasks" "before" "[I") (by decide +kernel)) (fun _ h9 => h9) rfl dX7_undo_123 ?_
        refine lv_iload_n hx hb dX7_undo_126 rfl (lv_at hl 1 rfl) ?_
        refine lv_iload_n hx hb dX7_undo_127 rfl (lv_at hl 0 rfl) ?_
        refine sC_18 hx hb hAB hP hD hS h.1 dX7_undo_128 (fun tBe_21 H locs e_22 hP hD hS => ?_)
        have h := h.2
        have h := h tBe_21 e_22
        refine lv_aload_n hx hb dX7_undo_129 rfl (lv_at hl 2 rfl) ?_
        refine cl_v hD hS hA (va_runV (As := []) (rest := []) ⟨hx, hb, hml, hown, hts⟩ (ct_X7_forgetPlans h H.size) (cwV 0 hts gX7_undo_X7_forgetPlans rfl rfl rfl (by decide +kernel) ⟨Nat.le_of_ble_eq_true rfl, Nat.le_of_ble_eq_true rfl⟩) ⟨CPre.blind, va_recv hAB.1 hP (ci := 7) (q0 := 0) rfl rfl, wd_pre hAB hP hD hS hA⟩ rfl rfl hl.1 rfl (lv_room (Nat.le_of_ble_eq_true rfl)) dX7_undo_130 ⟨Nat.zero_le _, Nat.zero_le _⟩) (fun u H locs h hP hD hS => ?_)
        obtain ⟨bHP_23, cC_24⟩ := u
        have hP : va_P D vwCl (WC cI cJ cE cD ad bd dd bHK bHP_23 bPF bWC bRi bBe bFi bWa dB dS dN tC tKi tEa tHa tPr tEx tSt tTo tBe_21 kC kKi kEa kHa kPr kEx kSt kTo kBe aC_9 aWh aTa aWa iRo iEa iLa cC_24 nC nFo nQd nRo nBe nEa nMi nHa nER nMR nTh nPa nOu nFr nQu eM eL eC eS eB eE eF eG) H := hP
        have hD : va_D A (WC cI cJ cE cD ad bd dd bHK bHP_23 bPF bWC bRi bBe bFi bWa dB dS dN tC tKi tEa tHa tPr tEx tSt tTo tBe_21 kC kKi kEa kHa kPr kEx kSt kTo kBe aC_9 aWh aTa aWa iRo iEa iLa cC_24 nC nFo nQd nRo nBe nEa nMi nHa nER nMR nTh nPa nOu nFr nQu eM eL eC eS eB eE eF eG) := hD
        refine lv_goto (tgt := 146) hx hb dX7_undo_133 (by decide) ?_
        exact B146 bHP_23 bFi tC tTo tBe_21 aC_9 cC_24 h H locs ls hP hD hS (lv_sub hl [2] rfl)
      · have h := h.2 c_20
        refine lv_lookup (off := 59) (tgt := 136) hx hb dX7_undo_77 (by decide) ((lv_osw c_15 rfl).trans ((lv_osw c_20 rfl).trans rfl)) (by decide) ?_
        refine lv_aload_n hx hb dX7_undo_136 rfl (lv_at hl 2 rfl) ?_
        refine va_get (D := D) (ci := 7) (C := RX7) (T := TX7) (N := 14) hx hb hts inn_X7_undo_7 hown hAB.1 hP 0 rfl rfl 1 (by decide) (hts (.fieldLink RX7 19 "BarnBench" "tasks" "LBarnBench$Tasks;") (by decide +kernel)) (fun _ h9 => h9) rfl dX7_undo_137 ?_
        refine va_get (D := D) (ci := 5) (C := RX5) (T := TX5) (N := 9) hx hb hts inn_X7_undo_5 hown hAB.1 hP 10 rfl rfl 7 (by decide) (hts (.fieldLink RX7 169 "BarnBench$Tasks" "told" "[I") (by decide +kernel)) (fun _ h9 => h9) rfl dX7_undo_140 ?_
        refine lv_iload_n hx hb dX7_undo_143 rfl (lv_at hl 1 rfl) ?_
        refine lv_iload_n hx hb dX7_undo_144 rfl (lv_at hl 0 rfl) ?_
        refine sC_17 hx hb hAB hP hD hS h.1 dX7_undo_145 (fun tTo_25 H locs e_26 hP hD hS => ?_)
        have h := h.2
        have h := h tTo_25 e_26
        exact B146 bHP bFi tC tTo_25 tBe aC_9 cC h H locs ls hP hD hS (lv_sub hl [2] rfl)
  · have h := h.2 c_8
    refine lv_aload_n hx hb dX7_undo_10 rfl (lv_at hl 0 rfl) ?_
    refine lv_bipush (v := (-7)) hx hb dX7_undo_11 (by decide) ?_
    refine cl_i hD hS hA (va_runV (As := [.int (-7)]) (rest := []) ⟨hx, hb, hml, hown, hts⟩ (ct_X7_finding h H.size) (cwV 1 hts gX7_undo_X7_finding rfl rfl rfl (by decide +kernel) ⟨Nat.le_of_ble_eq_true rfl, Nat.le_of_ble_eq_true rfl⟩) ⟨CPre.blind, va_recv hAB.1 hP (ci := 7) (q0 := 0) rfl rfl, wd_pre hAB hP hD hS hA⟩ rfl rfl hl.1 rfl (lv_room (Nat.le_of_ble_eq_true rfl)) dX7_undo_13 ⟨Nat.zero_le _, Nat.zero_le _⟩) (fun r_27 bFi_28 H locs h hP hD hS => ?_)
    have hP : va_P D vwCl (WC cI cJ cE cD ad bd dd bHK bHP bPF bWC bRi bBe bFi_28 bWa dB dS dN tC tKi tEa tHa tPr tEx tSt tTo tBe kC kKi kEa kHa kPr kEx kSt kTo kBe aC aWh aTa aWa iRo iEa iLa cC nC nFo nQd nRo nBe nEa nMi nHa nER nMR nTh nPa nOu nFr nQu eM eL eC eS eB eE eF eG) H := hP
    have hD : va_D A (WC cI cJ cE cD ad bd dd bHK bHP bPF bWC bRi bBe bFi_28 bWa dB dS dN tC tKi tEa tHa tPr tEx tSt tTo tBe kC kKi kEa kHa kPr kEx kSt kTo kBe aC aWh aTa aWa iRo iEa iLa cC nC nFo nQd nRo nBe nEa nMi nHa nER nMR nTh nPa nOu nFr nQu eM eL eC eS eB eE eF eG) := hD
    exact rt_i (bHP, bFi_28, tC, tTo, tBe, aC, cC) hQ hx hb hr hlk hP hD hS ⟨Nat.zero_le _, Nat.zero_le _⟩ dX7_undo_16 h
def wp_X7_keep (bHK : Int32) (tC : Int32) (tKi : Nat → Int32) (tEa : Nat → Int32) (tHa : Nat → Int32) (tPr : Nat → Int32) (tEx : Nat → Int32) (tSt : Nat → Int32) (tTo : Nat → Int32) (tBe : Nat → Int32) (kC : Int32) (kKi : Nat → Int32) (kEa : Nat → Int32) (kHa : Nat → Int32) (kPr : Nat → Int32) (kEx : Nat → Int32) (kSt : Nat → Int32) (kTo : Nat → Int32) (kBe : Nat → Int32)  (Qp : Int32 → (Int32) → (Int32) → (Nat → Int32) → (Nat → Int32) → (Nat → Int32) → (Nat → Int32) → (Nat → Int32) → (Nat → Int32) → (Nat → Int32) → (Nat → Int32) → Prop) : Prop :=
  wp_X5_become tC tKi tEa tHa tPr tEx tSt tTo tBe kC kKi kEa kHa kPr kEx kSt kTo kBe (fun (kC_1 : Int32) (kKi_2 : Nat → Int32) (kEa_3 : Nat → Int32) (kHa_4 : Nat → Int32) (kPr_5 : Nat → Int32) (kEx_6 : Nat → Int32) (kSt_7 : Nat → Int32) (kTo_8 : Nat → Int32) (kBe_9 : Nat → Int32) => ∀ bHK_10 : Int32, bHK_10 = 1 → Qp kC_1 bHK_10 kC_1 kKi_2 kEa_3 kHa_4 kPr_5 kEx_6 kSt_7 kTo_8 kBe_9)
theorem inn_X7_keep_5 : ∀ w ∈ u_ws RX5 TX5 9, w ∈ wsX7_keep := fun _ h => List.mem_cons_of_mem _ (List.mem_append_right _ h)
theorem inn_X7_keep_7 : ∀ w ∈ u_ws RX7 TX7 14, w ∈ wsX7_keep := fun _ h => List.mem_cons_of_mem _ (List.mem_append_left _ (List.mem_append_right _ h))
def rm_X7_keep : Room := { frames := 2, cells := 0, slots := 0, locals := 81 }
set_option maxHeartbeats 4000000 in
set_option maxRecDepth 100000 in
theorem ct_X7_keep {l : Launch} {D : va_G} {cI cJ cZ cE cD cK : ClassId} {ad : Nat → Nat} {bd dd : Nat → Nat → Nat} {bHK : Int32} {bHP : Int32} {bPF : Int32} {bWC : Int32} {bRi : Int32} {bBe : Int32} {bFi : Int32} {bWa : Nat → Int32} {dB : Nat → Int32} {dS : Nat → Int32} {dN : Nat → Nat → Int64} {tC : Int32} {tKi : Nat → Int32} {tEa : Nat → Int32} {tHa : Nat → Int32} {tPr : Nat → Int32} {tEx : Nat → Int32} {tSt : Nat → Int32} {tTo : Nat → Int32} {tBe : Nat → Int32} {kC : Int32} {kKi : Nat → Int32} {kEa : Nat → Int32} {kHa : Nat → Int32} {kPr : Nat → Int32} {kEx : Nat → Int32} {kSt : Nat → Int32} {kTo : Nat → Int32} {kBe : Nat → Int32} {aC : Int32} {aWh : Nat → Int32} {aTa : Nat → Int32} {aWa : Nat → Int32} {iRo : Nat → Int32} {iEa : Nat → Int32} {iLa : Nat → Int32} {cC : Int32} {nC : Int32} {nFo : Int32} {nQd : Int32} {nRo : Nat → Int32} {nBe : Nat → Int32} {nEa : Nat → Int32} {nMi : Nat → Int32} {nHa : Nat → Int32} {nER : Nat → Int32} {nMR : Nat → Int32} {nTh : Nat → Int32} {nPa : Nat → Int32} {nOu : Nat → Int32} {nFr : Nat → Int32} {nQu : Nat → Int32} {eM : Nat} {eL : Nat → Int32} {eC : Nat → Int64} {eS : Nat → Int64} {eB : Nat → Nat → Int32} {eE : Nat → Nat → Int32} {eF : Nat → Nat → Int32} {eG : Nat → Nat → Int32}    {Qp : Int32 → (Int32) → (Int32) → (Nat → Int32) → (Nat → Int32) → (Nat → Int32) → (Nat → Int32) → (Nat → Int32) → (Nat → Int32) → (Nat → Int32) → (Nat → Int32) → Prop}   (h : wp_X7_keep bHK tC tKi tEa tHa tPr tEx tSt tTo tBe kC kKi kEa kHa kPr kEx kSt kTo kBe Qp) : CTi l yX7_keep wsX7_keep rm_X7_keep D (tyL cI cJ cZ cE cD cK) [.ref (ad 0)] (WC cI cJ cE cD ad bd dd bHK bHP bPF bWC bRi bBe bFi bWa dB dS dN tC tKi tEa tHa tPr tEx tSt tTo tBe kC kKi kEa kHa kPr kEx kSt kTo kBe aC aWh aTa aWa iRo iEa iLa cC nC nFo nQd nRo nBe nEa nMi nHa nER nMR nTh nPa nOu nFr nQu eM eL eC eS eB eE eF eG) (fun (r : Int32) (u : (Int32) × (Int32) × (Nat → Int32) × (Nat → Int32) × (Nat → Int32) × (Nat → Int32) × (Nat → Int32) × (Nat → Int32) × (Nat → Int32) × (Nat → Int32)) => Qp r u.1 u.2.1 u.2.2.1 u.2.2.2.1 u.2.2.2.2.1 u.2.2.2.2.2.1 u.2.2.2.2.2.2.1 u.2.2.2.2.2.2.2.1 u.2.2.2.2.2.2.2.2.1 u.2.2.2.2.2.2.2.2.2) (fun u : (Int32) × (Int32) × (Nat → Int32) × (Nat → Int32) × (Nat → Int32) × (Nat → Int32) × (Nat → Int32) × (Nat → Int32) × (Nat → Int32) × (Nat → Int32) => (WC cI cJ cE cD ad bd dd u.1 bHP bPF bWC bRi bBe bFi bWa dB dS dN tC tKi tEa tHa tPr tEx tSt tTo tBe u.2.1 u.2.2.1 u.2.2.2.1 u.2.2.2.2.1 u.2.2.2.2.2.1 u.2.2.2.2.2.2.1 u.2.2.2.2.2.2.2.1 u.2.2.2.2.2.2.2.2.1 u.2.2.2.2.2.2.2.2.2 aC aWh aTa aWa iRo iEa iLa cC nC nFo nQd nRo nBe nEa nMi nHa nER nMR nTh nPa nOu nFr nQu eM eL eC eS eB eE eF eG)) 0 0 := by
  refine ent_i (cc := cX7_keep) (maxL := 1) (ret := (some .int)) (by decide) rfl (Nat.le_of_ble_eq_true rfl) ?_
  intro p e s m args below meth c A Q hQ hx hb hr hml hown hts hlk hA hAB hP hD hS ls hl
  have hown : s.vm.findClass RX7 = some m.cls := hown
  have hl : lv_has ls 1 [(0, .ref (ad 0))] := hl
  generalize hH : s.heap = H at hP ⊢
  have hS : va_S A s.heap H [] := by rw [← hH]; exact hS
  clear hH
  generalize ([] : List Loc) = locs at hS ⊢
  refine lv_aload_n hx hb dX7_keep_0 rfl (lv_at hl 0 rfl) ?_
  refine va_get (D := D) (ci := 7) (C := RX7) (T := TX7) (N := 14) hx hb hts inn_X7_keep_7 hown hAB.1 hP 0 rfl rfl 2 (by decide) (hts (.fieldLink RX7 23 "BarnBench" "kept" "LBarnBench$Tasks;") (by decide +kernel)) (fun _ h9 => h9) rfl dX7_keep_1 ?_
  refine lv_aload_n hx hb dX7_keep_4 rfl (lv_at hl 0 rfl) ?_
  refine va_get (D := D) (ci := 7) (C := RX7) (T := TX7) (N := 14) hx hb hts inn_X7_keep_7 hown hAB.1 hP 0 rfl rfl 1 (by decide) (hts (.fieldLink RX7 19 "BarnBench" "tasks" "LBarnBench$Tasks;") (by decide +kernel)) (fun _ h9 => h9) rfl dX7_keep_5 ?_
  refine cl_v hD hS hA (va_runV (As := [.ref (ad 10)]) (rest := []) ⟨hx, hb, hml, hown, hts⟩ (ct_X5_become_1 h H.size) (cwV 1 hts gX7_keep_X5_become rfl rfl rfl (by decide +kernel) ⟨Nat.le_of_ble_eq_true rfl, Nat.le_of_ble_eq_true rfl⟩) ⟨CPre.blind, va_recv hAB.1 hP (ci := 5) (q0 := 19) rfl rfl, wd_pre hAB hP hD hS hA⟩ rfl rfl hl.1 rfl (lv_room (Nat.le_of_ble_eq_true rfl)) dX7_keep_8 ⟨Nat.zero_le _, Nat.zero_le _⟩) (fun u H locs h hP hD hS => ?_)
  obtain ⟨kC_1, kKi_2, kEa_3, kHa_4, kPr_5, kEx_6, kSt_7, kTo_8, kBe_9⟩ := u
  have hP : va_P D vwCl (WC cI cJ cE cD ad bd dd bHK bHP bPF bWC bRi bBe bFi bWa dB dS dN tC tKi tEa tHa tPr tEx tSt tTo tBe kC_1 kKi_2 kEa_3 kHa_4 kPr_5 kEx_6 kSt_7 kTo_8 kBe_9 aC aWh aTa aWa iRo iEa iLa cC nC nFo nQd nRo nBe nEa nMi nHa nER nMR nTh nPa nOu nFr nQu eM eL eC eS eB eE eF eG) H := hP
  have hD : va_D A (WC cI cJ cE cD ad bd dd bHK bHP bPF bWC bRi bBe bFi bWa dB dS dN tC tKi tEa tHa tPr tEx tSt tTo tBe kC_1 kKi_2 kEa_3 kHa_4 kPr_5 kEx_6 kSt_7 kTo_8 kBe_9 aC aWh aTa aWa iRo iEa iLa cC nC nFo nQd nRo nBe nEa nMi nHa nER nMR nTh nPa nOu nFr nQu eM eL eC eS eB eE eF eG) := hD
  refine lv_aload_n hx hb dX7_keep_11 rfl (lv_at hl 0 rfl) ?_
  refine lv_iconst (v := 1) hx hb dX7_keep_12 (by decide) ?_
  refine fC_0_hasKept hx hb hAB hP hD hS hts inn_X7_keep_7 hown (hts (.fieldLink RX7 274 "BarnBench" "hasKept" "Z") (by decide +kernel)) (by decide) dX7_keep_13 (fun bHK_10 H locs e_11 hP hD hS => ?_)
  have h := h bHK_10 e_11
  refine lv_aload_n hx hb dX7_keep_16 rfl (lv_at hl 0 rfl) ?_
  refine va_get (D := D) (ci := 7) (C := RX7) (T := TX7) (N := 14) hx hb hts inn_X7_keep_7 hown hAB.1 hP 0 rfl rfl 2 (by decide) (hts (.fieldLink RX7 23 "BarnBench" "kept" "LBarnBench$Tasks;") (by decide +kernel)) (fun _ h9 => h9) rfl dX7_keep_17 ?_
  refine va_get (D := D) (ci := 5) (C := RX5) (T := TX5) (N := 9) hx hb hts inn_X7_keep_5 hown hAB.1 hP 19 rfl rfl 0 (by decide) (hts (.fieldLink RX7 104 "BarnBench$Tasks" "count" "I") (by decide +kernel)) (fun _ h9 => h9) rfl dX7_keep_20 ?_
  exact rt_i (bHK_10, kC_1, kKi_2, kEa_3, kHa_4, kPr_5, kEx_6, kSt_7, kTo_8, kBe_9) hQ hx hb hr hlk hP hD hS ⟨Nat.zero_le _, Nat.zero_le _⟩ dX7_keep_23 h
def wp_X7_back (bHK : Int32) (bHP : Int32) (bFi : Int32) (tC : Int32) (tKi : Nat → Int32) (tEa : Nat → Int32) (tHa : Nat → Int32) (tPr : Nat → Int32) (tEx : Nat → Int32) (tSt : Nat → Int32) (tTo : Nat → Int32) (tBe : Nat → Int32) (kC : Int32) (kKi : Nat → Int32) (kEa : Nat → Int32) (kHa : Nat → Int32) (kPr : Nat → Int32) (kEx : Nat → Int32) (kSt : Nat → Int32) (kTo : Nat → Int32) (kBe : Nat → Int32) (aC : Int32) (cC : Int32)  (Qp : Int32 → (Int32) → (Int32) → (Int32) → (Nat → Int32) → (Nat → Int32) → (Nat → Int32) → (Nat → Int32) → (Nat → Int32) → (Nat → Int32) → (Nat → Int32) → (Nat → Int32) → (Int32) → (Int32) → Prop) : Prop :=
  ((¬ bHK = 0 → wp_X5_become_2 tC tKi tEa tHa tPr tEx tSt tTo tBe kC kKi kEa kHa kPr kEx kSt kTo kBe (fun (tC_2 : Int32) (tKi_3 : Nat → Int32) (tEa_4 : Nat → Int32) (tHa_5 : Nat → Int32) (tPr_6 : Nat → Int32) (tEx_7 : Nat → Int32) (tSt_8 : Nat → Int32) (tTo_9 : Nat → Int32) (tBe_10 : Nat → Int32) => ∀ aC_11 : Int32, aC_11 = 0 → wp_X7_forgetPlans bHP cC (fun (bHP_13 : Int32) (cC_14 : Int32) => Qp tC_2 bHP_13 bFi tC_2 tKi_3 tEa_4 tHa_5 tPr_6 tEx_7 tSt_8 tTo_9 tBe_10 aC_11 cC_14))) ∧
   (bHK = 0 → wp_X7_finding bFi (-7) (fun (r_15 : Int32) (bFi_16 : Int32) => Qp r_15 bHP bFi_16 tC tKi tEa tHa tPr tEx tSt tTo tBe aC cC)))
theorem inn_X7_back_0 : ∀ w ∈ u_ws RX0 TX0 4, w ∈ wsX7_back := fun _ h => List.mem_cons_of_mem _ (List.mem_append_left _ (List.mem_append_left _ (List.mem_append_right _ h)))
theorem inn_X7_back_5 : ∀ w ∈ u_ws RX5 TX5 9, w ∈ wsX7_back := fun _ h => List.mem_cons_of_mem _ (List.mem_append_left _ (List.mem_append_right _ h))
theorem inn_X7_back_7 : ∀ w ∈ u_ws RX7 TX7 14, w ∈ wsX7_back := fun _ h => List.mem_cons_of_mem _ (List.mem_append_left _ (List.mem_append_left _ (List.mem_append_left _ (List.mem_append_right _ h))))
def rm_X7_back : Room := { frames := 2, cells := 0, slots := 0, locals := 81 }
set_option maxHeartbeats 4000000 in
set_option maxRecDepth 100000 in
theorem ct_X7_back {l : Launch} {D : va_G} {cI cJ cZ cE cD cK : ClassId} {ad : Nat → Nat} {bd dd : Nat → Nat → Nat} {bHK : Int32} {bHP : Int32} {bPF : Int32} {bWC : Int32} {bRi : Int32} {bBe : Int32} {bFi : Int32} {bWa : Nat → Int32} {dB : Nat → Int32} {dS : Nat → Int32} {dN : Nat → Nat → Int64} {tC : Int32} {tKi : Nat → Int32} {tEa : Nat → Int32} {tHa : Nat → Int32} {tPr : Nat → Int32} {tEx : Nat → Int32} {tSt : Nat → Int32} {tTo : Nat → Int32} {tBe : Nat → Int32} {kC : Int32} {kKi : Nat → Int32} {kEa : Nat → Int32} {kHa : Nat → Int32} {kPr : Nat → Int32} {kEx : Nat → Int32} {kSt : Nat → Int32} {kTo : Nat → Int32} {kBe : Nat → Int32} {aC : Int32} {aWh : Nat → Int32} {aTa : Nat → Int32} {aWa : Nat → Int32} {iRo : Nat → Int32} {iEa : Nat → Int32} {iLa : Nat → Int32} {cC : Int32} {nC : Int32} {nFo : Int32} {nQd : Int32} {nRo : Nat → Int32} {nBe : Nat → Int32} {nEa : Nat → Int32} {nMi : Nat → Int32} {nHa : Nat → Int32} {nER : Nat → Int32} {nMR : Nat → Int32} {nTh : Nat → Int32} {nPa : Nat → Int32} {nOu : Nat → Int32} {nFr : Nat → Int32} {nQu : Nat → Int32} {eM : Nat} {eL : Nat → Int32} {eC : Nat → Int64} {eS : Nat → Int64} {eB : Nat → Nat → Int32} {eE : Nat → Nat → Int32} {eF : Nat → Nat → Int32} {eG : Nat → Nat → Int32}    {Qp : Int32 → (Int32) → (Int32) → (Int32) → (Nat → Int32) → (Nat → Int32) → (Nat → Int32) → (Nat → Int32) → (Nat → Int32) → (Nat → Int32) → (Nat → Int32) → (Nat → Int32) → (Int32) → (Int32) → Prop}   (h : wp_X7_back bHK bHP bFi tC tKi tEa tHa tPr tEx tSt tTo tBe kC kKi kEa kHa kPr kEx kSt kTo kBe aC cC Qp) : CTi l yX7_back wsX7_back rm_X7_back D (tyL cI cJ cZ cE cD cK) [.ref (ad 0)] (WC cI cJ cE cD ad bd dd bHK bHP bPF bWC bRi bBe bFi bWa dB dS dN tC tKi tEa tHa tPr tEx tSt tTo tBe kC kKi kEa kHa kPr kEx kSt kTo kBe aC aWh aTa aWa iRo iEa iLa cC nC nFo nQd nRo nBe nEa nMi nHa nER nMR nTh nPa nOu nFr nQu eM eL eC eS eB eE eF eG) (fun (r : Int32) (u : (Int32) × (Int32) × (Int32) × (Nat → Int32) × (Nat → Int32) × (Nat → Int32) × (Nat → Int32) × (Nat → Int32) × (Nat → Int32) × (Nat → Int32) × (Nat → Int32) × (Int32) × (Int32)) => Qp r u.1 u.2.1 u.2.2.1 u.2.2.2.1 u.2.2.2.2.1 u.2.2.2.2.2.1 u.2.2.2.2.2.2.1 u.2.2.2.2.2.2.2.1 u.2.2.2.2.2.2.2.2.1 u.2.2.2.2.2.2.2.2.2.1 u.2.2.2.2.2.2.2.2.2.2.1 u.2.2.2.2.2.2.2.2.2.2.2.1 u.2.2.2.2.2.2.2.2.2.2.2.2) (fun u : (Int32) × (Int32) × (Int32) × (Nat → Int32) × (Nat → Int32) × (Nat → Int32) × (Nat → Int32) × (Nat → Int32) × (Nat → Int32) × (Nat → Int32) × (Nat → Int32) × (Int32) × (Int32) => (WC cI cJ cE cD ad bd dd bHK u.1 bPF bWC bRi bBe u.2.1 bWa dB dS dN u.2.2.1 u.2.2.2.1 u.2.2.2.2.1 u.2.2.2.2.2.1 u.2.2.2.2.2.2.1 u.2.2.2.2.2.2.2.1 u.2.2.2.2.2.2.2.2.1 u.2.2.2.2.2.2.2.2.2.1 u.2.2.2.2.2.2.2.2.2.2.1 kC kKi kEa kHa kPr kEx kSt kTo kBe u.2.2.2.2.2.2.2.2.2.2.2.1 aWh aTa aWa iRo iEa iLa u.2.2.2.2.2.2.2.2.2.2.2.2 nC nFo nQd nRo nBe nEa nMi nHa nER nMR nTh nPa nOu nFr nQu eM eL eC eS eB eE eF eG)) 0 0 := by
  refine ent_i (cc := cX7_back) (maxL := 1) (ret := (some .int)) (by decide) rfl (Nat.le_of_ble_eq_true rfl) ?_
  intro p e s m args below meth c A Q hQ hx hb hr hml hown hts hlk hA hAB hP hD hS ls hl
  have hown : s.vm.findClass RX7 = some m.cls := hown
  have hl : lv_has ls 1 [(0, .ref (ad 0))] := hl
  generalize hH : s.heap = H at hP ⊢
  have hS : va_S A s.heap H [] := by rw [← hH]; exact hS
  clear hH
  generalize ([] : List Loc) = locs at hS ⊢
  refine lv_aload_n hx hb dX7_back_0 rfl (lv_at hl 0 rfl) ?_
  refine va_get (D := D) (ci := 7) (C := RX7) (T := TX7) (N := 14) hx hb hts inn_X7_back_7 hown hAB.1 hP 0 rfl rfl 3 (by decide) (hts (.fieldLink RX7 274 "BarnBench" "hasKept" "Z") (by decide +kernel)) (fun _ h9 => h9) rfl dX7_back_1 ?_
  refine lv_if_ne (tgt := 14) hx hb dX7_back_4 (by decide) (fun c_1 => ?_) (fun c_1 => ?_)
  · have h := h.1 c_1
    refine lv_aload_n hx hb dX7_back_14 rfl (lv_at hl 0 rfl) ?_
    refine va_get (D := D) (ci := 7) (C := RX7) (T := TX7) (N := 14) hx hb hts inn_X7_back_7 hown hAB.1 hP 0 rfl rfl 1 (by decide) (hts (.fieldLink RX7 19 "BarnBench" "tasks" "LBarnBench$Tasks;") (by decide +kernel)) (fun _ h9 => h9) rfl dX7_back_15 ?_
    refine lv_aload_n hx hb dX7_back_18 rfl (lv_at hl 0 rfl) ?_
    refine va_get (D := D) (ci := 7) (C := RX7) (T := TX7) (N := 14) hx hb hts inn_X7_back_7 hown hAB.1 hP 0 rfl rfl 2 (by decide) (hts (.fieldLink RX7 23 "BarnBench" "kept" "LBarnBench$Tasks;") (by decide +kernel)) (fun _ h9 => h9) rfl dX7_back_19 ?_
    refine cl_v hD hS hA (va_runV (As := [.ref (ad 19)]) (rest := []) ⟨hx, hb, hml, hown, hts⟩ (ct_X5_become_2 h H.size) (cwV 1 hts gX7_back_X5_become rfl rfl rfl (by decide +kernel) ⟨Nat.le_of_ble_eq_true rfl, Nat.le_of_ble_eq_true rfl⟩) ⟨CPre.blind, va_recv hAB.1 hP (ci := 5) (q0 := 10) rfl rfl, wd_pre hAB hP hD hS hA⟩ rfl rfl hl.1 rfl (lv_room (Nat.le_of_ble_eq_true rfl)) dX7_back_22 ⟨Nat.zero_le _, Nat.zero_le _⟩) (fun u H locs h hP hD hS => ?_)
    obtain ⟨tC_2, tKi_3, tEa_4, tHa_5, tPr_6, tEx_7, tSt_8, tTo_9, tBe_10⟩ := u
    have hP : va_P D vwCl (WC cI cJ cE cD ad bd dd bHK bHP bPF bWC bRi bBe bFi bWa dB dS dN tC_2 tKi_3 tEa_4 tHa_5 tPr_6 tEx_7 tSt_8 tTo_9 tBe_10 kC kKi kEa kHa kPr kEx kSt kTo kBe aC aWh aTa aWa iRo iEa iLa cC nC nFo nQd nRo nBe nEa nMi nHa nER nMR nTh nPa nOu nFr nQu eM eL eC eS eB eE eF eG) H := hP
    have hD : va_D A (WC cI cJ cE cD ad bd dd bHK bHP bPF bWC bRi bBe bFi bWa dB dS dN tC_2 tKi_3 tEa_4 tHa_5 tPr_6 tEx_7 tSt_8 tTo_9 tBe_10 kC kKi kEa kHa kPr kEx kSt kTo kBe aC aWh aTa aWa iRo iEa iLa cC nC nFo nQd nRo nBe nEa nMi nHa nER nMR nTh nPa nOu nFr nQu eM eL eC eS eB eE eF eG) := hD
    refine lv_aload_n hx hb dX7_back_25 rfl (lv_at hl 0 rfl) ?_
    refine va_get (D := D) (ci := 7) (C := RX7) (T := TX7) (N := 14) hx hb hts inn_X7_back_7 hown hAB.1 hP 0 rfl rfl 4 (by decide) (hts (.fieldLink RX7 29 "BarnBench" "acts" "LBarnBench$Acts;") (by decide +kernel)) (fun _ h9 => h9) rfl dX7_back_26 ?_
    refine lv_iconst (v := 0) hx hb dX7_back_29 (by decide) ?_
    refine fC_28_count hx hb hAB hP hD hS hts inn_X7_back_0 hown (hts (.fieldLink RX7 260 "BarnBench$Acts" "count" "I") (by decide +kernel)) dX7_back_30 (fun aC_11 H locs e_12 hP hD hS => ?_)
    have h := h aC_11 e_12
    refine lv_aload_n hx hb dX7_back_33 rfl (lv_at hl 0 rfl) ?_
    refine cl_v hD hS hA (va_runV (As := []) (rest := []) ⟨hx, hb, hml, hown, hts⟩ (ct_X7_forgetPlans h H.size) (cwV 0 hts gX7_back_X7_forgetPlans rfl rfl rfl (by decide +kernel) ⟨Nat.le_of_ble_eq_true rfl, Nat.le_of_ble_eq_true rfl⟩) ⟨CPre.blind, va_recv hAB.1 hP (ci := 7) (q0 := 0) rfl rfl, wd_pre hAB hP hD hS hA⟩ rfl rfl hl.1 rfl (lv_room (Nat.le_of_ble_eq_true rfl)) dX7_back_34 ⟨Nat.zero_le _, Nat.zero_le _⟩) (fun u H locs h hP hD hS => ?_)
    obtain ⟨bHP_13, cC_14⟩ := u
    have hP : va_P D vwCl (WC cI cJ cE cD ad bd dd bHK bHP_13 bPF bWC bRi bBe bFi bWa dB dS dN tC_2 tKi_3 tEa_4 tHa_5 tPr_6 tEx_7 tSt_8 tTo_9 tBe_10 kC kKi kEa kHa kPr kEx kSt kTo kBe aC_11 aWh aTa aWa iRo iEa iLa cC_14 nC nFo nQd nRo nBe nEa nMi nHa nER nMR nTh nPa nOu nFr nQu eM eL eC eS eB eE eF eG) H := hP
    have hD : va_D A (WC cI cJ cE cD ad bd dd bHK bHP_13 bPF bWC bRi bBe bFi bWa dB dS dN tC_2 tKi_3 tEa_4 tHa_5 tPr_6 tEx_7 tSt_8 tTo_9 tBe_10 kC kKi kEa kHa kPr kEx kSt kTo kBe aC_11 aWh aTa aWa iRo iEa iLa cC_14 nC nFo nQd nRo nBe nEa nMi nHa nER nMR nTh nPa nOu nFr nQu eM eL eC eS eB eE eF eG) := hD
    refine lv_aload_n hx hb dX7_back_37 rfl (lv_at hl 0 rfl) ?_
    refine va_get (D := D) (ci := 7) (C := RX7) (T := TX7) (N := 14) hx hb hts inn_X7_back_7 hown hAB.1 hP 0 rfl rfl 1 (by decide) (hts (.fieldLink RX7 19 "BarnBench" "tasks" "LBarnBench$Tasks;") (by decide +kernel)) (fun _ h9 => h9) rfl dX7_back_38 ?_
    refine va_get (D := D) (ci := 5) (C := RX5) (T := TX5) (N := 9) hx hb hts inn_X7_back_5 hown hAB.1 hP 10 rfl rfl 0 (by decide) (hts (.fieldLink RX7 104 "BarnBench$Tasks" "count" "I") (by decide +kernel)) (fun _ h9 => h9) rfl dX7_back_41 ?_
    exact rt_i (bHP_13, bFi, tC_2, tKi_3, tEa_4, tHa_5, tPr_6, tEx_7, tSt_8, tTo_9, tBe_10, aC_11, cC_14) hQ hx hb hr hlk hP hD hS ⟨Nat.zero_le _, Nat.zero_le _⟩ dX7_back_44 h
  · have h := h.2 c_1
    refine lv_aload_n hx hb dX7_back_7 rfl (lv_at hl 0 rfl) ?_
    refine lv_bipush (v := (-7)) hx hb dX7_back_8 (by decide) ?_
    refine cl_i hD hS hA (va_runV (As := [.int (-7)]) (rest := []) ⟨hx, hb, hml, hown, hts⟩ (ct_X7_finding h H.size) (cwV 1 hts gX7_back_X7_finding rfl rfl rfl (by decide +kernel) ⟨Nat.le_of_ble_eq_true rfl, Nat.le_of_ble_eq_true rfl⟩) ⟨CPre.blind, va_recv hAB.1 hP (ci := 7) (q0 := 0) rfl rfl, wd_pre hAB hP hD hS hA⟩ rfl rfl hl.1 rfl (lv_room (Nat.le_of_ble_eq_true rfl)) dX7_back_10 ⟨Nat.zero_le _, Nat.zero_le _⟩) (fun r_15 bFi_16 H locs h hP hD hS => ?_)
    have hP : va_P D vwCl (WC cI cJ cE cD ad bd dd bHK bHP bPF bWC bRi bBe bFi_16 bWa dB dS dN tC tKi tEa tHa tPr tEx tSt tTo tBe kC kKi kEa kHa kPr kEx kSt kTo kBe aC aWh aTa aWa iRo iEa iLa cC nC nFo nQd nRo nBe nEa nMi nHa nER nMR nTh nPa nOu nFr nQu eM eL eC eS eB eE eF eG) H := hP
    have hD : va_D A (WC cI cJ cE cD ad bd dd bHK bHP bPF bWC bRi bBe bFi_16 bWa dB dS dN tC tKi tEa tHa tPr tEx tSt tTo tBe kC kKi kEa kHa kPr kEx kSt kTo kBe aC aWh aTa aWa iRo iEa iLa cC nC nFo nQd nRo nBe nEa nMi nHa nER nMR nTh nPa nOu nFr nQu eM eL eC eS eB eE eF eG) := hD
    exact rt_i (bHP, bFi_16, tC, tKi, tEa, tHa, tPr, tEx, tSt, tTo, tBe, aC, cC) hQ hx hb hr hlk hP hD hS ⟨Nat.zero_le _, Nat.zero_le _⟩ dX7_back_13 h
def wp_X7_told (bHP : Int32) (bWC : Int32) (bRi : Int32) (bBe : Int32) (bFi : Int32) (tC : Int32) (tBe : Nat → Int32) (a1 : Int32) (Qp : Int32 → (Int32) → Prop) : Prop :=
  ((a1 = 0 → Qp bRi bFi) ∧
   (¬ a1 = 0 → ((a1 = 1 → Qp bBe bFi) ∧
   (¬ a1 = 1 → ((a1 = 2 → Qp tC bFi) ∧
   (¬ a1 = 2 → ((a1 = 3 → wp_X5_pairs tC tBe (fun (r_5 : Int32) => Qp r_5 bFi)) ∧
   (¬ a1 = 3 → ((a1 = 4 → Qp bWC bFi) ∧
   (¬ a1 = 4 → ((a1 = 5 → ((bHP = 0 → Qp 0 bFi) ∧
   (¬ bHP = 0 → Qp 1 bFi))) ∧
   (¬ a1 = 5 → ((a1 = 6 → Qp bFi bFi) ∧
   (¬ a1 = 6 → wp_X7_finding bFi (-1) (fun (r_10 : Int32) (bFi_11 : Int32) => Qp r_10 bFi_11)))))))))))))))
theorem inn_X7_told_5 : ∀ w ∈ u_ws RX5 TX5 9, w ∈ wsX7_told := fun _ h => List.mem_cons_of_mem _ (List.mem_append_right _ h)
theorem inn_X7_told_7 : ∀ w ∈ u_ws RX7 TX7 14, w ∈ wsX7_told := fun _ h => List.mem_cons_of_mem _ (List.mem_append_left _ (List.mem_append_right _ h))
def rm_X7_told : Room := { frames := 2, cells := 0, slots := 0, locals := 42 }
set_option maxHeartbeats 4000000 in
set_option maxRecDepth 100000 in
theorem ct_X7_told {l : Launch} {D : va_G} {cI cJ cZ cE cD cK : ClassId} {ad : Nat → Nat} {bd dd : Nat → Nat → Nat} {bHK : Int32} {bHP : Int32} {bPF : Int32} {bWC : Int32} {bRi : Int32} {bBe : Int32} {bFi : Int32} {bWa : Nat → Int32} {dB : Nat → Int32} {dS : Nat → Int32} {dN : Nat → Nat → Int64} {tC : Int32} {tKi : Nat → Int32} {tEa : Nat → Int32} {tHa : Nat → Int32} {tPr : Nat → Int32} {tEx : Nat → Int32} {tSt : Nat → Int32} {tTo : Nat → Int32} {tBe : Nat → Int32} {kC : Int32} {kKi : Nat → Int32} {kEa : Nat → Int32} {kHa : Nat → Int32} {kPr : Nat → Int32} {kEx : Nat → Int32} {kSt : Nat → Int32} {kTo : Nat → Int32} {kBe : Nat → Int32} {aC : Int32} {aWh : Nat → Int32} {aTa : Nat → Int32} {aWa : Nat → Int32} {iRo : Nat → Int32} {iEa : Nat → Int32} {iLa : Nat → Int32} {cC : Int32} {nC : Int32} {nFo : Int32} {nQd : Int32} {nRo : Nat → Int32} {nBe : Nat → Int32} {nEa : Nat → Int32} {nMi : Nat → Int32} {nHa : Nat → Int32} {nER : Nat → Int32} {nMR : Nat → Int32} {nTh : Nat → Int32} {nPa : Nat → Int32} {nOu : Nat → Int32} {nFr : Nat → Int32} {nQu : Nat → Int32} {eM : Nat} {eL : Nat → Int32} {eC : Nat → Int64} {eS : Nat → Int64} {eB : Nat → Nat → Int32} {eE : Nat → Nat → Int32} {eF : Nat → Nat → Int32} {eG : Nat → Nat → Int32}   {a1 : Int32} {Qp : Int32 → (Int32) → Prop}   (h : wp_X7_told bHP bWC bRi bBe bFi tC tBe a1 Qp) : CTi l yX7_told wsX7_told rm_X7_told D (tyL cI cJ cZ cE cD cK) [.ref (ad 0), .int a1] (WC cI cJ cE cD ad bd dd bHK bHP bPF bWC bRi bBe bFi bWa dB dS dN tC tKi tEa tHa tPr tEx tSt tTo tBe kC kKi kEa kHa kPr kEx kSt kTo kBe aC aWh aTa aWa iRo iEa iLa cC nC nFo nQd nRo nBe nEa nMi nHa nER nMR nTh nPa nOu nFr nQu eM eL eC eS eB eE eF eG) (fun (r : Int32) (u : (Int32)) => Qp r u) (fun u : (Int32) => (WC cI cJ cE cD ad bd dd bHK bHP bPF bWC bRi bBe u bWa dB dS dN tC tKi tEa tHa tPr tEx tSt tTo tBe kC kKi kEa kHa kPr kEx kSt kTo kBe aC aWh aTa aWa iRo iEa iLa cC nC nFo nQd nRo nBe nEa nMi nHa nER nMR nTh nPa nOu nFr nQu eM eL eC eS eB eE eF eG)) 0 0 := by
  refine ent_i (cc := cX7_told) (maxL := 2) (ret := (some .int)) (by decide) rfl (Nat.le_of_ble_eq_true rfl) ?_
  intro p e s m args below meth c A Q hQ hx hb hr hml hown hts hlk hA hAB hP hD hS ls hl
  have hown : s.vm.findClass RX7 = some m.cls := hown
  have hl : lv_has ls 2 [(0, .ref (ad 0)), (1, .int a1)] := hl
  generalize hH : s.heap = H at hP ⊢
  have hS : va_S A s.heap H [] := by rw [← hH]; exact hS
  clear hH
  generalize ([] : List Loc) = locs at hS ⊢
  refine lv_iload_n hx hb dX7_told_0 rfl (lv_at hl 1 rfl) ?_
  by_cases c_1 : a1 = 0
  · have h := h.1 c_1
    refine lv_tableIn (tgt := 44) hx hb dX7_told_1 (by rw [c_1]; decide) (by rw [c_1]; decide) (by rw [c_1]; rfl) (by decide) ?_
    refine lv_aload_n hx hb dX7_told_44 rfl (lv_at hl 0 rfl) ?_
    refine va_get (D := D) (ci := 7) (C := RX7) (T := TX7) (N := 14) hx hb hts inn_X7_told_7 hown hAB.1 hP 0 rfl rfl 11 (by decide) (hts (.fieldLink RX7 123 "BarnBench" "ring" "I") (by decide +kernel)) (fun _ h9 => h9) rfl dX7_told_45 ?_
    exact rt_i (bFi) hQ hx hb hr hlk hP hD hS ⟨Nat.zero_le _, Nat.zero_le _⟩ dX7_told_48 h
  · have h := h.2 c_1
    by_cases c_2 : a1 = 1
    · have h := h.1 c_2
      refine lv_tableIn (tgt := 49) hx hb dX7_told_1 (by rw [c_2]; decide) (by rw [c_2]; decide) (by rw [c_2]; rfl) (by decide) ?_
      refine lv_aload_n hx hb dX7_told_49 rfl (lv_at hl 0 rfl) ?_
      refine va_get (D := D) (ci := 7) (C := RX7) (T := TX7) (N := 14) hx hb hts inn_X7_told_7 hown hAB.1 hP 0 rfl rfl 12 (by decide) (hts (.fieldLink RX7 51 "BarnBench" "below" "I") (by decide +kernel)) (fun _ h9 => h9) rfl dX7_told_50 ?_
      exact rt_i (bFi) hQ hx hb hr hlk hP hD hS ⟨Nat.zero_le _, Nat.zero_le _⟩ dX7_told_53 h
    · have h := h.2 c_2
      by_cases c_3 : a1 = 2
      · have h := h.1 c_3
        refine lv_tableIn (tgt := 54) hx hb dX7_told_1 (by rw [c_3]; decide) (by rw [c_3]; decide) (by rw [c_3]; rfl) (by decide) ?_
        refine lv_aload_n hx hb dX7_told_54 rfl (lv_at hl 0 rfl) ?_
        refine va_get (D := D) (ci := 7) (C := RX7) (T := TX7) (N := 14) hx hb hts inn_X7_told_7 hown hAB.1 hP 0 rfl rfl 1 (by decide) (hts (.fieldLink RX7 19 "BarnBench" "tasks" "LBarnBench$Tasks;") (by decide +kernel)) (fun _ h9 => h9) rfl dX7_told_55 ?_
        refine va_get (D := D) (ci := 5) (C := RX5) (T := TX5) (N := 9) hx hb hts inn_X7_told_5 hown hAB.1 hP 10 rfl rfl 0 (by decide) (hts (.fieldLink RX7 104 "BarnBench$Tasks" "count" "I") (by decide +kernel)) (fun _ h9 => h9) rfl dX7_told_58 ?_
        exact rt_i (bFi) hQ hx hb hr hlk hP hD hS ⟨Nat.zero_le _, Nat.zero_le _⟩ dX7_told_61 h
      · have h := h.2 c_3
        by_cases c_4 : a1 = 3
        · have h := h.1 c_4
          refine lv_tableIn (tgt := 62) hx hb dX7_told_1 (by rw [c_4]; decide) (by rw [c_4]; decide) (by rw [c_4]; rfl) (by decide) ?_
          refine lv_aload_n hx hb dX7_told_62 rfl (lv_at hl 0 rfl) ?_
          refine va_get (D := D) (ci := 7) (C := RX7) (T := TX7) (N := 14) hx hb hts inn_X7_told_7 hown hAB.1 hP 0 rfl rfl 1 (by decide) (hts (.fieldLink RX7 19 "BarnBench" "tasks" "LBarnBench$Tasks;") (by decide +kernel)) (fun _ h9 => h9) rfl dX7_told_63 ?_
          refine cl_i hD hS hA (va_runV (As := []) (rest := []) ⟨hx, hb, hml, hown, hts⟩ (ct_X5_pairs h H.size) (cwV 0 hts gX7_told_X5_pairs rfl rfl rfl (by decide +kernel) ⟨Nat.le_of_ble_eq_true rfl, Nat.le_of_ble_eq_true rfl⟩) ⟨CPre.blind, va_recv hAB.1 hP (ci := 5) (q0 := 10) rfl rfl, wd_pre hAB hP hD hS hA⟩ rfl rfl hl.1 rfl (lv_room (Nat.le_of_ble_eq_true rfl)) dX7_told_66 ⟨Nat.zero_le _, Nat.zero_le _⟩) (fun r_5 u H locs h hP hD hS => ?_)
          exact rt_i (bFi) hQ hx hb hr hlk hP hD hS ⟨Nat.zero_le _, Nat.zero_le _⟩ dX7_told_69 h
        · have h := h.2 c_4
          by_cases c_6 : a1 = 4
          · have h := h.1 c_6
            refine lv_tableIn (tgt := 70) hx hb dX7_told_1 (by rw [c_6]; decide) (by rw [c_6]; decide) (by rw [c_6]; rfl) (by decide) ?_
            refine lv_aload_n hx hb dX7_told_70 rfl (lv_at hl 0 rfl) ?_
            refine va_get (D := D) (ci := 7) (C := RX7) (T := TX7) (N := 14) hx hb hts inn_X7_told_7 hown hAB.1 hP 0 rfl rfl 10 (by decide) (hts (.fieldLink RX7 253 "BarnBench" "waitingCount" "I") (by decide +kernel)) (fun _ h9 => h9) rfl dX7_told_71 ?_
            exact rt_i (bFi) hQ hx hb hr hlk hP hD hS ⟨Nat.zero_le _, Nat.zero_le _⟩ dX7_told_74 h
          · have h := h.2 c_6
            by_cases c_7 : a1 = 5
            · have h := h.1 c_7
              refine lv_tableIn (tgt := 75) hx hb dX7_told_1 (by rw [c_7]; decide) (by rw [c_7]; decide) (by rw [c_7]; rfl) (by decide) ?_
              refine lv_aload_n hx hb dX7_told_75 rfl (lv_at hl 0 rfl) ?_
              refine va_get (D := D) (ci := 7) (C := RX7) (T := TX7) (N := 14) hx hb hts inn_X7_told_7 hown hAB.1 hP 0 rfl rfl 7 (by decide) (hts (.fieldLink RX7 228 "BarnBench" "hasPlan" "Z") (by decide +kernel)) (fun _ h9 => h9) rfl dX7_told_76 ?_
              refine lv_if_eq (tgt := 86) hx hb dX7_told_79 (by decide) (fun c_8 => ?_) (fun c_8 => ?_)
              · have h := h.1 c_8
                refine lv_iconst (v := 0) hx hb dX7_told_86 (by decide) ?_
                exact rt_i (bFi) hQ hx hb hr hlk hP hD hS ⟨Nat.zero_le _, Nat.zero_le _⟩ dX7_told_87 h
              · have h := h.2 c_8
                refine lv_iconst (v := 1) hx hb dX7_told_82 (by decide) ?_
                refine lv_goto (tgt := 87) hx hb dX7_told_83 (by decide) ?_
                exact rt_i (bFi) hQ hx hb hr hlk hP hD hS ⟨Nat.zero_le _, Nat.zero_le _⟩ dX7_told_87 h
            · have h := h.2 c_7
              by_cases c_9 : a1 = 6
              · have h := h.1 c_9
                refine lv_tableIn (tgt := 88) hx hb dX7_told_1 (by rw [c_9]; decide) (by rw [c_9]; decide) (by rw [c_9]; rfl) (by decide) ?_
                refine lv_aload_n hx hb dX7_told_88 rfl (lv_at hl 0 rfl) ?_
                refine va_get (D := D) (ci := 7) (C := RX7) (T := TX7) (N := 14) hx hb hts inn_X7_told_7 hown hAB.1 hP 0 rfl rfl 13 (by decide) (hts (.fieldLink RX7 280 "BarnBench" "findings" "I") (by decide +kernel)) (fun _ h9 => h9) rfl dX7_told_89 ?_
                exact rt_i (bFi) hQ hx hb hr hlk hP hD hS ⟨Nat.zero_le _, Nat.zero_le _⟩ dX7_told_92 h
              · have h := h.2 c_9
                refine lv_tableOut (tgt := 93) hx hb dX7_told_1 (tb_out7 c_1 c_2 c_3 c_4 c_6 c_7 c_9) (by decide) ?_
                refine lv_aload_n hx hb dX7_told_93 rfl (lv_at hl 0 rfl) ?_
                refine lv_iconst (v := (-1)) hx hb dX7_told_94 (by decide) ?_
                refine cl_i hD hS hA (va_runV (As := [.int (-1)]) (rest := []) ⟨hx, hb, hml, hown, hts⟩ (ct_X7_finding h H.size) (cwV 1 hts gX7_told_X7_finding rfl rfl rfl (by decide +kernel) ⟨Nat.le_of_ble_eq_true rfl, Nat.le_of_ble_eq_true rfl⟩) ⟨CPre.blind, va_recv hAB.1 hP (ci := 7) (q0 := 0) rfl rfl, wd_pre hAB hP hD hS hA⟩ rfl rfl hl.1 rfl (lv_room (Nat.le_of_ble_eq_true rfl)) dX7_told_95 ⟨Nat.zero_le _, Nat.zero_le _⟩) (fun r_10 bFi_11 H locs h hP hD hS => ?_)
                have hP : va_P D vwCl (WC cI cJ cE cD ad bd dd bHK bHP bPF bWC bRi bBe bFi_11 bWa dB dS dN tC tKi tEa tHa tPr tEx tSt tTo tBe kC kKi kEa kHa kPr kEx kSt kTo kBe aC aWh aTa aWa iRo iEa iLa cC nC nFo nQd nRo nBe nEa nMi nHa nER nMR nTh nPa nOu nFr nQu eM eL eC eS eB eE eF eG) H := hP
                have hD : va_D A (WC cI cJ cE cD ad bd dd bHK bHP bPF bWC bRi bBe bFi_11 bWa dB dS dN tC tKi tEa tHa tPr tEx tSt tTo tBe kC kKi kEa kHa kPr kEx kSt kTo kBe aC aWh aTa aWa iRo iEa iLa cC nC nFo nQd nRo nBe nEa nMi nHa nER nMR nTh nPa nOu nFr nQu eM eL eC eS eB eE eF eG) := hD
                exact rt_i (bFi_11) hQ hx hb hr hlk hP hD hS ⟨Nat.zero_le _, Nat.zero_le _⟩ dX7_told_98 h
