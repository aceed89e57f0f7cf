def wp_X3_bendAt (eM : Nat) (a1 : Int32) (Qp : Nat → Prop) : Prop :=
  vp_in a1 721 ∧ (Int32.toNatClampNeg a1) < eM ∧ vp_in a1 721 ∧ (Int32.toNatClampNeg a1) < eM ∧ Qp (Int32.toNatClampNeg a1)
theorem inn_X3_bendAt_3 : ∀ w ∈ u_ws RX3 TX3 3, w ∈ wsX3_bendAt := fun _ h => List.mem_cons_of_mem _ (List.mem_append_left _ (List.mem_append_right _ h))
def rm_X3_bendAt : Room := { frames := 0, cells := 0, slots := 0, locals := 0 }
set_option maxHeartbeats 4000000 in
set_option maxRecDepth 100000 in
theorem ct_X3_bendAt {l : Launch} {D : va_G} {cI cJ cZ cE cD cK : ClassId} {ad : Nat → Nat} {bd dd : Nat → Nat → Nat} {bHK : Int32} {bHP : Int32} {bPF : Int32} {bWC : Int32} {bRi : Int32} {bBe : Int32} {bFi : Int32} {bWa : Nat → Int32} {dB : Nat → Int32} {dS : Nat → Int32} {dN : Nat → Nat → Int64} {tC : Int32} {tKi : Nat → Int32} {tEa : Nat → Int32} {tHa : Nat → Int32} {tPr : Nat → Int32} {tEx : Nat → Int32} {tSt : Nat → Int32} {tTo : Nat → Int32} {tBe : Nat → Int32} {kC : Int32} {kKi : Nat → Int32} {kEa : Nat → Int32} {kHa : Nat → Int32} {kPr : Nat → Int32} {kEx : Nat → Int32} {kSt : Nat → Int32} {kTo : Nat → Int32} {kBe : Nat → Int32} {aC : Int32} {aWh : Nat → Int32} {aTa : Nat → Int32} {aWa : Nat → Int32} {iRo : Nat → Int32} {iEa : Nat → Int32} {iLa : Nat → Int32} {cC : Int32} {nC : Int32} {nFo : Int32} {nQd : Int32} {nRo : Nat → Int32} {nBe : Nat → Int32} {nEa : Nat → Int32} {nMi : Nat → Int32} {nHa : Nat → Int32} {nER : Nat → Int32} {nMR : Nat → Int32} {nTh : Nat → Int32} {nPa : Nat → Int32} {nOu : Nat → Int32} {nFr : Nat → Int32} {nQu : Nat → Int32} {eM : Nat} {eL : Nat → Int32} {eC : Nat → Int64} {eS : Nat → Int64} {eB : Nat → Nat → Int32} {eE : Nat → Nat → Int32} {eF : Nat → Nat → Int32} {eG : Nat → Nat → Int32}   {a1 : Int32} {Qp : Nat → Prop}   (h : wp_X3_bendAt eM a1 Qp) : CTr l yX3_bendAt wsX3_bendAt rm_X3_bendAt D (tyL cI cJ cZ cE cD cK) [.ref (ad 36), .int a1] (WC cI cJ cE cD ad bd dd bHK bHP bPF bWC bRi bBe bFi bWa dB dS dN tC tKi tEa tHa tPr tEx tSt tTo tBe kC kKi kEa kHa kPr kEx kSt kTo kBe aC aWh aTa aWa iRo iEa iLa cC nC nFo nQd nRo nBe nEa nMi nHa nER nMR nTh nPa nOu nFr nQu eM eL eC eS eB eE eF eG) (fun u : Nat => u < eM ∧ Qp u ) (fun u : Nat => (WC cI cJ cE cD ad bd dd bHK bHP bPF bWC bRi bBe bFi bWa dB dS dN tC tKi tEa tHa tPr tEx tSt tTo tBe kC kKi kEa kHa kPr kEx kSt kTo kBe aC aWh aTa aWa iRo iEa iLa cC nC nFo nQd nRo nBe nEa nMi nHa nER nMR nTh nPa nOu nFr nQu eM eL eC eS eB eE eF eG)) (fun u : Nat => bd u 0) 0 0 := by
  refine ent_r (cc := cX3_bendAt) (maxL := 2) (ret := (some (.object "BarnBench$Bend"))) (by decide) rfl (Nat.le_of_ble_eq_true rfl) ?_
  intro p e s m args below meth c A Q hQ hx hb hr hml hown hts hlk hA hAB hP hD hS ls hl
  have hown : s.vm.findClass RX3 = some m.cls := hown
  have hl : lv_has ls 2 [(0, .ref (ad 36)), (1, .int a1)] := hl
  generalize hH : s.heap = H at hP ⊢
  have hS : va_S A s.heap H [] := by rw [← hH]; exact hS
  clear hH
  generalize ([] : List Loc) = locs at hS ⊢
  refine lv_aload_n hx hb dX3_bendAt_0 rfl (lv_at hl 0 rfl) ?_
  refine va_get (D := D) (ci := 3) (C := RX3) (T := TX3) (N := 3) hx hb hts inn_X3_bendAt_3 hown hAB.1 hP 36 rfl rfl 1 (by decide) (hts (.fieldLink RX3 11 "BarnBench$Curve" "rows" "[LBarnBench$Bend;") (by decide +kernel)) (fun _ h9 => h9) rfl dX3_bendAt_1 ?_
  refine lv_iload_n hx hb dX3_bendAt_4 rfl (lv_at hl 1 rfl) ?_
  have hi_1 := h.2.1
  refine va_aldq hx hb hAB.1 hP 37 3 rfl rfl h.1 dX3_bendAt_5 ?_
  have h := h.2.2
  rw [if_pos hi_1]
  show W _ _ _ _ _ _ _ _ _ _ _ _ _ _ _ (F0 _ _ _ (.ref (bd (Int32.toNatClampNeg a1) 0) :: _))
  refine lv_ifnonnull (tgt := 22) hx hb dX3_bendAt_6 (by decide) ?_
  refine lv_aload_n hx hb dX3_bendAt_22 rfl (lv_at hl 0 rfl) ?_
  refine va_get (D := D) (ci := 3) (C := RX3) (T := TX3) (N := 3) hx hb hts inn_X3_bendAt_3 hown hAB.1 hP 36 rfl rfl 1 (by decide) (hts (.fieldLink RX3 11 "BarnBench$Curve" "rows" "[LBarnBench$Bend;") (by decide +kernel)) (fun _ h9 => h9) rfl dX3_bendAt_23 ?_
  refine lv_iload_n hx hb dX3_bendAt_26 rfl (lv_at hl 1 rfl) ?_
  have hi_2 := h.2.1
  refine va_aldq hx hb hAB.1 hP 37 3 rfl rfl h.1 dX3_bendAt_27 ?_
  have h := h.2.2
  rw [if_pos hi_2]
  show W _ _ _ _ _ _ _ _ _ _ _ _ _ _ _ (F0 _ _ _ (.ref (bd (Int32.toNatClampNeg a1) 0) :: _))
  exact rt_r (Rf := _) ((Int32.toNatClampNeg a1)) hQ hx hb hr hlk hP hD hS ⟨Nat.zero_le _, Nat.zero_le _⟩ dX3_bendAt_28 ⟨hi_2, h⟩
def wp_X3_bendFor_L2 (a1 : Int32) (cC : Int32) (eL : Nat → Int32) (eM : Nat) (x2 : (Int32) → Prop) : Nat → (Int32) → Prop
  | 0, _ => False
  | n2 + 1, x2_1 =>
  (((cC - 1) ≤ x2_1 → x2 x2_1) ∧
   (¬ (cC - 1) ≤ x2_1 → wp_X3_bendAt eM x2_1 (fun (j_4 : Nat) => (((eL j_4) ≤ a1 → x2 x2_1) ∧
   (¬ (eL j_4) ≤ a1 → ∀ x2_7 : Int32, x2_7 = x2_1 + 1 → (wp_X3_bendFor_L2 a1 cC eL eM x2 n2) x2_7)))))
def wp_X3_bendFor (cC : Int32) (eM : Nat) (eL : Nat → Int32) (a1 : Int32) (Qp : Nat → Prop) : Prop :=
  (∃ n2 : Nat, wp_X3_bendFor_L2 a1 cC eL eM (fun (x2_2 : Int32) => wp_X3_bendAt eM x2_2 (fun (j_9 : Nat) => Qp j_9)) n2 0)
theorem inn_X3_bendFor_1 : ∀ w ∈ u_ws RX1 TX1 7, w ∈ wsX3_bendFor := fun _ h => List.mem_cons_of_mem _ (List.mem_append_right _ h)
theorem inn_X3_bendFor_3 : ∀ w ∈ u_ws RX3 TX3 3, w ∈ wsX3_bendFor := fun _ h => List.mem_cons_of_mem _ (List.mem_append_left _ (List.mem_append_right _ h))
def rm_X3_bendFor : Room := { frames := 1, cells := 0, slots := 0, locals := 21 }
set_option maxHeartbeats 4000000 in
set_option maxRecDepth 100000 in
theorem ct_X3_bendFor {l : Launch} {D : va_G} {cI cJ cZ cE cD cK : ClassId} {ad : Nat → Nat} {bd dd : Nat → Nat → Nat} {bHK : Int32} {bHP : Int32} {bPF : Int32} {bWC : Int32} {bRi : Int32} {bBe : Int32} {bFi : Int32} {bWa : Nat → Int32} {dB : Nat → Int32} {dS : Nat → Int32} {dN : Nat → Nat → Int64} {tC : Int32} {tKi : Nat → Int32} {tEa : Nat → Int32} {tHa : Nat → Int32} {tPr : Nat → Int32} {tEx : Nat → Int32} {tSt : Nat → Int32} {tTo : Nat → Int32} {tBe : Nat → Int32} {kC : Int32} {kKi : Nat → Int32} {kEa : Nat → Int32} {kHa : Nat → Int32} {kPr : Nat → Int32} {kEx : Nat → Int32} {kSt : Nat → Int32} {kTo : Nat → Int32} {kBe : Nat → Int32} {aC : Int32} {aWh : Nat → Int32} {aTa : Nat → Int32} {aWa : Nat → Int32} {iRo : Nat → Int32} {iEa : Nat → Int32} {iLa : Nat → Int32} {cC : Int32} {nC : Int32} {nFo : Int32} {nQd : Int32} {nRo : Nat → Int32} {nBe : Nat → Int32} {nEa : Nat → Int32} {nMi : Nat → Int32} {nHa : Nat → Int32} {nER : Nat → Int32} {nMR : Nat → Int32} {nTh : Nat → Int32} {nPa : Nat → Int32} {nOu : Nat → Int32} {nFr : Nat → Int32} {nQu : Nat → Int32} {eM : Nat} {eL : Nat → Int32} {eC : Nat → Int64} {eS : Nat → Int64} {eB : Nat → Nat → Int32} {eE : Nat → Nat → Int32} {eF : Nat → Nat → Int32} {eG : Nat → Nat → Int32}   {a1 : Int32} {Qp : Nat → Prop}   (h : wp_X3_bendFor cC eM eL a1 Qp) : CTr l yX3_bendFor wsX3_bendFor rm_X3_bendFor D (tyL cI cJ cZ cE cD cK) [.ref (ad 36), .int a1] (WC cI cJ cE cD ad bd dd bHK bHP bPF bWC bRi bBe bFi bWa dB dS dN tC tKi tEa tHa tPr tEx tSt tTo tBe kC kKi kEa kHa kPr kEx kSt kTo kBe aC aWh aTa aWa iRo iEa iLa cC nC nFo nQd nRo nBe nEa nMi nHa nER nMR nTh nPa nOu nFr nQu eM eL eC eS eB eE eF eG) (fun u : Nat => u < eM ∧ Qp u ) (fun u : Nat => (WC cI cJ cE cD ad bd dd bHK bHP bPF bWC bRi bBe bFi bWa dB dS dN tC tKi tEa tHa tPr tEx tSt tTo tBe kC kKi kEa kHa kPr kEx kSt kTo kBe aC aWh aTa aWa iRo iEa iLa cC nC nFo nQd nRo nBe nEa nMi nHa nER nMR nTh nPa nOu nFr nQu eM eL eC eS eB eE eF eG)) (fun u : Nat => bd u 0) 0 0 := by
  refine ent_r (cc := cX3_bendFor) (maxL := 3) (ret := (some (.object "BarnBench$Bend"))) (by decide) rfl (Nat.le_of_ble_eq_true rfl) ?_
  intro p e s m args below meth c A Q hQ hx hb hr hml hown hts hlk hA hAB hP hD hS ls hl
  have hown : s.vm.findClass RX3 = some m.cls := hown
  have hl : lv_has ls 3 [(0, .ref (ad 36)), (1, .int a1)] := hl
  generalize hH : s.heap = H at hP ⊢
  have hS : va_S A s.heap H [] := by rw [← hH]; exact hS
  clear hH
  generalize ([] : List Loc) = locs at hS ⊢
  refine lv_iconst (v := 0) hx hb dX3_bendFor_0 (by decide) ?_
  refine lv_istore_n (lv' := [(2, .int 0), (0, .ref (ad 36)), (1, .int a1)]) hx hb dX3_bendFor_1 rfl hl (by decide) rfl (fun ls hl => ?_)
  have L2 : ∀ (x2 : (Int32) → Prop) (hk2 : ∀ (x2_2 : Int32), x2 x2_2 → ∀ (H : Heap) (locs : List Loc) (ls : Array Slot), va_P D vwCl (WC cI cJ cE cD ad bd dd bHK bHP bPF bWC bRi bBe bFi bWa dB dS dN tC tKi tEa tHa tPr tEx tSt tTo tBe kC kKi kEa kHa kPr kEx kSt kTo kBe aC aWh aTa aWa iRo iEa iLa cC nC nFo nQd nRo nBe nEa nMi nHa nER nMR nTh nPa nOu nFr nQu eM eL eC eS eB eE eF eG) H → va_D A (WC cI cJ cE cD ad bd dd bHK bHP bPF bWC bRi bBe bFi bWa dB dS dN tC tKi tEa tHa tPr tEx tSt tTo tBe kC kKi kEa kHa kPr kEx kSt kTo kBe aC aWh aTa aWa iRo iEa iLa cC nC nFo nQd nRo nBe nEa nMi nHa nER nMR nTh nPa nOu nFr nQu eM eL eC eS eB eE eF eG) → va_S A s.heap H locs → lv_has ls 3 [(0, .ref (ad 36)), (2, .int x2_2)] → W p l e (headSpec wsX3_bendFor rm_X3_bendFor).room s m args below meth c H locs 0 0 Q (F0 m 30 ls [])) (n2 : Nat) (x2_1 : Int32), wp_X3_bendFor_L2 a1 cC eL eM x2 n2 x2_1 → ∀ (H : Heap) (locs : List Loc) (ls : Array Slot), va_P D vwCl (WC cI cJ cE cD ad bd dd bHK bHP bPF bWC bRi bBe bFi bWa dB dS dN tC tKi tEa tHa tPr tEx tSt tTo tBe kC kKi kEa kHa kPr kEx kSt kTo kBe aC aWh aTa aWa iRo iEa iLa cC nC nFo nQd nRo nBe nEa nMi nHa nER nMR nTh nPa nOu nFr nQu eM eL eC eS eB eE eF eG) H → va_D A (WC cI cJ cE cD ad bd dd bHK bHP bPF bWC bRi bBe bFi bWa dB dS dN tC tKi tEa tHa tPr tEx tSt tTo tBe kC kKi kEa kHa kPr kEx kSt kTo kBe aC aWh aTa aWa iRo iEa iLa cC nC nFo nQd nRo nBe nEa nMi nHa nER nMR nTh nPa nOu nFr nQu eM eL eC eS eB eE eF eG) → va_S A s.heap H locs → lv_has ls 3 [(0, .ref (ad 36)), (1, .int a1), (2, .int x2_1)] → W p l e (headSpec wsX3_bendFor rm_X3_bendFor).room s m args below meth c H locs 0 0 Q (F0 m 2 ls []) := by
    intro x2 hk2 n2
    induction n2 with
    | zero => intro x2_1 h; exact False.elim h
    | succ n2 ih2 =>
      intro x2_1 h H locs ls hP hD hS hl
      refine lv_iload_n hx hb dX3_bendFor_2 rfl (lv_at hl 2 rfl) ?_
      refine lv_aload_n hx hb dX3_bendFor_3 rfl (lv_at hl 0 rfl) ?_
      refine va_get (D := D) (ci := 3) (C := RX3) (T := TX3) (N := 3) hx hb hts inn_X3_bendFor_3 hown hAB.1 hP 36 rfl rfl 0 (by decide) (hts (.fieldLink RX3 35 "BarnBench$Curve" "count" "I") (by decide +kernel)) (fun _ h9 => h9) rfl dX3_bendFor_4 ?_
      refine lv_iconst (v := 1) hx hb dX3_bendFor_7 (by decide) ?_
      refine lv_isub hx hb dX3_bendFor_8 ?_
      refine lv_icmp_ge (tgt := 30) hx hb dX3_bendFor_9 (by decide) (fun c_3 => ?_) (fun c_3 => ?_)
      · have h := h.1 c_3
        exact hk2 x2_1 h H locs ls hP hD hS (lv_sub hl [0, 2] rfl)
      · have h := h.2 c_3
        refine lv_aload_n hx hb dX3_bendFor_12 rfl (lv_at hl 0 rfl) ?_
        refine lv_iload_n hx hb dX3_bendFor_13 rfl (lv_at hl 2 rfl) ?_
        refine cl_r hD hS hA (va_runV (As := [.int x2_1]) (rest := []) ⟨hx, hb, hml, hown, hts⟩ (ct_X3_bendAt h H.size) (cwV 1 hts gX3_bendFor_X3_bendAt rfl rfl rfl (by decide +kernel) ⟨Nat.le_of_ble_eq_true rfl, Nat.le_of_ble_eq_true rfl⟩) ⟨CPre.blind, va_recv hAB.1 hP (ci := 3) (q0 := 36) rfl rfl, wd_pre hAB hP hD hS hA⟩ rfl rfl hl.1 rfl (lv_room (Nat.le_of_ble_eq_true rfl)) dX3_bendFor_14 ⟨Nat.zero_le _, Nat.zero_le _⟩) (fun j_4 H locs h hP hD hS => ?_)
        obtain ⟨hi_5, h⟩ := h
        refine va_get (D := D) (ci := 1) (C := RX1) (T := TX1) (N := 7) hx hb hts inn_X3_bendFor_1 hown hAB.1 hP (52 + (j_4 * 5 + 0)) (gB_0 hi_5) rfl 0 (by decide) (hts (.fieldLink RX3 64 "BarnBench$Bend" "length" "I") (by decide +kernel)) (fun _ h9 => h9) rfl dX3_bendFor_17 ?_
        refine lv_iload_n hx hb dX3_bendFor_20 rfl (lv_at hl 1 rfl) ?_
        refine lv_icmp_le (tgt := 30) hx hb dX3_bendFor_21 (by decide) (fun c_6 => ?_) (fun c_6 => ?_)
        · have h := h.1 c_6
          exact hk2 x2_1 h H locs ls hP hD hS (lv_sub hl [0, 2] rfl)
        · have h := h.2 c_6
          obtain ⟨x2_7, e_8⟩ : ∃ y : Int32, y = x2_1 + 1 := ⟨_, rfl⟩
          have h := h x2_7 e_8
          refine lv_iinc (v := x2_7) (lv' := [(2, .int x2_7), (0, .ref (ad 36)), (1, .int a1)]) hx hb dX3_bendFor_24 hl (k := 2) rfl (by rw [e_8]; rfl) (by decide) rfl (fun ls hl => ?_)
          refine lv_goto (tgt := 2) hx hb dX3_bendFor_27 (by decide) ?_
          exact ih2 x2_7 h H locs ls hP hD hS (lv_sub hl [1, 2, 0] rfl)
  obtain ⟨n2, h⟩ := h
  refine L2 _ (fun x2_2 h H locs ls hP hD hS hl => ?_) n2 0 h H locs ls hP hD hS (lv_sub hl [1, 2, 0] rfl)
  refine lv_aload_n hx hb dX3_bendFor_30 rfl (lv_at hl 0 rfl) ?_
  refine lv_iload_n hx hb dX3_bendFor_31 rfl (lv_at hl 1 rfl) ?_
  refine cl_r hD hS hA (va_runV (As := [.int x2_2]) (rest := []) ⟨hx, hb, hml, hown, hts⟩ (ct_X3_bendAt h H.size) (cwV 1 hts gX3_bendFor_X3_bendAt rfl rfl rfl (by decide +kernel) ⟨Nat.le_of_ble_eq_true rfl, Nat.le_of_ble_eq_true rfl⟩) ⟨CPre.blind, va_recv hAB.1 hP (ci := 3) (q0 := 36) rfl rfl, wd_pre hAB hP hD hS hA⟩ rfl rfl hl.1 rfl (lv_room (Nat.le_of_ble_eq_true rfl)) dX3_bendFor_32 ⟨Nat.zero_le _, Nat.zero_le _⟩) (fun j_9 H locs h hP hD hS => ?_)
  obtain ⟨hi_10, h⟩ := h
  exact rt_r (Rf := _) (j_9) hQ hx hb hr hlk hP hD hS ⟨Nat.zero_le _, Nat.zero_le _⟩ dX3_bendFor_35 ⟨hi_10, h⟩
def wp_X3_lastWithin_L2 (a1 : Int64) (cC : Int32) (eC : Nat → Int64) (eM : Nat) (x2 : (Int32) → Prop) : Nat → (Int32) → Prop
  | 0, _ => False
  | n2 + 1, x3_1 =>
  (((cC - 1) ≤ x3_1 → x2 x3_1) ∧
   (¬ (cC - 1) ≤ x3_1 → wp_X3_bendAt eM (x3_1 + 1) (fun (j_4 : Nat) => ((0 < (lg_cmp (eC j_4) a1) → x2 x3_1) ∧
   (¬ 0 < (lg_cmp (eC j_4) a1) → ∀ x3_7 : Int32, x3_7 = x3_1 + 1 → (wp_X3_lastWithin_L2 a1 cC eC eM x2 n2) x3_7)))))
def wp_X3_lastWithin (cC : Int32) (eM : Nat) (eC : Nat → Int64) (a1 : Int64) (Qp : Int32 → Prop) : Prop :=
  (∃ n2 : Nat, wp_X3_lastWithin_L2 a1 cC eC eM (fun (x3_2 : Int32) => Qp x3_2) n2 0)
theorem inn_X3_lastWithin_1 : ∀ w ∈ u_ws RX1 TX1 7, w ∈ wsX3_lastWithin := fun _ h => List.mem_cons_of_mem _ (List.mem_append_right _ h)
theorem inn_X3_lastWithin_3 : ∀ w ∈ u_ws RX3 TX3 3, w ∈ wsX3_lastWithin := fun _ h => List.mem_cons_of_mem _ (List.mem_append_left _ (List.mem_append_right _ h))
def rm_X3_lastWithin : Room := { frames := 1, cells := 0, slots := 0, locals := 21 }
set_option maxHeartbeats 4000000 in
set_option maxRecDepth 100000 in
theorem ct_X3_lastWithin {l : Launch} {D : va_G} {cI cJ cZ cE cD cK : ClassId} {ad : Nat → Nat} {bd dd : Nat → Nat → Nat} {bHK : Int32} {bHP : Int32} {bPF : Int32} {bWC : Int32} {bRi : Int32} {bBe : Int32} {bFi : Int32} {bWa : Nat → Int32} {dB : Nat → Int32} {dS : Nat → Int32} {dN : Nat → Nat → Int64} {tC : Int32} {tKi : Nat → Int32} {tEa : Nat → Int32} {tHa : Nat → Int32} {tPr : Nat → Int32} {tEx : Nat → Int32} {tSt : Nat → Int32} {tTo : Nat → Int32} {tBe : Nat → Int32} {kC : Int32} {kKi : Nat → Int32} {kEa : Nat → Int32} {kHa : Nat → Int32} {kPr : Nat → Int32} {kEx : Nat → Int32} {kSt : Nat → Int32} {kTo : Nat → Int32} {kBe : Nat → Int32} {aC : Int32} {aWh : Nat → Int32} {aTa : Nat → Int32} {aWa : Nat → Int32} {iRo : Nat → Int32} {iEa : Nat → Int32} {iLa : Nat → Int32} {cC : Int32} {nC : Int32} {nFo : Int32} {nQd : Int32} {nRo : Nat → Int32} {nBe : Nat → Int32} {nEa : Nat → Int32} {nMi : Nat → Int32} {nHa : Nat → Int32} {nER : Nat → Int32} {nMR : Nat → Int32} {nTh : Nat → Int32} {nPa : Nat → Int32} {nOu : Nat → Int32} {nFr : Nat → Int32} {nQu : Nat → Int32} {eM : Nat} {eL : Nat → Int32} {eC : Nat → Int64} {eS : Nat → Int64} {eB : Nat → Nat → Int32} {eE : Nat → Nat → Int32} {eF : Nat → Nat → Int32} {eG : Nat → Nat → Int32}   {a1 : Int64} {Qp : Int32 → Prop}   (h : wp_X3_lastWithin cC eM eC a1 Qp) : CTi l yX3_lastWithin wsX3_lastWithin rm_X3_lastWithin D (tyL cI cJ cZ cE cD cK) [.ref (ad 36), .long a1] (WC cI cJ cE cD ad bd dd bHK bHP bPF bWC bRi bBe bFi bWa dB dS dN tC tKi tEa tHa tPr tEx tSt tTo tBe kC kKi kEa kHa kPr kEx kSt kTo kBe aC aWh aTa aWa iRo iEa iLa cC nC nFo nQd nRo nBe nEa nMi nHa nER nMR nTh nPa nOu nFr nQu eM eL eC eS eB eE eF eG) (fun (r : Int32) (u : Unit) => Qp r ) (fun u : Unit => (WC cI cJ cE cD ad bd dd bHK bHP bPF bWC bRi bBe bFi bWa dB dS dN tC tKi tEa tHa tPr tEx tSt tTo tBe kC kKi kEa kHa kPr kEx kSt kTo kBe aC aWh aTa aWa iRo iEa iLa cC nC nFo nQd nRo nBe nEa nMi nHa nER nMR nTh nPa nOu nFr nQu eM eL eC eS eB eE eF eG)) 0 0 := by
  refine ent_i (cc := cX3_lastWithin) (maxL := 4) (ret := (some .int)) (by decide) rfl (Nat.le_of_ble_eq_true rfl) ?_
  intro p e s m args below meth c A Q hQ hx hb hr hml hown hts hlk hA hAB hP hD hS ls hl
  have hown : s.vm.findClass RX3 = some m.cls := hown
  have hl : lv_has ls 4 [(0, .ref (ad 36)), (1, .long a1)] := hl
  generalize hH : s.heap = H at hP ⊢
  have hS : va_S A s.heap H [] := by rw [← hH]; exact hS
  clear hH
  generalize ([] : List Loc) = locs at hS ⊢
  refine lv_iconst (v := 0) hx hb dX3_lastWithin_0 (by decide) ?_
  refine lv_istore_n (lv' := [(3, .int 0), (0, .ref (ad 36)), (1, .long a1)]) hx hb dX3_lastWithin_1 rfl hl (by decide) rfl (fun ls hl => ?_)
  have L2 : ∀ (x2 : (Int32) → Prop) (hk2 : ∀ (x3_2 : Int32), x2 x3_2 → ∀ (H : Heap) (locs : List Loc) (ls : Array Slot), va_P D vwCl (WC cI cJ cE cD ad bd dd bHK bHP bPF bWC bRi bBe bFi bWa dB dS dN tC tKi tEa tHa tPr tEx tSt tTo tBe kC kKi kEa kHa kPr kEx kSt kTo kBe aC aWh aTa aWa iRo iEa iLa cC nC nFo nQd nRo nBe nEa nMi nHa nER nMR nTh nPa nOu nFr nQu eM eL eC eS eB eE eF eG) H → va_D A (WC cI cJ cE cD ad bd dd bHK bHP bPF bWC bRi bBe bFi bWa dB dS dN tC tKi tEa tHa tPr tEx tSt tTo tBe kC kKi kEa kHa kPr kEx kSt kTo kBe aC aWh aTa aWa iRo iEa iLa cC nC nFo nQd nRo nBe nEa nMi nHa nER nMR nTh nPa nOu nFr nQu eM eL eC eS eB eE eF eG) → va_S A s.heap H locs → lv_has ls 4 [(3, .int x3_2)] → W p l e (headSpec wsX3_lastWithin rm_X3_lastWithin).room s m args below meth c H locs 0 0 Q (F0 m 33 ls [])) (n2 : Nat) (x3_1 : Int32), wp_X3_lastWithin_L2 a1 cC eC eM x2 n2 x3_1 → ∀ (H : Heap) (locs : List Loc) (ls : Array Slot), va_P D vwCl (WC cI cJ cE cD ad bd dd bHK bHP bPF bWC bRi bBe bFi bWa dB dS dN tC tKi tEa tHa tPr tEx tSt tTo tBe kC kKi kEa kHa kPr kEx kSt kTo kBe aC aWh aTa aWa iRo iEa iLa cC nC nFo nQd nRo nBe nEa nMi nHa nER nMR nTh nPa nOu nFr nQu eM eL eC eS eB eE eF eG) H → va_D A (WC cI cJ cE cD ad bd dd bHK bHP bPF bWC bRi bBe bFi bWa dB dS dN tC tKi tEa tHa tPr tEx tSt tTo tBe kC kKi kEa kHa kPr kEx kSt kTo kBe aC aWh aTa aWa iRo iEa iLa cC nC nFo nQd nRo nBe nEa nMi nHa nER nMR nTh nPa nOu nFr nQu eM eL eC eS eB eE eF eG) → va_S A s.heap H locs → lv_has ls 4 [(0, .ref (ad 36)), (1, .long a1), (3, .int x3_1)] → W p l e (headSpec wsX3_lastWithin rm_X3_lastWithin).room s m args below meth c H locs 0 0 Q (F0 m 2 ls []) := by
    intro x2 hk2 n2
    induction n2 with
    | zero => intro x3_1 h; exact False.elim h
    | succ n2 ih2 =>
      intro x3_1 h H locs ls hP hD hS hl
      refine lv_iload_n hx hb dX3_lastWithin_2 rfl (lv_at hl 2 rfl) ?_
      refine lv_aload_n hx hb dX3_lastWithin_3 rfl (lv_at hl 0 rfl) ?_
      refine va_get (D := D) (ci := 3) (C := RX3) (T := TX3) (N := 3) hx hb hts inn_X3_lastWithin_3 hown hAB.1 hP 36 rfl rfl 0 (by decide) (hts (.fieldLink RX3 35 "BarnBench$Curve" "count" "I") (by decide +kernel)) (fun _ h9 => h9) rfl dX3_lastWithin_4 ?_
      refine lv_iconst (v := 1) hx hb dX3_lastWithin_7 (by decide) ?_
      refine lv_isub hx hb dX3_lastWithin_8 ?_
      refine lv_icmp_ge (tgt := 33) hx hb dX3_lastWithin_9 (by decide) (fun c_3 => ?_) (fun c_3 => ?_)
      · have h := h.1 c_3
        exact hk2 x3_1 h H locs ls hP hD hS (lv_sub hl [2] rfl)
      · have h := h.2 c_3
        refine lv_aload_n hx hb dX3_lastWithin_12 rfl (lv_at hl 0 rfl) ?_
        refine lv_iload_n hx hb dX3_lastWithin_13 rfl (lv_at hl 2 rfl) ?_
        refine lv_iconst (v := 1) hx hb dX3_lastWithin_14 (by decide) ?_
        refine lv_iadd hx hb dX3_lastWithin_15 ?_
        refine cl_r hD hS hA (va_runV (As := [.int (x3_1 + 1)]) (rest := []) ⟨hx, hb, hml, hown, hts⟩ (ct_X3_bendAt h H.size) (cwV 1 hts gX3_lastWithin_X3_bendAt rfl rfl rfl (by decide +kernel) ⟨Nat.le_of_ble_eq_true rfl, Nat.le_of_ble_eq_true rfl⟩) ⟨CPre.blind, va_recv hAB.1 hP (ci := 3) (q0 := 36) rfl rfl, wd_pre hAB hP hD hS hA⟩ rfl rfl hl.1 rfl (lv_room (Nat.le_of_ble_eq_true rfl)) dX3_lastWithin_16 ⟨Nat.zero_le _, Nat.zero_le _⟩) (fun j_4 H locs h hP hD hS => ?_)
        obtain ⟨hi_5, h⟩ := h
        refine va_get (D := D) (ci := 1) (C := RX1) (T := TX1) (N := 7) hx hb hts inn_X3_lastWithin_1 hown hAB.1 hP (52 + (j_4 * 5 + 0)) (gB_0 hi_5) rfl 1 (by decide) (hts (.fieldLink RX3 67 "BarnBench$Bend" "cost" "J") (by decide +kernel)) (fun _ h9 => h9) rfl dX3_lastWithin_19 ?_
        refine lv_lload_n hx hb dX3_lastWithin_22 rfl (lv_at hl 1 rfl) ?_
        refine W.lcmp hx hb dX3_lastWithin_23 ?_
        refine lv_if_gt (tgt := 33) hx hb dX3_lastWithin_24 (by decide) (fun c_6 => ?_) (fun c_6 => ?_)
        · have h := h.1 c_6
          exact hk2 x3_1 h H locs ls hP hD hS (lv_sub hl [2] rfl)
        · have h := h.2 c_6
          obtain ⟨x3_7, e_8⟩ : ∃ y : Int32, y = x3_1 + 1 := ⟨_, rfl⟩
          have h := h x3_7 e_8
          refine lv_iinc (v := x3_7) (lv' := [(3, .int x3_7), (0, .ref (ad 36)), (1, .long a1)]) hx hb dX3_lastWithin_27 hl (k := 2) rfl (by rw [e_8]; rfl) (by decide) rfl (fun ls hl => ?_)
          refine lv_goto (tgt := 2) hx hb dX3_lastWithin_30 (by decide) ?_
          exact ih2 x3_7 h H locs ls hP hD hS (lv_sub hl [1, 2, 0] rfl)
  obtain ⟨n2, h⟩ := h
  refine L2 _ (fun x3_2 h H locs ls hP hD hS hl => ?_) n2 0 h H locs ls hP hD hS (lv_sub hl [1, 2, 0] rfl)
  refine lv_iload_n hx hb dX3_lastWithin_33 rfl (lv_at hl 0 rfl) ?_
  exact rt_i () hQ hx hb hr hlk hP hD hS ⟨Nat.zero_le _, Nat.zero_le _⟩ dX3_lastWithin_34 h
def wp_X7_shortest (cC : Int32) (eM : Nat) (eL : Nat → Int32)  (Qp : Int32 → Prop) : Prop :=
  wp_X3_bendAt eM (cC - 1) (fun (j_1 : Nat) => Qp (eL j_1))
theorem inn_X7_shortest_1 : ∀ w ∈ u_ws RX1 TX1 7, w ∈ wsX7_shortest := fun _ h => List.mem_cons_of_mem _ (List.mem_append_right _ h)
theorem inn_X7_shortest_3 : ∀ w ∈ u_ws RX3 TX3 3, w ∈ wsX7_shortest := fun _ h => List.mem_cons_of_mem _ (List.mem_append_left _ (List.mem_append_right _ h))
theorem inn_X7_shortest_7 : ∀ w ∈ u_ws RX7 TX7 14, w ∈ wsX7_shortest := fun _ h => List.mem_cons_of_mem _ (List.mem_append_left _ (List.mem_append_left _ (List.mem_append_right _ h)))
def rm_X7_shortest : Room := { frames := 1, cells := 0, slots := 0, locals := 21 }
set_option maxHeartbeats 4000000 in
set_option maxRecDepth 100000 in
theorem ct_X7_shortest {l : Launch} {D : va_G} {cI cJ cZ cE cD cK : ClassId} {ad : Nat → Nat} {bd dd : Nat → Nat → Nat} {bHK : Int32} {bHP : Int32} {bPF : Int32} {bWC : Int32} {bRi : Int32} {bBe : Int32} {bFi : Int32} {bWa : Nat → Int32} {dB : Nat → Int32} {dS : Nat → Int32} {dN : Nat → Nat → Int64} {tC : Int32} {tKi : Nat → Int32} {tEa : Nat → Int32} {tHa : Nat → Int32} {tPr : Nat → Int32} {tEx : Nat → Int32} {tSt : Nat → Int32} {tTo : Nat → Int32} {tBe : Nat → Int32} {kC : Int32} {kKi : Nat → Int32} {kEa : Nat → Int32} {kHa : Nat → Int32} {kPr : Nat → Int32} {kEx : Nat → Int32} {kSt : Nat → Int32} {kTo : Nat → Int32} {kBe : Nat → Int32} {aC : Int32} {aWh : Nat → Int32} {aTa : Nat → Int32} {aWa : Nat → Int32} {iRo : Nat → Int32} {iEa : Nat → Int32} {iLa : Nat → Int32} {cC : Int32} {nC : Int32} {nFo : Int32} {nQd : Int32} {nRo : Nat → Int32} {nBe : Nat → Int32} {nEa : Nat → Int32} {nMi : Nat → Int32} {nHa : Nat → Int32} {nER : Nat → Int32} {nMR : Nat → Int32} {nTh : Nat → Int32} {nPa : Nat → Int32} {nOu : Nat → Int32} {nFr : Nat → Int32} {nQu : Nat → Int32} {eM : Nat} {eL : Nat → Int32} {eC : Nat → Int64} {eS : Nat → Int64} {eB : Nat → Nat → Int32} {eE : Nat → Nat → Int32} {eF : Nat → Nat → Int32} {eG : Nat → Nat → Int32}    {Qp : Int32 → Prop}   (h : wp_X7_shortest cC eM eL Qp) : CTi l yX7_shortest wsX7_shortest rm_X7_shortest D (tyL cI cJ cZ cE cD cK) [.ref (ad 0)] (WC cI cJ cE cD ad bd dd bHK bHP bPF bWC bRi bBe bFi bWa dB dS dN tC tKi tEa tHa tPr tEx tSt tTo tBe kC kKi kEa kHa kPr kEx kSt kTo kBe aC aWh aTa aWa iRo iEa iLa cC nC nFo nQd nRo nBe nEa nMi nHa nER nMR nTh nPa nOu nFr nQu eM eL eC eS eB eE eF eG) (fun (r : Int32) (u : Unit) => Qp r ) (fun u : Unit => (WC cI cJ cE cD ad bd dd bHK bHP bPF bWC bRi bBe bFi bWa dB dS dN tC tKi tEa tHa tPr tEx tSt tTo tBe kC kKi kEa kHa kPr kEx kSt kTo kBe aC aWh aTa aWa iRo iEa iLa cC nC nFo nQd nRo nBe nEa nMi nHa nER nMR nTh nPa nOu nFr nQu eM eL eC eS eB eE eF eG)) 0 0 := by
  refine ent_i (cc := cX7_shortest) (maxL := 1) (ret := (some .int)) (by decide) rfl (Nat.le_of_ble_eq_true rfl) ?_
  intro p e s m args below meth c A Q hQ hx hb hr hml hown hts hlk hA hAB hP hD hS ls hl
  have hown : s.vm.findClass RX7 = some m.cls := hown
  have hl : lv_has ls 1 [(0, .ref (ad 0))] := hl
  generalize hH : s.heap = H at hP ⊢
  have hS : va_S A s.heap H [] := by rw [← hH]; exact hS
  clear hH
  generalize ([] : List Loc) = locs at hS ⊢
  refine lv_aload_n hx hb dX7_shortest_0 rfl (lv_at hl 0 rfl) ?_
  refine va_get (D := D) (ci := 7) (C := RX7) (T := TX7) (N := 14) hx hb hts inn_X7_shortest_7 hown hAB.1 hP 0 rfl rfl 6 (by decide) (hts (.fieldLink RX7 43 "BarnBench" "curve" "LBarnBench$Curve;") (by decide +kernel)) (fun _ h9 => h9) rfl dX7_shortest_1 ?_
  refine lv_aload_n hx hb dX7_shortest_4 rfl (lv_at hl 0 rfl) ?_
  refine va_get (D := D) (ci := 7) (C := RX7) (T := TX7) (N := 14) hx hb hts inn_X7_shortest_7 hown hAB.1 hP 0 rfl rfl 6 (by decide) (hts (.fieldLink RX7 43 "BarnBench" "curve" "LBarnBench$Curve;") (by decide +kernel)) (fun _ h9 => h9) rfl dX7_shortest_5 ?_
  refine va_get (D := D) (ci := 3) (C := RX3) (T := TX3) (N := 3) hx hb hts inn_X7_shortest_3 hown hAB.1 hP 36 rfl rfl 0 (by decide) (hts (.fieldLink RX7 216 "BarnBench$Curve" "count" "I") (by decide +kernel)) (fun _ h9 => h9) rfl dX7_shortest_8 ?_
  refine lv_iconst (v := 1) hx hb dX7_shortest_11 (by decide) ?_
  refine lv_isub hx hb dX7_shortest_12 ?_
  refine cl_r hD hS hA (va_runV (As := [.int (cC - 1)]) (rest := []) ⟨hx, hb, hml, hown, hts⟩ (ct_X3_bendAt h H.size) (cwV 1 hts gX7_shortest_X3_bendAt rfl rfl rfl (by decide +kernel) ⟨Nat.le_of_ble_eq_true rfl, Nat.le_of_ble_eq_true rfl⟩) ⟨CPre.blind, va_recv hAB.1 hP (ci := 3) (q0 := 36) rfl rfl, wd_pre hAB hP hD hS hA⟩ rfl rfl hl.1 rfl (lv_room (Nat.le_of_ble_eq_true rfl)) dX7_shortest_13 ⟨Nat.zero_le _, Nat.zero_le _⟩) (fun j_1 H locs h hP hD hS => ?_)
  obtain ⟨hi_2, h⟩ := h
  refine va_get (D := D) (ci := 1) (C := RX1) (T := TX1) (N := 7) hx hb hts inn_X7_shortest_1 hown hAB.1 hP (52 + (j_1 * 5 + 0)) (gB_0 hi_2) rfl 0 (by decide) (hts (.fieldLink RX7 210 "BarnBench$Bend" "length" "I") (by decide +kernel)) (fun _ h9 => h9) rfl dX7_shortest_16 ?_
  exact rt_i () hQ hx hb hr hlk hP hD hS ⟨Nat.zero_le _, Nat.zero_le _⟩ dX7_shortest_19 h
def wp_X7_lengthFinding (cC : Int32) (eM : Nat) (eL : Nat → Int32) (a1 : Int32) (Qp : Int32 → Prop) : Prop :=
  wp_X7_shortest cC eM eL (fun (r_1 : Int32) => ((r_1 ≤ a1 → ((a1 ≤ 1000 → Qp 0) ∧
   (¬ a1 ≤ 1000 → Qp (-1)))) ∧
   (¬ r_1 ≤ a1 → Qp (-8))))
def rm_X7_lengthFinding : Room := { frames := 2, cells := 0, slots := 0, locals := 41 }
set_option maxHeartbeats 4000000 in
set_option maxRecDepth 100000 in
theorem ct_X7_lengthFinding {l : Launch} {D : va_G} {cI cJ cZ cE cD cK : ClassId} {ad : Nat → Nat} {bd dd : Nat → Nat → Nat} {bHK : Int32} {bHP : Int32} {bPF : Int32} {bWC : Int32} {bRi : Int32} {bBe : Int32} {bFi : Int32} {bWa : Nat → Int32} {dB : Nat → Int32} {dS : Nat → Int32} {dN : Nat → Nat → Int64} {tC : Int32} {tKi : Nat → Int32} {tEa : Nat → Int32} {tHa : Nat → Int32} {tPr : Nat → Int32} {tEx : Nat → Int32} {tSt : Nat → Int32} {tTo : Nat → Int32} {tBe : Nat → Int32} {kC : Int32} {kKi : Nat → Int32} {kEa : Nat → Int32} {kHa : Nat → Int32} {kPr : Nat → Int32} {kEx : Nat → Int32} {kSt : Nat → Int32} {kTo : Nat → Int32} {kBe : Nat → Int32} {aC : Int32} {aWh : Nat → Int32} {aTa : Nat → Int32} {aWa : Nat → Int32} {iRo : Nat → Int32} {iEa : Nat → Int32} {iLa : Nat → Int32} {cC : Int32} {nC : Int32} {nFo : Int32} {nQd : Int32} {nRo : Nat → Int32} {nBe : Nat → Int32} {nEa : Nat → Int32} {nMi : Nat → Int32} {nHa : Nat → Int32} {nER : Nat → Int32} {nMR : Nat → Int32} {nTh : Nat → Int32} {nPa : Nat → Int32} {nOu : Nat → Int32} {nFr : Nat → Int32} {nQu : Nat → Int32} {eM : Nat} {eL : Nat → Int32} {eC : Nat → Int64} {eS : Nat → Int64} {eB : Nat → Nat → Int32} {eE : Nat → Nat → Int32} {eF : Nat → Nat → Int32} {eG : Nat → Nat → Int32}   {a1 : Int32} {Qp : Int32 → Prop}   (h : wp_X7_lengthFinding cC eM eL a1 Qp) : CTi l yX7_lengthFinding wsX7_lengthFinding rm_X7_lengthFinding D (tyL cI cJ cZ cE cD cK) [.ref (ad 0), .int a1] (WC cI cJ cE cD ad bd dd bHK bHP bPF bWC bRi bBe bFi bWa dB dS dN tC tKi tEa tHa tPr tEx tSt tTo tBe kC kKi kEa kHa kPr kEx kSt kTo kBe aC aWh aTa aWa iRo iEa iLa cC nC nFo nQd nRo nBe nEa nMi nHa nER nMR nTh nPa nOu nFr nQu eM eL eC eS eB eE eF eG) (fun (r : Int32) (u : Unit) => Qp r ) (fun u : Unit => (WC cI cJ cE cD ad bd dd bHK bHP bPF bWC bRi bBe bFi bWa dB dS dN tC tKi tEa tHa tPr tEx tSt tTo tBe kC kKi kEa kHa kPr kEx kSt kTo kBe aC aWh aTa aWa iRo iEa iLa cC nC nFo nQd nRo nBe nEa nMi nHa nER nMR nTh nPa nOu nFr nQu eM eL eC eS eB eE eF eG)) 0 0 := by
  refine ent_i (cc := cX7_lengthFinding) (maxL := 2) (ret := (some .int)) (by decide) rfl (Nat.le_of_ble_eq_true rfl) ?_
  intro p e s m args below meth c A Q hQ hx hb hr hml hown hts hlk hA hAB hP hD hS ls hl
  have hown : s.vm.findClass RX7 = some m.cls := hown
  have hl : lv_has ls 2 [(0, .ref (ad 0)), (1, .int a1)] := hl
  generalize hH : s.heap = H at hP ⊢
  have hS : va_S A s.heap H [] := by rw [← hH]; exact hS
  clear hH
  generalize ([] : List Loc) = locs at hS ⊢
  refine lv_iload_n hx hb dX7_lengthFinding_0 rfl (lv_at hl 1 rfl) ?_
  refine lv_aload_n hx hb dX7_lengthFinding_1 rfl (lv_at hl 0 rfl) ?_
  refine cl_i hD hS hA (va_runV (As := []) (rest := [.int a1]) ⟨hx, hb, hml, hown, hts⟩ (ct_X7_shortest h H.size) (cwV 0 hts gX7_lengthFinding_X7_shortest rfl rfl rfl (by decide +kernel) ⟨Nat.le_of_ble_eq_true rfl, Nat.le_of_ble_eq_true rfl⟩) ⟨CPre.blind, va_recv hAB.1 hP (ci := 7) (q0 := 0) rfl rfl, wd_pre hAB hP hD hS hA⟩ rfl rfl hl.1 rfl (lv_room (Nat.le_of_ble_eq_true rfl)) dX7_lengthFinding_2 ⟨Nat.zero_le _, Nat.zero_le _⟩) (fun r_1 u H locs h hP hD hS => ?_)
  refine lv_icmp_ge (tgt := 11) hx hb dX7_lengthFinding_5 (by decide) (fun c_2 => ?_) (fun c_2 => ?_)
  · have h := h.1 c_2
    refine lv_iload_n hx hb dX7_lengthFinding_11 rfl (lv_at hl 1 rfl) ?_
    refine lv_sipush (v := 1000) hx hb dX7_lengthFinding_12 (by decide) ?_
    refine lv_icmp_le (tgt := 22) hx hb dX7_lengthFinding_15 (by decide) (fun c_3 => ?_) (fun c_3 => ?_)
    · have h := h.1 c_3
      refine lv_iconst (v := 0) hx hb dX7_lengthFinding_22 (by decide) ?_
      exact rt_i () hQ hx hb hr hlk hP hD hS ⟨Nat.zero_le _, Nat.zero_le _⟩ dX7_lengthFinding_23 h
    · have h := h.2 c_3
      refine lv_iconst (v := (-1)) hx hb dX7_lengthFinding_18 (by decide) ?_
      refine lv_goto (tgt := 23) hx hb dX7_lengthFinding_19 (by decide) ?_
      exact rt_i () hQ hx hb hr hlk hP hD hS ⟨Nat.zero_le _, Nat.zero_le _⟩ dX7_lengthFinding_23 h
  · have h := h.2 c_2
    refine lv_bipush (v := (-8)) hx hb dX7_lengthFinding_8 (by decide) ?_
    exact rt_i () hQ hx hb hr hlk hP hD hS ⟨Nat.zero_le _, Nat.zero_le _⟩ dX7_lengthFinding_10 h
