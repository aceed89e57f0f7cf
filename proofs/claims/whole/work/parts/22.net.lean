def wp_X4_riseOn_b125 (k5 : (Int32) → (Int32) → (Nat → Int32) → (Nat → Int32) → Prop) (y_12 : Int32) (x4_8 : Int32) (x5_9 : Int32) (x6_10 : Int32) (x7_11 : Int32) (f1_13 : Nat → Int32) (f2_14 : Nat → Int32) : Prop :=
  vp_in x5_9 12 ∧ ∀ f1_15 : Nat → Int32, f1_15 = upd f1_13 (Int32.toNatClampNeg x5_9) x6_10 → vp_in x5_9 12 ∧ ∀ f2_17 : Nat → Int32, f2_17 = upd f2_14 (Int32.toNatClampNeg x5_9) x7_11 → ∀ x4_19 : Int32, x4_19 = x4_8 + 1 → k5 y_12 x4_19 f1_15 f2_17
def wp_X4_riseOn_b120 (k5 : (Int32) → (Int32) → (Nat → Int32) → (Nat → Int32) → Prop) (x4_21 : Int32) (x5_22 : Int32) (x6_23 : Int32) (x7_24 : Int32) (f1_25 : Nat → Int32) (f2_26 : Nat → Int32) : Prop :=
  wp_X4_riseOn_b125 k5 1 x4_21 x5_22 x6_23 x7_24 f1_25 f2_26
def wp_X4_riseOn_b74 (k32 : (Int32) → (Int32) → Prop) (x6_35 : Int32) (x7_36 : Int32) : Prop :=
  ∀ x7_37 : Int32, x7_37 = x7_36 + 1 → k32 x6_35 x7_37
def wp_X4_riseOn_L32 (nBe : Nat → Int32) (nRo : Nat → Int32) (x4_2 : Int32) (f2_4 : Nat → Int32) (x5_28 : Int32) (x32 : (Int32) → Prop) : Nat → (Int32) → (Int32) → Prop
  | 0, _, _ => False
  | n32 + 1, x6_32, x7_33 =>
  ((x4_2 ≤ x7_33 → x32 x6_32) ∧
   (¬ x4_2 ≤ x7_33 → vp_in x7_33 12 ∧ ∀ x8_40 : Int32, x8_40 = (nRo (Int32.toNatClampNeg x7_33)) → vp_in x5_28 12 ∧ wp_X7_hasBit (nBe (Int32.toNatClampNeg x5_28)) x8_40 (fun (r_42 : Int32) => ((r_42 = 0 → wp_X4_riseOn_b74 (wp_X4_riseOn_L32 nBe nRo x4_2 f2_4 x5_28 x32 n32) x6_32 x7_33) ∧
   (¬ r_42 = 0 → vp_in x8_40 12 ∧ ∀ x6_44 : Int32, x6_44 = (if x6_32 < (f2_4 (Int32.toNatClampNeg x8_40)) then (f2_4 (Int32.toNatClampNeg x8_40)) else x6_32) → wp_X4_riseOn_b74 (wp_X4_riseOn_L32 nBe nRo x4_2 f2_4 x5_28 x32 n32) x6_44 x7_33)))))
def wp_X4_riseOn_L5 (nBe : Nat → Int32) (nC : Int32) (nER : Nat → Int32) (nEa : Nat → Int32) (nHa : Nat → Int32) (nMR : Nat → Int32) (nMi : Nat → Int32) (nRo : Nat → Int32) (nTh : Nat → Int32) (x5 : (Int32) → (Nat → Int32) → (Nat → Int32) → Prop) : Nat → (Int32) → (Int32) → (Nat → Int32) → (Nat → Int32) → Prop
  | 0, _, _, _, _ => False
  | n5 + 1, x3_1, x4_2, f1_3, f2_4 =>
  ((nC ≤ x4_2 → x5 x3_1 f1_3 f2_4) ∧
   (¬ nC ≤ x4_2 → vp_in x4_2 12 ∧ ∀ x5_28 : Int32, x5_28 = (nRo (Int32.toNatClampNeg x4_2)) → vp_in x5_28 12 ∧ ∀ x6_30 : Int32, x6_30 = (f1_3 (Int32.toNatClampNeg x5_28)) → (∃ n32 : Nat, wp_X4_riseOn_L32 nBe nRo x4_2 f2_4 x5_28 (fun (x6_34 : Int32) => vp_in x5_28 12 ∧ wp_X4_spanOn nEa nMi nHa nER nMR nTh x5_28 (fun (r_46 : Int32) => ∀ x7_47 : Int32, x7_47 = (if (f2_4 (Int32.toNatClampNeg x5_28)) < (x6_34 + r_46) then (x6_34 + r_46) else (f2_4 (Int32.toNatClampNeg x5_28))) → ((¬ x3_1 = 0 → wp_X4_riseOn_b120 (wp_X4_riseOn_L5 nBe nC nER nEa nHa nMR nMi nRo nTh x5 n5) x4_2 x5_28 x6_34 x7_47 f1_3 f2_4) ∧
   (x3_1 = 0 → vp_in x5_28 12 ∧ (((f1_3 (Int32.toNatClampNeg x5_28)) < x6_34 → wp_X4_riseOn_b120 (wp_X4_riseOn_L5 nBe nC nER nEa nHa nMR nMi nRo nTh x5 n5) x4_2 x5_28 x6_34 x7_47 f1_3 f2_4) ∧
   (¬ (f1_3 (Int32.toNatClampNeg x5_28)) < x6_34 → vp_in x5_28 12 ∧ ((x7_47 ≤ (f2_4 (Int32.toNatClampNeg x5_28)) → wp_X4_riseOn_b125 (wp_X4_riseOn_L5 nBe nC nER nEa nHa nMR nMi nRo nTh x5 n5) 0 x4_2 x5_28 x6_34 x7_47 f1_3 f2_4) ∧
   (¬ x7_47 ≤ (f2_4 (Int32.toNatClampNeg x5_28)) → wp_X4_riseOn_b120 (wp_X4_riseOn_L5 nBe nC nER nEa nHa nMR nMi nRo nTh x5 n5) x4_2 x5_28 x6_34 x7_47 f1_3 f2_4)))))))) n32 x6_30 0)))
def wp_X4_riseOn (f1 : Nat → Int32) (f2 : Nat → Int32) (nC : Int32) (nRo : Nat → Int32) (nBe : Nat → Int32) (nEa : Nat → Int32) (nMi : Nat → Int32) (nHa : Nat → Int32) (nER : Nat → Int32) (nMR : Nat → Int32) (nTh : Nat → Int32)  (Qp : Int32 → (Nat → Int32) → (Nat → Int32) → Prop) : Prop :=
  (∃ n5 : Nat, wp_X4_riseOn_L5 nBe nC nER nEa nHa nMR nMi nRo nTh (fun (x3_5 : Int32) (f1_6 : Nat → Int32) (f2_7 : Nat → Int32) => (x3_5 = 0 ∨ x3_5 = 1) ∧ Qp x3_5 f1_6 f2_7) n5 0 0 (f1) (f2))
theorem inn_X4_riseOn_4 : ∀ w ∈ u_ws RX4 TX4 15, w ∈ wsX4_riseOn := fun _ h => List.mem_cons_of_mem _ (List.mem_append_right _ h)
def rm_X4_riseOn : Room := { frames := 1, cells := 0, slots := 0, locals := 23 }
set_option maxHeartbeats 4000000 in
set_option maxRecDepth 100000 in
theorem ct_X4_riseOn_1 {l : Launch} {D : va_G} {cI cJ cZ cE cD cK : ClassId} {ad : Nat → Nat} {bd dd : Nat → Nat → Nat} {bHK : Int32} {bHP : Int32} {bPF : Int32} {bWC : Int32} {bRi : Int32} {bBe : Int32} {bFi : Int32} {bWa : Nat → Int32} {dB : Nat → Int32} {dS : Nat → Int32} {dN : Nat → Nat → Int64} {tC : Int32} {tKi : Nat → Int32} {tEa : Nat → Int32} {tHa : Nat → Int32} {tPr : Nat → Int32} {tEx : Nat → Int32} {tSt : Nat → Int32} {tTo : Nat → Int32} {tBe : Nat → Int32} {kC : Int32} {kKi : Nat → Int32} {kEa : Nat → Int32} {kHa : Nat → Int32} {kPr : Nat → Int32} {kEx : Nat → Int32} {kSt : Nat → Int32} {kTo : Nat → Int32} {kBe : Nat → Int32} {aC : Int32} {aWh : Nat → Int32} {aTa : Nat → Int32} {aWa : Nat → Int32} {iRo : Nat → Int32} {iEa : Nat → Int32} {iLa : Nat → Int32} {cC : Int32} {nC : Int32} {nFo : Int32} {nQd : Int32} {nRo : Nat → Int32} {nBe : Nat → Int32} {nEa : Nat → Int32} {nMi : Nat → Int32} {nHa : Nat → Int32} {nER : Nat → Int32} {nMR : Nat → Int32} {nTh : Nat → Int32} {nPa : Nat → Int32} {nOu : Nat → Int32} {nFr : Nat → Int32} {nQu : Nat → Int32} {eM : Nat} {eL : Nat → Int32} {eC : Nat → Int64} {eS : Nat → Int64} {eB : Nat → Nat → Int32} {eE : Nat → Nat → Int32} {eF : Nat → Nat → Int32} {eG : Nat → Nat → Int32} {i : Nat} {f1 : Nat → Int32} {f2 : Nat → Int32}  {Qp : Int32 → (Nat → Int32) → (Nat → Int32) → Prop} (hi1 : i < eM) (hi2 : i < eM)  (h : wp_X4_riseOn f1 f2 nC nRo nBe nEa nMi nHa nER nMR nTh Qp) : CTi l yX4_riseOn wsX4_riseOn rm_X4_riseOn D (tyL cI cJ cZ cE cD cK) [.ref (ad 38), .ref (bd i 1), .ref (bd i 2)] (WC cI cJ cE cD ad bd dd bHK bHP bPF bWC bRi bBe bFi bWa dB dS dN tC tKi tEa tHa tPr tEx tSt tTo tBe kC kKi kEa kHa kPr kEx kSt kTo kBe aC aWh aTa aWa iRo iEa iLa cC nC nFo nQd nRo nBe nEa nMi nHa nER nMR nTh nPa nOu nFr nQu eM eL eC eS (va_up eB i f1) (va_up eE i f2) eF eG) (fun (r : Int32) (u : (Nat → Int32) × (Nat → Int32)) => Qp r u.1 u.2) (fun u : (Nat → Int32) × (Nat → Int32) => (WC cI cJ cE cD ad bd dd bHK bHP bPF bWC bRi bBe bFi bWa dB dS dN tC tKi tEa tHa tPr tEx tSt tTo tBe kC kKi kEa kHa kPr kEx kSt kTo kBe aC aWh aTa aWa iRo iEa iLa cC nC nFo nQd nRo nBe nEa nMi nHa nER nMR nTh nPa nOu nFr nQu eM eL eC eS (va_up eB i u.1) (va_up eE i u.2) eF eG)) 0 0 := by
  refine ent_i (cc := cX4_riseOn) (maxL := 9) (ret := (some .boolean)) (by decide) rfl (Nat.le_of_ble_eq_true rfl) ?_
  intro p e s m args below meth c A Q hQ hx hb hr hml hown hts hlk hA hAB hP hD hS ls hl
  have hown : s.vm.findClass RX4 = some m.cls := hown
  have hl : lv_has ls 9 [(0, .ref (ad 38)), (1, .ref (bd i 1)), (2, .ref (bd i 2))] := hl
  generalize hH : s.heap = H at hP ⊢
  have hS : va_S A s.heap H [] := by rw [← hH]; exact hS
  clear hH
  generalize ([] : List Loc) = locs at hS ⊢
  refine lv_iconst (v := 0) hx hb dX4_riseOn_0 (by decide) ?_
  refine lv_istore_n (lv' := [(3, .int 0), (0, .ref (ad 38)), (1, .ref (bd i 1)), (2, .ref (bd i 2))]) hx hb dX4_riseOn_1 rfl hl (by decide) rfl (fun ls hl => ?_)
  refine lv_iconst (v := 0) hx hb dX4_riseOn_2 (by decide) ?_
  refine lv_istore (lv' := [(4, .int 0), (3, .int 0), (0, .ref (ad 38)), (1, .ref (bd i 1)), (2, .ref (bd i 2))]) hx hb dX4_riseOn_3 hl (by decide) rfl (fun ls hl => ?_)
  have L5 : ∀ (x5 : (Int32) → (Nat → Int32) → (Nat → Int32) → Prop) (hk5 : ∀ (x3_5 : Int32) (f1_6 : Nat → Int32) (f2_7 : Nat → Int32), x5 x3_5 f1_6 f2_7 → ∀ (H : Heap) (locs : List Loc) (ls : Array Slot), va_P D vwCl (WC cI cJ cE cD ad bd dd bHK bHP bPF bWC bRi bBe bFi bWa dB dS dN tC tKi tEa tHa tPr tEx tSt tTo tBe kC kKi kEa kHa kPr kEx kSt kTo kBe aC aWh aTa aWa iRo iEa iLa cC nC nFo nQd nRo nBe nEa nMi nHa nER nMR nTh nPa nOu nFr nQu eM eL eC eS (va_up eB i f1_6) (va_up eE i f2_7) eF eG) H → va_D A (WC cI cJ cE cD ad bd dd bHK bHP bPF bWC bRi bBe bFi bWa dB dS dN tC tKi tEa tHa tPr tEx tSt tTo tBe kC kKi kEa kHa kPr kEx kSt kTo kBe aC aWh aTa aWa iRo iEa iLa cC nC nFo nQd nRo nBe nEa nMi nHa nER nMR nTh nPa nOu nFr nQu eM eL eC eS (va_up eB i f1_6) (va_up eE i f2_7) eF eG) → va_S A s.heap H locs → lv_has ls 9 [(3, .int x3_5)] → W p l e (headSpec wsX4_riseOn rm_X4_riseOn).room s m args below meth c H locs 0 0 Q (F0 m 144 ls [])) (n5 : Nat) (x3_1 : Int32) (x4_2 : Int32) (f1_3 : Nat → Int32) (f2_4 : Nat → Int32), wp_X4_riseOn_L5 nBe nC nER nEa nHa nMR nMi nRo nTh x5 n5 x3_1 x4_2 f1_3 f2_4 → ∀ (H : Heap) (locs : List Loc) (ls : Array Slot), va_P D vwCl (WC cI cJ cE cD ad bd dd bHK bHP bPF bWC bRi bBe bFi bWa dB dS dN tC tKi tEa tHa tPr tEx tSt tTo tBe kC kKi kEa kHa kPr kEx kSt kTo kBe aC aWh aTa aWa iRo iEa iLa cC nC nFo nQd nRo nBe nEa nMi nHa nER nMR nTh nPa nOu nFr nQu eM eL eC eS (va_up eB i f1_3) (va_up eE i f2_4) eF eG) H → va_D A (WC cI cJ cE cD ad bd dd bHK bHP bPF bWC bRi bBe bFi bWa dB dS dN tC tKi tEa tHa tPr tEx tSt tTo tBe kC kKi kEa kHa kPr kEx kSt kTo kBe aC aWh aTa aWa iRo iEa iLa cC nC nFo nQd nRo nBe nEa nMi nHa nER nMR nTh nPa nOu nFr nQu eM eL eC eS (va_up eB i f1_3) (va_up eE i f2_4) eF eG) → va_S A s.heap H locs → lv_has ls 9 [(0, .ref (ad 38)), (1, .ref (bd i 1)), (2, .ref (bd i 2)), (3, .int x3_1), (4, .int x4_2)] → W p l e (headSpec wsX4_riseOn rm_X4_riseOn).room s m args below meth c H locs 0 0 Q (F0 m 5 ls []) := by
    intro x5 hk5 n5
    induction n5 with
    | zero => intro x3_1 x4_2 f1_3 f2_4 h; exact False.elim h
    | succ n5 ih5 =>
      intro x3_1 x4_2 f1_3 f2_4 h H locs ls hP hD hS hl
      have B125 : ∀ (y_12 : Int32) (x4_8 : Int32) (x5_9 : Int32) (x6_10 : Int32) (x7_11 : Int32) (f1_13 : Nat → Int32) (f2_14 : Nat → Int32), wp_X4_riseOn_b125 (wp_X4_riseOn_L5 nBe nC nER nEa nHa nMR nMi nRo nTh x5 n5) y_12 x4_8 x5_9 x6_10 x7_11 f1_13 f2_14 → ∀ (H : Heap) (locs : List Loc) (ls : Array Slot), va_P D vwCl (WC cI cJ cE cD ad bd dd bHK bHP bPF bWC bRi bBe bFi bWa dB dS dN tC tKi tEa tHa tPr tEx tSt tTo tBe kC kKi kEa kHa kPr kEx kSt kTo kBe aC aWh aTa aWa iRo iEa iLa cC nC nFo nQd nRo nBe nEa nMi nHa nER nMR nTh nPa nOu nFr nQu eM eL eC eS (va_up eB i f1_13) (va_up eE i f2_14) eF eG) H → va_D A (WC cI cJ cE cD ad bd dd bHK bHP bPF bWC bRi bBe bFi bWa dB dS dN tC tKi tEa tHa tPr tEx tSt tTo tBe kC kKi kEa kHa kPr kEx kSt kTo kBe aC aWh aTa aWa iRo iEa iLa cC nC nFo nQd nRo nBe nEa nMi nHa nER nMR nTh nPa nOu nFr nQu eM eL eC eS (va_up eB i f1_13) (va_up eE i f2_14) eF eG) → va_S A s.heap H locs → lv_has ls 9 [(0, .ref (ad 38)), (1, .ref (bd i 1)), (2, .ref (bd i 2)), (4, .int x4_8), (5, .int x5_9), (6, .int x6_10), (7, .int x7_11)] → W p l e (headSpec wsX4_riseOn rm_X4_riseOn).room s m args below meth c H locs 0 0 Q (F0 m 125 ls [.int y_12]) := by
        intro y_12 x4_8 x5_9 x6_10 x7_11 f1_13 f2_14 h H locs ls hP hD hS hl
        refine lv_istore_n (lv' := [(3, .int y_12), (0, .ref (ad 38)), (1, .ref (bd i 1)), (2, .ref (bd i 2)), (4, .int x4_8), (5, .int x5_9), (6, .int x6_10), (7, .int x7_11)]) hx hb dX4_riseOn_125 rfl hl (by decide) rfl (fun ls hl => ?_)
        refine lv_aload_n hx hb dX4_riseOn_126 rfl (lv_at hl 2 rfl) ?_
        refine lv_iload hx hb dX4_riseOn_127 (lv_at hl 5 rfl) ?_
        refine lv_iload hx hb dX4_riseOn_129 (lv_at hl 6 rfl) ?_
        refine sB_1 hx hb hAB hP hD hS hi1 h.1 dX4_riseOn_131 (fun f1_15 H locs e_16 hP hD hS => ?_)
        have h := h.2
        have h := h f1_15 e_16
        refine lv_aload_n hx hb dX4_riseOn_132 rfl (lv_at hl 3 rfl) ?_
        refine lv_iload hx hb dX4_riseOn_133 (lv_at hl 5 rfl) ?_
        refine lv_iload hx hb dX4_riseOn_135 (lv_at hl 7 rfl) ?_
        refine sB_2 hx hb hAB hP hD hS hi2 h.1 dX4_riseOn_137 (fun f2_17 H locs e_18 hP hD hS => ?_)
        have h := h.2
        have h := h f2_17 e_18
        obtain ⟨x4_19, e_20⟩ : ∃ y : Int32, y = x4_8 + 1 := ⟨_, rfl⟩
        have h := h x4_19 e_20
        refine lv_iinc (v := x4_19) (lv' := [(4, .int x4_19), (3, .int y_12), (0, .ref (ad 38)), (1, .ref (bd i 1)), (2, .ref (bd i 2)), (5, .int x5_9), (6, .int x6_10), (7, .int x7_11)]) hx hb dX4_riseOn_138 hl (k := 4) rfl (by rw [e_20]; rfl) (by decide) rfl (fun ls hl => ?_)
        refine lv_goto (tgt := 5) hx hb dX4_riseOn_141 (by decide) ?_
        exact ih5 y_12 x4_19 f1_15 f2_17 h H locs ls hP hD hS (lv_sub hl [2, 3, 4, 1, 0] rfl)
      have B120 : ∀ (x4_21 : Int32) (x5_22 : Int32) (x6_23 : Int32) (x7_24 : Int32) (f1_25 : Nat → Int32) (f2_26 : Nat → Int32), wp_X4_riseOn_b120 (wp_X4_riseOn_L5 nBe nC nER nEa nHa nMR nMi nRo nTh x5 n5) x4_21 x5_22 x6_23 x7_24 f1_25 f2_26 → ∀ (H : Heap) (locs : List Loc) (ls : Array Slot), va_P D vwCl (WC cI cJ cE cD ad bd dd bHK bHP bPF bWC bRi bBe bFi bWa dB dS dN tC tKi tEa tHa tPr tEx tSt tTo tBe kC kKi kEa kHa kPr kEx kSt kTo kBe aC aWh aTa aWa iRo iEa iLa cC nC nFo nQd nRo nBe nEa nMi nHa nER nMR nTh nPa nOu nFr nQu eM eL eC eS (va_up eB i f1_25) (va_up eE i f2_26) eF eG) H → va_D A (WC cI cJ cE cD ad bd dd bHK bHP bPF bWC bRi bBe bFi bWa dB dS dN tC tKi tEa tHa tPr tEx tSt tTo tBe kC kKi kEa kHa kPr kEx kSt kTo kBe aC aWh aTa aWa iRo iEa iLa cC nC nFo nQd nRo nBe nEa nMi nHa nER nMR nTh nPa nOu nFr nQu eM eL eC eS (va_up eB i f1_25) (va_up eE i f2_26) eF eG) → va_S A s.heap H locs → lv_has ls 9 [(0, .ref (ad 38)), (1, .ref (bd i 1)), (2, .ref (bd i 2)), (4, .int x4_21), (5, .int x5_22), (6, .int x6_23), (7, .int x7_24)] → W p l e (headSpec wsX4_riseOn rm_X4_riseOn).room s m args below meth c H locs 0 0 Q (F0 m 120 ls []) := by
        intro x4_21 x5_22 x6_23 x7_24 f1_25 f2_26 h H locs ls hP hD hS hl
        refine lv_iconst (v := 1) hx hb dX4_riseOn_120 (by decide) ?_
        refine lv_goto (tgt := 125) hx hb dX4_riseOn_121 (by decide) ?_
        exact B125 1 x4_21 x5_22 x6_23 x7_24 f1_25 f2_26 h H locs ls hP hD hS (lv_sub hl [0, 1, 2, 3, 4, 5, 6] rfl)
      refine lv_iload hx hb dX4_riseOn_5 (lv_at hl 4 rfl) ?_
      refine lv_aload_n hx hb dX4_riseOn_7 rfl (lv_at hl 0 rfl) ?_
      refine va_get (D := D) (ci := 4) (C := RX4) (T := TX4) (N := 15) hx hb hts inn_X4_riseOn_4 hown hAB.1 hP 38 rfl rfl 0 (by decide) (hts (.fieldLink RX4 54 "BarnBench$Net" "count" "I") (by decide +kernel)) (fun _ h9 => h9) rfl dX4_riseOn_8 ?_
      refine lv_icmp_ge (tgt := 144) hx hb dX4_riseOn_11 (by decide) (fun c_27 => ?_) (fun c_27 => ?_)
      · have h := h.1 c_27
        exact hk5 x3_1 f1_3 f2_4 h H locs ls hP hD hS (lv_sub hl [3] rfl)
      · have h := h.2 c_27
        refine lv_aload_n hx hb dX4_riseOn_14 rfl (lv_at hl 0 rfl) ?_
        refine va_get (D := D) (ci := 4) (C := RX4) (T := TX4) (N := 15) hx hb hts inn_X4_riseOn_4 hown hAB.1 hP 38 rfl rfl 1 (by decide) (hts (.fieldLink RX4 9 "BarnBench$Net" "row" "[I") (by decide +kernel)) (fun _ h9 => h9) rfl dX4_riseOn_15 ?_
        refine lv_iload hx hb dX4_riseOn_18 (lv_at hl 4 rfl) ?_
        refine va_iald hx hb hAB.1 hP 39 0 rfl rfl h.1 dX4_riseOn_20 ?_
        have h := h.2
        refine lv_topi (fun x5_28 e_29 => ?_)
        have h := h x5_28 e_29
        refine lv_istore (lv' := [(5, .int x5_28), (0, .ref (ad 38)), (1, .ref (bd i 1)), (2, .ref (bd i 2)), (3, .int x3_1), (4, .int x4_2)]) hx hb dX4_riseOn_21 hl (by decide) rfl (fun ls hl => ?_)
        refine lv_aload_n hx hb dX4_riseOn_23 rfl (lv_at hl 2 rfl) ?_
        refine lv_iload hx hb dX4_riseOn_24 (lv_at hl 0 rfl) ?_
        refine lB_1 hx hb hAB hP hD hS hi1 h.1 dX4_riseOn_26 ?_
        have h := h.2
        refine lv_topi (fun x6_30 e_31 => ?_)
        have h := h x6_30 e_31
        refine lv_istore (lv' := [(6, .int x6_30), (5, .int x5_28), (0, .ref (ad 38)), (1, .ref (bd i 1)), (2, .ref (bd i 2)), (3, .int x3_1), (4, .int x4_2)]) hx hb dX4_riseOn_27 hl (by decide) rfl (fun ls hl => ?_)
        refine lv_iconst (v := 0) hx hb dX4_riseOn_29 (by decide) ?_
        refine lv_istore (lv' := [(7, .int 0), (6, .int x6_30), (5, .int x5_28), (0, .ref (ad 38)), (1, .ref (bd i 1)), (2, .ref (bd i 2)), (3, .int x3_1), (4, .int x4_2)]) hx hb dX4_riseOn_30 hl (by decide) rfl (fun ls hl => ?_)
        have L32 : ∀ (x32 : (Int32) → Prop) (hk32 : ∀ (x6_34 : Int32), x32 x6_34 → ∀ (H : Heap) (locs : List Loc) (ls : Array Slot), va_P D vwCl (WC cI cJ cE cD ad bd dd bHK bHP bPF bWC bRi bBe bFi bWa dB dS dN tC tKi tEa tHa tPr tEx tSt tTo tBe kC kKi kEa kHa kPr kEx kSt kTo kBe aC aWh aTa aWa iRo iEa iLa cC nC nFo nQd nRo nBe nEa nMi nHa nER nMR nTh nPa nOu nFr nQu eM eL eC eS (va_up eB i f1_3) (va_up eE i f2_4) eF eG) H → va_D A (WC cI cJ cE cD ad bd dd bHK bHP bPF bWC bRi bBe bFi bWa dB dS dN tC tKi tEa tHa tPr tEx tSt tTo tBe kC kKi kEa kHa kPr kEx kSt kTo kBe aC aWh aTa aWa iRo iEa iLa cC nC nFo nQd nRo nBe nEa nMi nHa nER nMR nTh nPa nOu nFr nQu eM eL eC eS (va_up eB i f1_3) (va_up eE i f2_4) eF eG) → va_S A s.heap H locs → lv_has ls 9 [(0, .ref (ad 38)), (1, .ref (bd i 1)), (2, .ref (bd i 2)), (3, .int x3_1), (4, .int x4_2), (5, .int x5_28), (6, .int x6_34)] → W p l e (headSpec wsX4_riseOn rm_X4_riseOn).room s m args below meth c H locs 0 0 Q (F0 m 80 ls [])) (n32 : Nat) (x6_32 : Int32) (x7_33 : Int32), wp_X4_riseOn_L32 nBe nRo x4_2 f2_4 x5_28 x32 n32 x6_32 x7_33 → ∀ (H : Heap) (locs : List Loc) (ls : Array Slot), va_P D vwCl (WC cI cJ cE cD ad bd dd bHK bHP bPF bWC bRi bBe bFi bWa dB dS dN tC tKi tEa tHa tPr tEx tSt tTo tBe kC kKi kEa kHa kPr kEx kSt kTo kBe aC aWh aTa aWa iRo iEa iLa cC nC nFo nQd nRo nBe nEa nMi nHa nER nMR nTh nPa nOu nFr nQu eM eL eC eS (va_up eB i f1_3) (va_up eE i f2_4) eF eG) H → va_D A (WC cI cJ cE cD ad bd dd bHK bHP bPF bWC bRi bBe bFi bWa dB dS dN tC tKi tEa tHa tPr tEx tSt tTo tBe kC kKi kEa kHa kPr kEx kSt kTo kBe aC aWh aTa aWa iRo iEa iLa cC nC nFo nQd nRo nBe nEa nMi nHa nER nMR nTh nPa nOu nFr nQu eM eL eC eS (va_up eB i f1_3) (va_up eE i f2_4) eF eG) → va_S A s.heap H locs → lv_has ls 9 [(0, .ref (ad 38)), (1, .ref (bd i 1)), (2, .ref (bd i 2)), (3, .int x3_1), (4, .int x4_2), (5, .int x5_28), (6, .int x6_32), (7, .int x7_33)] → W p l e (headSpec wsX4_riseOn rm_X4_riseOn).room s m args below meth c H locs 0 0 Q (F0 m 32 ls []) := by
          intro x32 hk32 n32
          induction n32 with
          | zero => intro x6_32 x7_33 h; exact False.elim h
          | succ n32 ih32 =>
            intro x6_32 x7_33 h H locs ls hP hD hS hl
            have B74 : ∀ (x6_35 : Int32) (x7_36 : Int32), wp_X4_riseOn_b74 (wp_X4_riseOn_L32 nBe nRo x4_2 f2_4 x5_28 x32 n32) x6_35 x7_36 → ∀ (H : Heap) (locs : List Loc) (ls : Array Slot), va_P D vwCl (WC cI cJ cE cD ad bd dd bHK bHP bPF bWC bRi bBe bFi bWa dB dS dN tC tKi tEa tHa tPr tEx tSt tTo tBe kC kKi kEa kHa kPr kEx kSt kTo kBe aC aWh aTa aWa iRo iEa iLa cC nC nFo nQd nRo nBe nEa nMi nHa nER nMR nTh nPa nOu nFr nQu eM eL eC eS (va_up eB i f1_3) (va_up eE i f2_4) eF eG) H → va_D A (WC cI cJ cE cD ad bd dd bHK bHP bPF bWC bRi bBe bFi bWa dB dS dN tC tKi tEa tHa tPr tEx tSt tTo tBe kC kKi kEa kHa kPr kEx kSt kTo kBe aC aWh aTa aWa iRo iEa iLa cC nC nFo nQd nRo nBe nEa nMi nHa nER nMR nTh nPa nOu nFr nQu eM eL eC eS (va_up eB i f1_3) (va_up eE i f2_4) eF eG) → va_S A s.heap H locs → lv_has ls 9 [(0, .ref (ad 38)), (1, .ref (bd i 1)), (2, .ref (bd i 2)), (3, .int x3_1), (4, .int x4_2), (5, .int x5_28), (6, .int x6_35), (7, .int x7_36)] → W p l e (headSpec wsX4_riseOn rm_X4_riseOn).room s m args below meth c H locs 0 0 Q (F0 m 74 ls []) := by
              intro x6_35 x7_36 h H locs ls hP hD hS hl
              obtain ⟨x7_37, e_38⟩ : ∃ y : Int32, y = x7_36 + 1 := ⟨_, rfl⟩
              have h := h x7_37 e_38
              refine lv_iinc (v := x7_37) (lv' := [(7, .int x7_37), (0, .ref (ad 38)), (1, .ref (bd i 1)), (2, .ref (bd i 2)), (3, .int x3_1), (4, .int x4_2), (5, .int x5_28), (6, .int x6_35)]) hx hb dX4_riseOn_74 hl (k := 7) rfl (by rw [e_38]; rfl) (by decide) rfl (fun ls hl => ?_)
              refine lv_goto (tgt := 32) hx hb dX4_riseOn_77 (by decide) ?_
              exact ih32 x6_35 x7_37 h H locs ls hP hD hS (lv_sub hl [1, 2, 3, 4, 5, 6, 7, 0] rfl)
            refine lv_iload hx hb dX4_riseOn_32 (lv_at hl 7 rfl) ?_
            refine lv_iload hx hb dX4_riseOn_34 (lv_at hl 4 rfl) ?_
            refine lv_icmp_ge (tgt := 80) hx hb dX4_riseOn_36 (by decide) (fun c_39 => ?_) (fun c_39 => ?_)
            · have h := h.1 c_39
              exact hk32 x6_32 h H locs ls hP hD hS (lv_sub hl [0, 1, 2, 3, 4, 5, 6] rfl)
            · have h := h.2 c_39
              refine lv_aload_n hx hb dX4_riseOn_39 rfl (lv_at hl 0 rfl) ?_
              refine va_get (D := D) (ci := 4) (C := RX4) (T := TX4) (N := 15) hx hb hts inn_X4_riseOn_4 hown hAB.1 hP 38 rfl rfl 1 (by decide) (hts (.fieldLink RX4 9 "BarnBench$Net" "row" "[I") (by decide +kernel)) (fun _ h9 => h9) rfl dX4_riseOn_40 ?_
              refine lv_iload hx hb dX4_riseOn_43 (lv_at hl 7 rfl) ?_
              refine va_iald hx hb hAB.1 hP 39 0 rfl rfl h.1 dX4_riseOn_45 ?_
              have h := h.2
              refine lv_topi (fun x8_40 e_41 => ?_)
              have h := h x8_40 e_41
              refine lv_istore (lv' := [(8, .int x8_40), (0, .ref (ad 38)), (1, .ref (bd i 1)), (2, .ref (bd i 2)), (3, .int x3_1), (4, .int x4_2), (5, .int x5_28), (6, .int x6_32), (7, .int x7_33)]) hx hb dX4_riseOn_46 hl (by decide) rfl (fun ls hl => ?_)
              refine lv_aload_n hx hb dX4_riseOn_48 rfl (lv_at hl 1 rfl) ?_
              refine va_get (D := D) (ci := 4) (C := RX4) (T := TX4) (N := 15) hx hb hts inn_X4_riseOn_4 hown hAB.1 hP 38 rfl rfl 2 (by decide) (hts (.fieldLink RX4 15 "BarnBench$Net" "before" "[I") (by decide +kernel)) (fun _ h9 => h9) rfl dX4_riseOn_49 ?_
              refine lv_iload hx hb dX4_riseOn_52 (lv_at hl 6 rfl) ?_
              refine va_iald hx hb hAB.1 hP 40 0 rfl rfl h.1 dX4_riseOn_54 ?_
              have h := h.2
              refine lv_iload hx hb dX4_riseOn_55 (lv_at hl 0 rfl) ?_
              refine cl_i hD hS hA (va_runSN (As := [.int (nBe (Int32.toNatClampNeg x5_28)), .int x8_40]) (rest := []) ⟨hx, hb, hml, hown, hts⟩ (ct_X7_hasBit h H.size) ⟨va_cnB 2 hts gX4_riseOn_X7_hasBit_n76 rfl rfl rfl (hAB.2.1 (.methodLinkNest RX4 76 yX7_hasBit RX7) (by decide +kernel)) (hts (.initialized RX7) (by decide +kernel)) (by decide +kernel) ⟨Nat.le_of_ble_eq_true rfl, Nat.le_of_ble_eq_true rfl⟩, (hts (.static yX7_hasBit) (by decide +kernel)), trivial⟩ ⟨CPre.blind, wd_pre hAB hP hD hS hA⟩ rfl rfl hl.1 rfl (lv_room (Nat.le_of_ble_eq_true rfl)) dX4_riseOn_57 ⟨Nat.zero_le _, Nat.zero_le _⟩) (fun r_42 u H locs h hP hD hS => ?_)
              refine lv_if_eq (tgt := 74) hx hb dX4_riseOn_60 (by decide) (fun c_43 => ?_) (fun c_43 => ?_)
              · have h := h.1 c_43
                exact B74 x6_32 x7_33 h H locs ls hP hD hS (lv_sub hl [1, 2, 3, 4, 5, 6, 7, 8] rfl)
              · have h := h.2 c_43
                refine lv_iload hx hb dX4_riseOn_63 (lv_at hl 7 rfl) ?_
                refine lv_aload_n hx hb dX4_riseOn_65 rfl (lv_at hl 3 rfl) ?_
                refine lv_iload hx hb dX4_riseOn_66 (lv_at hl 0 rfl) ?_
                refine lB_2 hx hb hAB hP hD hS hi2 h.1 dX4_riseOn_68 ?_
                have h := h.2
                refine va_mmax (rest := []) hx hb (by rw [hml]; exact hl.1.symm) hown (hts (.methodLink RX4 95 Lib.Math.max.name) (by decide +kernel)) (hts (.static Lib.Math.max.name) (by decide +kernel)) (hts (.initialized "java/lang/Math") (by decide +kernel)) (hts (.code Lib.Math.max.name Lib.Math.max.code 2 (some .int)) (by decide +kernel)) (Nat.le_of_ble_eq_true rfl) (Nat.le_of_ble_eq_true rfl) (Nat.zero_le _) (Nat.zero_le _) dX4_riseOn_69 ?_
                refine lv_topi (fun x6_44 e_45 => ?_)
                have h := h x6_44 e_45
                refine lv_istore (lv' := [(6, .int x6_44), (8, .int x8_40), (0, .ref (ad 38)), (1, .ref (bd i 1)), (2, .ref (bd i 2)), (3, .int x3_1), (4, .int x4_2), (5, .int x5_28), (7, .int x7_33)]) hx hb dX4_riseOn_72 hl (by decide) rfl (fun ls hl => ?_)
                exact B74 x6_44 x7_33 h H locs ls hP hD hS (lv_sub hl [2, 3, 4, 5, 6, 7, 0, 8] rfl)
        obtain ⟨n32, h⟩ := h
        refine L32 _ (fun x6_34 h H locs ls hP hD hS hl => ?_) n32 x6_30 0 h H locs ls hP hD hS (lv_sub hl [3, 4, 5, 6, 7, 2, 1, 0] rfl)
        refine lv_aload_n hx hb dX4_riseOn_80 rfl (lv_at hl 2 rfl) ?_
        refine lv_iload hx hb dX4_riseOn_81 (lv_at hl 5 rfl) ?_
        refine lB_2 hx hb hAB hP hD hS hi2 h.1 dX4_riseOn_83 ?_
        have h := h.2
        refine lv_iload hx hb dX4_riseOn_84 (lv_at hl 6 rfl) ?_
        refine lv_aload_n hx hb dX4_riseOn_86 rfl (lv_at hl 0 rfl) ?_
        refine lv_iload hx hb dX4_riseOn_87 (lv_at hl 5 rfl) ?_
        refine cl_i hD hS hA (va_runV (As := [.int x5_28]) (rest := [.int x6_34, .int (f2_4 (Int32.toNatClampNeg x5_28))]) ⟨hx, hb, hml, hown, hts⟩ (ct_X4_spanOn h H.size) (cwV 1 hts gX4_riseOn_X4_spanOn rfl rfl rfl (by decide +kernel) ⟨Nat.le_of_ble_eq_true rfl, Nat.le_of_ble_eq_true rfl⟩) ⟨CPre.blind, va_recv hAB.1 hP (ci := 4) (q0 := 38) rfl rfl, wd_pre hAB hP hD hS hA⟩ rfl rfl hl.1 rfl (lv_room (Nat.le_of_ble_eq_true rfl)) dX4_riseOn_89 ⟨Nat.zero_le _, Nat.zero_le _⟩) (fun r_46 u H locs h hP hD hS => ?_)
        refine lv_iadd hx hb dX4_riseOn_92 ?_
        refine va_mmax (rest := []) hx hb (by rw [hml]; exact hl.1.symm) hown (hts (.methodLink RX4 95 Lib.Math.max.name) (by decide +kernel)) (hts (.static Lib.Math.max.name) (by decide +kernel)) (hts (.initialized "java/lang/Math") (by decide +kernel)) (hts (.code Lib.Math.max.name Lib.Math.max.code 2 (some .int)) (by decide +kernel)) (Nat.le_of_ble_eq_true rfl) (Nat.le_of_ble_eq_true rfl) (Nat.zero_le _) (Nat.zero_le _) dX4_riseOn_93 ?_
        refine lv_topi (fun x7_47 e_48 => ?_)
        have h := h x7_47 e_48
        refine lv_istore (lv' := [(7, .int x7_47), (0, .ref (ad 38)), (1, .ref (bd i 1)), (2, .ref (bd i 2)), (3, .int x3_1), (4, .int x4_2), (5, .int x5_28), (6, .int x6_34)]) hx hb dX4_riseOn_96 hl (by decide) rfl (fun ls hl => ?_)
        refine lv_iload_n hx hb dX4_riseOn_98 rfl (lv_at hl 4 rfl) ?_
        refine lv_if_ne (tgt := 120) hx hb dX4_riseOn_99 (by decide) (fun c_49 => ?_) (fun c_49 => ?_)
        · have h := h.1 c_49
          exact B120 x4_2 x5_28 x6_34 x7_47 f1_3 f2_4 h H locs ls hP hD hS (lv_sub hl [1, 2, 3, 5, 6, 7, 0] rfl)
        · have h := h.2 c_49
          refine lv_iload hx hb dX4_riseOn_102 (lv_at hl 7 rfl) ?_
          refine lv_aload_n hx hb dX4_riseOn_104 rfl (lv_at hl 2 rfl) ?_
          refine lv_iload hx hb dX4_riseOn_105 (lv_at hl 6 rfl) ?_
          refine lB_1 hx hb hAB hP hD hS hi1 h.1 dX4_riseOn_107 ?_
          have h := h.2
          refine lv_icmp_gt (tgt := 120) hx hb dX4_riseOn_108 (by decide) (fun c_50 => ?_) (fun c_50 => ?_)
          · have h := h.1 c_50
            exact B120 x4_2 x5_28 x6_34 x7_47 f1_3 f2_4 h H locs ls hP hD hS (lv_sub hl [1, 2, 3, 5, 6, 7, 0] rfl)
          · have h := h.2 c_50
            refine lv_iload hx hb dX4_riseOn_111 (lv_at hl 0 rfl) ?_
            refine lv_aload_n hx hb dX4_riseOn_113 rfl (lv_at hl 3 rfl) ?_
            refine lv_iload hx hb dX4_riseOn_114 (lv_at hl 6 rfl) ?_
            refine lB_2 hx hb hAB hP hD hS hi2 h.1 dX4_riseOn_116 ?_
            have h := h.2
            refine lv_icmp_le (tgt := 124) hx hb dX4_riseOn_117 (by decide) (fun c_51 => ?_) (fun c_51 => ?_)
            · have h := h.1 c_51
              refine lv_iconst (v := 0) hx hb dX4_riseOn_124 (by decide) ?_
              exact B125 0 x4_2 x5_28 x6_34 x7_47 f1_3 f2_4 h H locs ls hP hD hS (lv_sub hl [1, 2, 3, 5, 6, 7, 0] rfl)
            · have h := h.2 c_51
              exact B120 x4_2 x5_28 x6_34 x7_47 f1_3 f2_4 h H locs ls hP hD hS (lv_sub hl [1, 2, 3, 5, 6, 7, 0] rfl)
  obtain ⟨n5, h⟩ := h
  refine L5 _ (fun x3_5 f1_6 f2_7 h H locs ls hP hD hS hl => ?_) n5 0 0 f1 f2 h H locs ls hP hD hS (lv_sub hl [2, 3, 4, 1, 0] rfl)
  refine lv_iload_n hx hb dX4_riseOn_144 rfl (lv_at hl 0 rfl) ?_
  exact rt_z (f1_6, f2_7) hQ hx hb hr hlk hP hD hS ⟨Nat.zero_le _, Nat.zero_le _⟩ h.1 dX4_riseOn_145 h.2
set_option maxHeartbeats 4000000 in
set_option maxRecDepth 100000 in
theorem ct_X4_riseOn_2 {l : Launch} {D : va_G} {cI cJ cZ cE cD cK : ClassId} {ad : Nat → Nat} {bd dd : Nat → Nat → Nat} {bHK : Int32} {bHP : Int32} {bPF : Int32} {bWC : Int32} {bRi : Int32} {bBe : Int32} {bFi : Int32} {bWa : Nat → Int32} {dB : Nat → Int32} {dS : Nat → Int32} {dN : Nat → Nat → Int64} {tC : Int32} {tKi : Nat → Int32} {tEa : Nat → Int32} {tHa : Nat → Int32} {tPr : Nat → Int32} {tEx : Nat → Int32} {tSt : Nat → Int32} {tTo : Nat → Int32} {tBe : Nat → Int32} {kC : Int32} {kKi : Nat → Int32} {kEa : Nat → Int32} {kHa : Nat → Int32} {kPr : Nat → Int32} {kEx : Nat → Int32} {kSt : Nat → Int32} {kTo : Nat → Int32} {kBe : Nat → Int32} {aC : Int32} {aWh : Nat → Int32} {aTa : Nat → Int32} {aWa : Nat → Int32} {iRo : Nat → Int32} {iEa : Nat → Int32} {iLa : Nat → Int32} {cC : Int32} {nC : Int32} {nFo : Int32} {nQd : Int32} {nRo : Nat → Int32} {nBe : Nat → Int32} {nEa : Nat → Int32} {nMi : Nat → Int32} {nHa : Nat → Int32} {nER : Nat → Int32} {nMR : Nat → Int32} {nTh : Nat → Int32} {nPa : Nat → Int32} {nOu : Nat → Int32} {nFr : Nat → Int32} {nQu : Nat → Int32} {eM : Nat} {eL : Nat → Int32} {eC : Nat → Int64} {eS : Nat → Int64} {eB : Nat → Nat → Int32} {eE : Nat → Nat → Int32} {eF : Nat → Nat → Int32} {eG : Nat → Nat → Int32} {i : Nat} {f1 : Nat → Int32} {f2 : Nat → Int32}  {Qp : Int32 → (Nat → Int32) → (Nat → Int32) → Prop} (hi1 : i < eM) (hi2 : i < eM)  (h : wp_X4_riseOn f1 f2 nC nRo nBe nEa nMi nHa nER nMR nTh Qp) : CTi l yX4_riseOn wsX4_riseOn rm_X4_riseOn D (tyL cI cJ cZ cE cD cK) [.ref (ad 38), .ref (bd i 3), .ref (bd i 4)] (WC cI cJ cE cD ad bd dd bHK bHP bPF bWC bRi bBe bFi bWa dB dS dN tC tKi tEa tHa tPr tEx tSt tTo tBe kC kKi kEa kHa kPr kEx kSt kTo kBe aC aWh aTa aWa iRo iEa iLa cC nC nFo nQd nRo nBe nEa nMi nHa nER nMR nTh nPa nOu nFr nQu eM eL eC eS eB eE (va_up eF i f1) (va_up eG i f2)) (fun (r : Int32) (u : (Nat → Int32) × (Nat → Int32)) => Qp r u.1 u.2) (fun u : (Nat → Int32) × (Nat → Int32) => (WC cI cJ cE cD ad bd dd bHK bHP bPF bWC bRi bBe bFi bWa dB dS dN tC tKi tEa tHa tPr tEx tSt tTo tBe kC kKi kEa kHa kPr kEx kSt kTo kBe aC aWh aTa aWa iRo iEa iLa cC nC nFo nQd nRo nBe nEa nMi nHa nER nMR nTh nPa nOu nFr nQu eM eL eC eS eB eE (va_up eF i u.1) (va_up eG i u.2))) 0 0 := by
  refine ent_i (cc := cX4_riseOn) (maxL := 9) (ret := (some .boolean)) (by decide) rfl (Nat.le_of_ble_eq_true rfl) ?_
  intro p e s m args below meth c A Q hQ hx hb hr hml hown hts hlk hA hAB hP hD hS ls hl
  have hown : s.vm.findClass RX4 = some m.cls := hown
  have hl : lv_has ls 9 [(0, .ref (ad 38)), (1, .ref (bd i 3)), (2, .ref (bd i 4))] := hl
  generalize hH : s.heap = H at hP ⊢
  have hS : va_S A s.heap H [] := by rw [← hH]; exact hS
  clear hH
  generalize ([] : List Loc) = locs at hS ⊢
  refine lv_iconst (v := 0) hx hb dX4_riseOn_0 (by decide) ?_
  refine lv_istore_n (lv' := [(3, .int 0), (0, .ref (ad 38)), (1, .ref (bd i 3)), (2, .ref (bd i 4))]) hx hb dX4_riseOn_1 rfl hl (by decide) rfl (fun ls hl => ?_)
  refine lv_iconst (v := 0) hx hb dX4_riseOn_2 (by decide) ?_
  refine lv_istore (lv' := [(4, .int 0), (3, .int 0), (0, .ref (ad 38)), (1, .ref (bd i 3)), (2, .ref (bd i 4))]) hx hb dX4_riseOn_3 hl (by decide) rfl (fun ls hl => ?_)
  have L5 : ∀ (x5 : (Int32) → (Nat → Int32) → (Nat → Int32) → Prop) (hk5 : ∀ (x3_5 : Int32) (f1_6 : Nat → Int32) (f2_7 : Nat → Int32), x5 x3_5 f1_6 f2_7 → ∀ (H : Heap) (locs : List Loc) (ls : Array Slot), va_P D vwCl (WC cI cJ cE cD ad bd dd bHK bHP bPF bWC bRi bBe bFi bWa dB dS dN tC tKi tEa tHa tPr tEx tSt tTo tBe kC kKi kEa kHa kPr kEx kSt kTo kBe aC aWh aTa aWa iRo iEa iLa cC nC nFo nQd nRo nBe nEa nMi nHa nER nMR nTh nPa nOu nFr nQu eM eL eC eS eB eE (va_up eF i f1_6) (va_up eG i f2_7)) H → va_D A (WC cI cJ cE cD ad bd dd bHK bHP bPF bWC bRi bBe bFi bWa dB dS dN tC tKi tEa tHa tPr tEx tSt tTo tBe kC kKi kEa kHa kPr kEx kSt kTo kBe aC aWh aTa aWa iRo iEa iLa cC nC nFo nQd nRo nBe nEa nMi nHa nER nMR nTh nPa nOu nFr nQu eM eL eC eS eB eE (va_up eF i f1_6) (va_up eG i f2_7)) → va_S A s.heap H locs → lv_has ls 9 [(3, .int x3_5)] → W p l e (headSpec wsX4_riseOn rm_X4_riseOn).room s m args below meth c H locs 0 0 Q (F0 m 144 ls [])) (n5 : Nat) (x3_1 : Int32) (x4_2 : Int32) (f1_3 : Nat → Int32) (f2_4 : Nat → Int32), wp_X4_riseOn_L5 nBe nC nER nEa nHa nMR nMi nRo nTh x5 n5 x3_1 x4_2 f1_3 f2_4 → ∀ (H : Heap) (locs : List Loc) (ls : Array Slot), va_P D vwCl (WC cI cJ cE cD ad bd dd bHK bHP bPF bWC bRi bBe bFi bWa dB dS dN tC tKi tEa tHa tPr tEx tSt tTo tBe kC kKi kEa kHa kPr kEx kSt kTo kBe aC aWh aTa aWa iRo iEa iLa cC nC nFo nQd nRo nBe nEa nMi nHa nER nMR nTh nPa nOu nFr nQu eM eL eC eS eB eE (va_up eF i f1_3) (va_up eG i f2_4)) H → va_D A (WC cI cJ cE cD ad bd dd bHK bHP bPF bWC bRi bBe bFi bWa dB dS dN tC tKi tEa tHa tPr tEx tSt tTo tBe kC kKi kEa kHa kPr kEx kSt kTo kBe aC aWh aTa aWa iRo iEa iLa cC nC nFo nQd nRo nBe nEa nMi nHa nER nMR nTh nPa nOu nFr nQu eM eL eC eS eB eE (va_up eF i f1_3) (va_up eG i f2_4)) → va_S A s.heap H locs → lv_has ls 9 [(0, .ref (ad 38)), (1, .ref (bd i 3)), (2, .ref (bd i 4)), (3, .int x3_1), (4, .int x4_2)] → W p l e (headSpec wsX4_riseOn rm_X4_riseOn).room s m args below meth c H locs 0 0 Q (F0 m 5 ls []) := by
    intro x5 hk5 n5
    induction n5 with
    | zero => intro x3_1 x4_2 f1_3 f2_4 h; exact False.elim h
    | succ n5 ih5 =>
      intro x3_1 x4_2 f1_3 f2_4 h H locs ls hP hD hS hl
      have B125 : ∀ (y_12 : Int32) (x4_8 : Int32) (x5_9 : Int32) (x6_10 : Int32) (x7_11 : Int32) (f1_13 : Nat → Int32) (f2_14 : Nat → Int32), wp_X4_riseOn_b125 (wp_X4_riseOn_L5 nBe nC nER nEa nHa nMR nMi nRo nTh x5 n5) y_12 x4_8 x5_9 x6_10 x7_11 f1_13 f2_14 → ∀ (H : Heap) (locs : List Loc) (ls : Array Slot), va_P D vwCl (WC cI cJ cE cD ad bd dd bHK bHP bPF bWC bRi bBe bFi bWa dB dS dN tC tKi tEa tHa tPr tEx tSt tTo tBe kC kKi kEa kHa kPr kEx kSt kTo kBe aC aWh aTa aWa iRo iEa iLa cC nC nFo nQd nRo nBe nEa nMi nHa nER nMR nTh nPa nOu nFr nQu eM eL eC eS eB eE (va_up eF i f1_13) (va_up eG i f2_14)) H → va_D A (WC cI cJ cE cD ad bd dd bHK bHP bPF bWC bRi bBe bFi bWa dB dS dN tC tKi tEa tHa tPr tEx tSt tTo tBe kC kKi kEa kHa kPr kEx kSt kTo kBe aC aWh aTa aWa iRo iEa iLa cC nC nFo nQd nRo nBe nEa nMi nHa nER nMR nTh nPa nOu nFr nQu eM eL eC eS eB eE (va_up eF i f1_13) (va_up eG i f2_14)) → va_S A s.heap H locs → lv_has ls 9 [(0, .ref (ad 38)), (1, .ref (bd i 3)), (2, .ref (bd i 4)), (4, .int x4_8), (5, .int x5_9), (6, .int x6_10), (7, .int x7_11)] → W p l e (headSpec wsX4_riseOn rm_X4_riseOn).room s m args below meth c H locs 0 0 Q (F0 m 125 ls [.int y_12]) := by
        intro y_12 x4_8 x5_9 x6_10 x7_11 f1_13 f2_14 h H locs ls hP hD hS hl
        refine lv_istore_n (lv' := [(3, .int y_12), (0, .ref (ad 38)), (1, .ref (bd i 3)), (2, .ref (bd i 4)), (4, .int x4_8), (5, .int x5_9), (6, .int x6_10), (7, .int x7_11)]) hx hb dX4_riseOn_125 rfl hl (by decide) rfl (fun ls hl => ?_)
        refine lv_aload_n hx hb dX4_riseOn_126 rfl (lv_at hl 2 rfl) ?_
        refine lv_iload hx hb dX4_riseOn_127 (lv_at hl 5 rfl) ?_
        refine lv_iload hx hb dX4_riseOn_129 (lv_at hl 6 rfl) ?_
        refine sB_3 hx hb hAB hP hD hS hi1 h.1 dX4_riseOn_131 (fun f1_15 H locs e_16 hP hD hS => ?_)
        have h := h.2
        have h := h f1_15 e_16
        refine lv_aload_n hx hb dX4_riseOn_132 rfl (lv_at hl 3 rfl) ?_
        refine lv_iload hx hb dX4_riseOn_133 (lv_at hl 5 rfl) ?_
        refine lv_iload hx hb dX4_riseOn_135 (lv_at hl 7 rfl) ?_
        refine sB_4 hx hb hAB hP hD hS hi2 h.1 dX4_riseOn_137 (fun f2_17 H locs e_18 hP hD hS => ?_)
        have h := h.2
        have h := h f2_17 e_18
        obtain ⟨x4_19, e_20⟩ : ∃ y : Int32, y = x4_8 + 1 := ⟨_, rfl⟩
        have h := h x4_19 e_20
        refine lv_iinc (v := x4_19) (lv' := [(4, .int x4_19), (3, .int y_12), (0, .ref (ad 38)), (1, .ref (bd i 3)), (2, .ref (bd i 4)), (5, .int x5_9), (6, .int x6_10), (7, .int x7_11)]) hx hb dX4_riseOn_138 hl (k := 4) rfl (by rw [e_20]; rfl) (by decide) rfl (fun ls hl => ?_)
        refine lv_goto (tgt := 5) hx hb dX4_riseOn_141 (by decide) ?_
        exact ih5 y_12 x4_19 f1_15 f2_17 h H locs ls hP hD hS (lv_sub hl [2, 3, 4, 1, 0] rfl)
      have B120 : ∀ (x4_21 : Int32) (x5_22 : Int32) (x6_23 : Int32) (x7_24 : Int32) (f1_25 : Nat → Int32) (f2_26 : Nat → Int32), wp_X4_riseOn_b120 (wp_X4_riseOn_L5 nBe nC nER nEa nHa nMR nMi nRo nTh x5 n5) x4_21 x5_22 x6_23 x7_24 f1_25 f2_26 → ∀ (H : Heap) (locs : List Loc) (ls : Array Slot), va_P D vwCl (WC cI cJ cE cD ad bd dd bHK bHP bPF bWC bRi bBe bFi bWa dB dS dN tC tKi tEa tHa tPr tEx tSt tTo tBe kC kKi kEa kHa kPr kEx kSt kTo kBe aC aWh aTa aWa iRo iEa iLa cC nC nFo nQd nRo nBe nEa nMi nHa nER nMR nTh nPa nOu nFr nQu eM eL eC eS eB eE (va_up eF i f1_25) (va_up eG i f2_26)) H → va_D A (WC cI cJ cE cD ad bd dd bHK bHP bPF bWC bRi bBe bFi bWa dB dS dN tC tKi tEa tHa tPr tEx tSt tTo tBe kC kKi kEa kHa kPr kEx kSt kTo kBe aC aWh aTa aWa iRo iEa iLa cC nC nFo nQd nRo nBe nEa nMi nHa nER nMR nTh nPa nOu nFr nQu eM eL eC eS eB eE (va_up eF i f1_25) (va_up eG i f2_26)) → va_S A s.heap H locs → lv_has ls 9 [(0, .ref (ad 38)), (1, .ref (bd i 3)), (2, .ref (bd i 4)), (4, .int x4_21), (5, .int x5_22), (6, .int x6_23), (7, .int x7_24)] → W p l e (headSpec wsX4_riseOn rm_X4_riseOn).room s m args below meth c H locs 0 0 Q (F0 m 120 ls []) := by
        intro x4_21 x5_22 x6_23 x7_24 f1_25 f2_26 h H locs ls hP hD hS hl
        refine lv_iconst (v := 1) hx hb dX4_riseOn_120 (by decide) ?_
        refine lv_goto (tgt := 125) hx hb dX4_riseOn_121 (by decide) ?_
        exact B125 1 x4_21 x5_22 x6_23 x7_24 f1_25 f2_26 h H locs ls hP hD hS (lv_sub hl [0, 1, 2, 3, 4, 5, 6] rfl)
      refine lv_iload hx hb dX4_riseOn_5 (lv_at hl 4 rfl) ?_
      refine lv_aload_n hx hb dX4_riseOn_7 rfl (lv_at hl 0 rfl) ?_
      refine va_get (D := D) (ci := 4) (C := RX4) (T := TX4) (N := 15) hx hb hts inn_X4_riseOn_4 hown hAB.1 hP 38 rfl rfl 0 (by decide) (hts (.fieldLink RX4 54 "BarnBench$Net" "count" "I") (by decide +kernel)) (fun _ h9 => h9) rfl dX4_riseOn_8 ?_
      refine lv_icmp_ge (tgt := 144) hx hb dX4_riseOn_11 (by decide) (fun c_27 => ?_) (fun c_27 => ?_)
      · have h := h.1 c_27
        exact hk5 x3_1 f1_3 f2_4 h H locs ls hP hD hS (lv_sub hl [3] rfl)
      · have h := h.2 c_27
        refine lv_aload_n hx hb dX4_riseOn_14 rfl (lv_at hl 0 rfl) ?_
        refine va_get (D := D) (ci := 4) (C := RX4) (T := TX4) (N := 15) hx hb hts inn_X4_riseOn_4 hown hAB.1 hP 38 rfl rfl 1 (by decide) (hts (.fieldLink RX4 9 "BarnBench$Net" "row" "[I") (by decide +kernel)) (fun _ h9 => h9) rfl dX4_riseOn_15 ?_
        refine lv_iload hx hb dX4_riseOn_18 (lv_at hl 4 rfl) ?_
        refine va_iald hx hb hAB.1 hP 39 0 rfl rfl h.1 dX4_riseOn_20 ?_
        have h := h.2
        refine lv_topi (fun x5_28 e_29 => ?_)
        have h := h x5_28 e_29
        refine lv_istore (lv' := [(5, .int x5_28), (0, .ref (ad 38)), (1, .ref (bd i 3)), (2, .ref (bd i 4)), (3, .int x3_1), (4, .int x4_2)]) hx hb dX4_riseOn_21 hl (by decide) rfl (fun ls hl => ?_)
        refine lv_aload_n hx hb dX4_riseOn_23 rfl (lv_at hl 2 rfl) ?_
        refine lv_iload hx hb dX4_riseOn_24 (lv_at hl 0 rfl) ?_
        refine lB_3 hx hb hAB hP hD hS hi1 h.1 dX4_riseOn_26 ?_
        have h := h.2
        refine lv_topi (fun x6_30 e_31 => ?_)
        have h := h x6_30 e_31
        refine lv_istore (lv' := [(6, .int x6_30), (5, .int x5_28), (0, .ref (ad 38)), (1, .ref (bd i 3)), (2, .ref (bd i 4)), (3, .int x3_1), (4, .int x4_2)]) hx hb dX4_riseOn_27 hl (by decide) rfl (fun ls hl => ?_)
        refine lv_iconst (v := 0) hx hb dX4_riseOn_29 (by decide) ?_
        refine lv_istore (lv' := [(7, .int 0), (6, .int x6_30), (5, .int x5_28), (0, .ref (ad 38)), (1, .ref (bd i 3)), (2, .ref (bd i 4)), (3, .int x3_1), (4, .int x4_2)]) hx hb dX4_riseOn_30 hl (by decide) rfl (fun ls hl => ?_)
        have L32 : ∀ (x32 : (Int32) → Prop) (hk32 : ∀ (x6_34 : Int32), x32 x6_34 → ∀ (H : Heap) (locs : List Loc) (ls : Array Slot), va_P D vwCl (WC cI cJ cE cD ad bd dd bHK bHP bPF bWC bRi bBe bFi bWa dB dS dN tC tKi tEa tHa tPr tEx tSt tTo tBe kC kKi kEa kHa kPr kEx kSt kTo kBe aC aWh aTa aWa iRo iEa iLa cC nC nFo nQd nRo nBe nEa nMi nHa nER nMR nTh nPa nOu nFr nQu eM eL eC eS eB eE (va_up eF i f1_3) (va_up eG i f2_4)) H → va_D A (WC cI cJ cE cD ad bd dd bHK bHP bPF bWC bRi bBe bFi bWa dB dS dN tC tKi tEa tHa tPr tEx tSt tTo tBe kC kKi kEa kHa kPr kEx kSt kTo kBe aC aWh aTa aWa iRo iEa iLa cC nC nFo nQd nRo nBe nEa nMi nHa nER nMR nTh nPa nOu nFr nQu eM eL eC eS eB eE (va_up eF i f1_3) (va_up eG i f2_4)) → va_S A s.heap H locs → lv_has ls 9 [(0, .ref (ad 38)), (1, .ref (bd i 3)), (2, .ref (bd i 4)), (3, .int x3_1), (4, .int x4_2), (5, .int x5_28), (6, .int x6_34)] → W p l e (headSpec wsX4_riseOn rm_X4_riseOn).room s m args below meth c H locs 0 0 Q (F0 m 80 ls [])) (n32 : Nat) (x6_32 : Int32) (x7_33 : Int32), wp_X4_riseOn_L32 nBe nRo x4_2 f2_4 x5_28 x32 n32 x6_32 x7_33 → ∀ (H : Heap) (locs : List Loc) (ls : Array Slot), va_P D vwCl (WC cI cJ cE cD ad bd dd bHK bHP bPF bWC bRi bBe bFi bWa dB dS dN tC tKi tEa tHa tPr tEx tSt tTo tBe kC kKi kEa kHa kPr kEx kSt kTo kBe aC aWh aTa aWa iRo iEa iLa cC nC nFo nQd nRo nBe nEa nMi nHa nER nMR nTh nPa nOu nFr nQu eM eL eC eS eB eE (va_up eF i f1_3) (va_up eG i f2_4)) H → va_D A (WC cI cJ cE cD ad bd dd bHK bHP bPF bWC bRi bBe bFi bWa dB dS dN tC tKi tEa tHa tPr tEx tSt tTo tBe kC kKi kEa kHa kPr kEx kSt kTo kBe aC aWh aTa aWa iRo iEa iLa cC nC nFo nQd nRo nBe nEa nMi nHa nER nMR nTh nPa nOu nFr nQu eM eL eC eS eB eE (va_up eF i f1_3) (va_up eG i f2_4)) → va_S A s.heap H locs → lv_has ls 9 [(0, .ref (ad 38)), (1, .ref (bd i 3)), (2, .ref (bd i 4)), (3, .int x3_1), (4, .int x4_2), (5, .int x5_28), (6, .int x6_32), (7, .int x7_33)] → W p l e (headSpec wsX4_riseOn rm_X4_riseOn).room s m args below meth c H locs 0 0 Q (F0 m 32 ls []) := by
          intro x32 hk32 n32
          induction n32 with
          | zero => intro x6_32 x7_33 h; exact False.elim h
          | succ n32 ih32 =>
            intro x6_32 x7_33 h H locs ls hP hD hS hl
            have B74 : ∀ (x6_35 : Int32) (x7_36 : Int32), wp_X4_riseOn_b74 (wp_X4_riseOn_L32 nBe nRo x4_2 f2_4 x5_28 x32 n32) x6_35 x7_36 → ∀ (H : Heap) (locs : List Loc) (ls : Array Slot), va_P D vwCl (WC cI cJ cE cD ad bd dd bHK bHP bPF bWC bRi bBe bFi bWa dB dS dN tC tKi tEa tHa tPr tEx tSt tTo tBe kC kKi kEa kHa kPr kEx kSt kTo kBe aC aWh aTa aWa iRo iEa iLa cC nC nFo nQd nRo nBe nEa nMi nHa nER nMR nTh nPa nOu nFr nQu eM eL eC eS eB eE (va_up eF i f1_3) (va_up eG i f2_4)) H → va_D A (WC cI cJ cE cD ad bd dd bHK bHP bPF bWC bRi bBe bFi bWa dB dS dN tC tKi tEa tHa tPr tEx tSt tTo tBe kC kKi kEa kHa kPr kEx kSt kTo kBe aC aWh aTa aWa iRo iEa iLa cC nC nFo nQd nRo nBe nEa nMi nHa nER nMR nTh nPa nOu nFr nQu eM eL eC eS eB eE (va_up eF i f1_3) (va_up eG i f2_4)) → va_S A s.heap H locs → lv_has ls 9 [(0, .ref (ad 38)), (1, .ref (bd i 3)), (2, .ref (bd i 4)), (3, .int x3_1), (4, .int x4_2), (5, .int x5_28), (6, .int x6_35), (7, .int x7_36)] → W p l e (headSpec wsX4_riseOn rm_X4_riseOn).room s m args below meth c H locs 0 0 Q (F0 m 74 ls []) := by
              intro x6_35 x7_36 h H locs ls hP hD hS hl
              obtain ⟨x7_37, e_38⟩ : ∃ y : Int32, y = x7_36 + 1 := ⟨_, rfl⟩
              have h := h x7_37 e_38
              refine lv_iinc (v := x7_37) (lv' := [(7, .int x7_37), (0, .ref (ad 38)), (1, .ref (bd i 3)), (2, .ref (bd i 4)), (3, .int x3_1), (4, .int x4_2), (5, .int x5_28), (6, .int x6_35)]) hx hb dX4_riseOn_74 hl (k := 7) rfl (by rw [e_38]; rfl) (by decide) rfl (fun ls hl => ?_)
              refine lv_goto (tgt := 32) hx hb dX4_riseOn_77 (by decide) ?_
              exact ih32 x6_35 x7_37 h H locs ls hP hD hS (lv_sub hl [1, 2, 3, 4, 5, 6, 7, 0] rfl)
            refine lv_iload hx hb dX4_riseOn_32 (lv_at hl 7 rfl) ?_
            refine lv_iload hx hb dX4_riseOn_34 (lv_at hl 4 rfl) ?_
            refine lv_icmp_ge (tgt := 80) hx hb dX4_riseOn_36 (by decide) (fun c_39 => ?_) (fun c_39 => ?_)
            · have h := h.1 c_39
              exact hk32 x6_32 h H locs ls hP hD hS (lv_sub hl [0, 1, 2, 3, 4, 5, 6] rfl)
            · have h := h.2 c_39
              refine lv_aload_n hx hb dX4_riseOn_39 rfl (lv_at hl 0 rfl) ?_
              refine va_get (D := D) (ci := 4) (C := RX4) (T := TX4) (N := 15) hx hb hts inn_X4_riseOn_4 hown hAB.1 hP 38 rfl rfl 1 (by decide) (hts (.fieldLink RX4 9 "BarnBench$Net" "row" "[I") (by decide +kernel)) (fun _ h9 => h9) rfl dX4_riseOn_40 ?_
              refine lv_iload hx hb dX4_riseOn_43 (lv_at hl 7 rfl) ?_
              refine va_iald hx hb hAB.1 hP 39 0 rfl rfl h.1 dX4_riseOn_45 ?_
              have h := h.2
              refine lv_topi (fun x8_40 e_41 => ?_)
              have h := h x8_40 e_41
              refine lv_istore (lv' := [(8, .int x8_40), (0, .ref (ad 38)), (1, .ref (bd i 3)), (2, .ref (bd i 4)), (3, .int x3_1), (4, .int x4_2), (5, .int x5_28), (6, .int x6_32), (7, .int x7_33)]) hx hb dX4_riseOn_46 hl (by decide) rfl (fun ls hl => ?_)
              refine lv_aload_n hx hb dX4_riseOn_48 rfl (lv_at hl 1 rfl) ?_
              refine va_get (D := D) (ci := 4) (C := RX4) (T := TX4) (N := 15) hx hb hts inn_X4_riseOn_4 hown hAB.1 hP 38 rfl rfl 2 (by decide) (hts (.fieldLink RX4 15 "BarnBench$Net" "before" "[I") (by decide +kernel)) (fun _ h9 => h9) rfl dX4_riseOn_49 ?_
              refine lv_iload hx hb dX4_riseOn_52 (lv_at hl 6 rfl) ?_
              refine va_iald hx hb hAB.1 hP 40 0 rfl rfl h.1 dX4_riseOn_54 ?_
              have h := h.2
              refine lv_iload hx hb dX4_riseOn_55 (lv_at hl 0 rfl) ?_
              refine cl_i hD hS hA (va_runSN (As := [.int (nBe (Int32.toNatClampNeg x5_28)), .int x8_40]) (rest := []) ⟨hx, hb, hml, hown, hts⟩ (ct_X7_hasBit h H.size) ⟨va_cnB 2 hts gX4_riseOn_X7_hasBit_n76 rfl rfl rfl (hAB.2.1 (.methodLinkNest RX4 76 yX7_hasBit RX7) (by decide +kernel)) (hts (.initialized RX7) (by decide +kernel)) (by decide +kernel) ⟨Nat.le_of_ble_eq_true rfl, Nat.le_of_ble_eq_true rfl⟩, (hts (.static yX7_hasBit) (by decide +kernel)), trivial⟩ ⟨CPre.blind, wd_pre hAB hP hD hS hA⟩ rfl rfl hl.1 rfl (lv_room (Nat.le_of_ble_eq_true rfl)) dX4_riseOn_57 ⟨Nat.zero_le _, Nat.zero_le _⟩) (fun r_42 u H locs h hP hD hS => ?_)
              refine lv_if_eq (tgt := 74) hx hb dX4_riseOn_60 (by decide) (fun c_43 => ?_) (fun c_43 => ?_)
              · have h := h.1 c_43
                exact B74 x6_32 x7_33 h H locs ls hP hD hS (lv_sub hl [1, 2, 3, 4, 5, 6, 7, 8] rfl)
              · have h := h.2 c_43
                refine lv_iload hx hb dX4_riseOn_63 (lv_at hl 7 rfl) ?_
                refine lv_aload_n hx hb dX4_riseOn_65 rfl (lv_at hl 3 rfl) ?_
                refine lv_iload hx hb dX4_riseOn_66 (lv_at hl 0 rfl) ?_
                refine lB_4 hx hb hAB hP hD hS hi2 h.1 dX4_riseOn_68 ?_
                have h := h.2
                refine va_mmax (rest := []) hx hb (by rw [hml]; exact hl.1.symm) hown (hts (.methodLink RX4 95 Lib.Math.max.name) (by decide +kernel)) (hts (.static Lib.Math.max.name) (by decide +kernel)) (hts (.initialized "java/lang/Math") (by decide +kernel)) (hts (.code Lib.Math.max.name Lib.Math.max.code 2 (some .int)) (by decide +kernel)) (Nat.le_of_ble_eq_true rfl) (Nat.le_of_ble_eq_true rfl) (Nat.zero_le _) (Nat.zero_le _) dX4_riseOn_69 ?_
                refine lv_topi (fun x6_44 e_45 => ?_)
                have h := h x6_44 e_45
                refine lv_istore (lv' := [(6, .int x6_44), (8, .int x8_40), (0, .ref (ad 38)), (1, .ref (bd i 3)), (2, .ref (bd i 4)), (3, .int x3_1), (4, .int x4_2), (5, .int x5_28), (7, .int x7_33)]) hx hb dX4_riseOn_72 hl (by decide) rfl (fun ls hl => ?_)
                exact B74 x6_44 x7_33 h H locs ls hP hD hS (lv_sub hl [2, 3, 4, 5, 6, 7, 0, 8] rfl)
        obtain ⟨n32, h⟩ := h
        refine L32 _ (fun x6_34 h H locs ls hP hD hS hl => ?_) n32 x6_30 0 h H locs ls hP hD hS (lv_sub hl [3, 4, 5, 6, 7, 2, 1, 0] rfl)
        refine lv_aload_n hx hb dX4_riseOn_80 rfl (lv_at hl 2 rfl) ?_
        refine lv_iload hx hb dX4_riseOn_81 (lv_at hl 5 rfl) ?_
        refine lB_4 hx hb hAB hP hD hS hi2 h.1 dX4_riseOn_83 ?_
        have h := h.2
        refine lv_iload hx hb dX4_riseOn_84 (lv_at hl 6 rfl) ?_
        refine lv_aload_n hx hb dX4_riseOn_86 rfl (lv_at hl 0 rfl) ?_
        refine lv_iload hx hb dX4_riseOn_87 (lv_at hl 5 rfl) ?_
        refine cl_i hD hS hA (va_runV (As := [.int x5_28]) (rest := [.int x6_34, .int (f2_4 (Int32.toNatClampNeg x5_28))]) ⟨hx, hb, hml, hown, hts⟩ (ct_X4_spanOn h H.size) (cwV 1 hts gX4_riseOn_X4_spanOn rfl rfl rfl (by decide +kernel) ⟨Nat.le_of_ble_eq_true rfl, Nat.le_of_ble_eq_true rfl⟩) ⟨CPre.blind, va_recv hAB.1 hP (ci := 4) (q0 := 38) rfl rfl, wd_pre hAB hP hD hS hA⟩ rfl rfl hl.1 rfl (lv_room (Nat.le_of_ble_eq_true rfl)) dX4_riseOn_89 ⟨Nat.zero_le _, Nat.zero_le _⟩) (fun r_46 u H locs h hP hD hS => ?_)
        refine lv_iadd hx hb dX4_riseOn_92 ?_
        refine va_mmax (rest := []) hx hb (by rw [hml]; exact hl.1.symm) hown (hts (.methodLink RX4 95 Lib.Math.max.name) (by decide +kernel)) (hts (.static Lib.Math.max.name) (by decide +kernel)) (hts (.initialized "java/lang/Math") (by decide +kernel)) (hts (.code Lib.Math.max.name Lib.Math.max.code 2 (some .int)) (by decide +kernel)) (Nat.le_of_ble_eq_true rfl) (Nat.le_of_ble_eq_true rfl) (Nat.zero_le _) (Nat.zero_le _) dX4_riseOn_93 ?_
        refine lv_topi (fun x7_47 e_48 => ?_)
        have h := h x7_47 e_48
        refine lv_istore (lv' := [(7, .int x7_47), (0, .ref (ad 38)), (1, .ref (bd i 3)), (2, .ref (bd i 4)), (3, .int x3_1), (4, .int x4_2), (5, .int x5_28), (6, .int x6_34)]) hx hb dX4_riseOn_96 hl (by decide) rfl (fun ls hl => ?_)
        refine lv_iload_n hx hb dX4_riseOn_98 rfl (lv_at hl 4 rfl) ?_
        refine lv_if_ne (tgt := 120) hx hb dX4_riseOn_99 (by decide) (fun c_49 => ?_) (fun c_49 => ?_)
        · have h := h.1 c_49
          exact B120 x4_2 x5_28 x6_34 x7_47 f1_3 f2_4 h H locs ls hP hD hS (lv_sub hl [1, 2, 3, 5, 6, 7, 0] rfl)
        · have h := h.2 c_49
          refine lv_iload hx hb dX4_riseOn_102 (lv_at hl 7 rfl) ?_
          refine lv_aload_n hx hb dX4_riseOn_104 rfl (lv_at hl 2 rfl) ?_
          refine lv_iload hx hb dX4_riseOn_105 (lv_at hl 6 rfl) ?_
          refine lB_3 hx hb hAB hP hD hS hi1 h.1 dX4_riseOn_107 ?_
          have h := h.2
          refine lv_icmp_gt (tgt := 120) hx hb dX4_riseOn_108 (by decide) (fun c_50 => ?_) (fun c_50 => ?_)
          · have h := h.1 c_50
            exact B120 x4_2 x5_28 x6_34 x7_47 f1_3 f2_4 h H locs ls hP hD hS (lv_sub hl [1, 2, 3, 5, 6, 7, 0] rfl)
          · have h := h.2 c_50
            refine lv_iload hx hb dX4_riseOn_111 (lv_at hl 0 rfl) ?_
            refine lv_aload_n hx hb dX4_riseOn_113 rfl (lv_at hl 3 rfl) ?_
            refine lv_iload hx hb dX4_riseOn_114 (lv_at hl 6 rfl) ?_
            refine lB_4 hx hb hAB hP hD hS hi2 h.1 dX4_riseOn_116 ?_
            have h := h.2
            refine lv_icmp_le (tgt := 124) hx hb dX4_riseOn_117 (by decide) (fun c_51 => ?_) (fun c_51 => ?_)
            · have h := h.1 c_51
              refine lv_iconst (v := 0) hx hb dX4_riseOn_124 (by decide) ?_
              exact B125 0 x4_2 x5_28 x6_34 x7_47 f1_3 f2_4 h H locs ls hP hD hS (lv_sub hl [1, 2, 3, 5, 6, 7, 0] rfl)
            · have h := h.2 c_51
              exact B120 x4_2 x5_28 x6_34 x7_47 f1_3 f2_4 h H locs ls hP hD hS (lv_sub hl [1, 2, 3, 5, 6, 7, 0] rfl)
  obtain ⟨n5, h⟩ := h
  refine L5 _ (fun x3_5 f1_6 f2_7 h H locs ls hP hD hS hl => ?_) n5 0 0 f1 f2 h H locs ls hP hD hS (lv_sub hl [2, 3, 4, 1, 0] rfl)
  refine lv_iload_n hx hb dX4_riseOn_144 rfl (lv_at hl 0 rfl) ?_
  exact rt_z (f1_6, f2_7) hQ hx hb hr hlk hP hD hS ⟨Nat.zero_le _, Nat.zero_le _⟩ h.1 dX4_riseOn_145 h.2
def wp_X4_riseOff_b137 (k10 : (Int32) → (Int32) → (Nat → Int32) → (Nat → Int32) → Prop) (x3_10 : Int32) (x4_11 : Int32) (f1_12 : Nat → Int32) (f2_13 : Nat → Int32) : Prop :=
  ∀ x4_14 : Int32, x4_14 = x4_11 + (-1) → k10 x3_10 x4_14 f1_12 f2_13
def wp_X4_riseOff_b131 (k82 : (Int32) → (Int32) → (Nat → Int32) → Prop) (x3_29 : Int32) (x7_30 : Int32) (f2_31 : Nat → Int32) : Prop :=
  ∀ x7_32 : Int32, x7_32 = x7_30 + 1 → k82 x3_29 x7_32 f2_31
def wp_X4_riseOff_L82 (nPa : Nat → Int32) (nRo : Nat → Int32) (x4_16 : Int32) (x5_17 : Int32) (x6_18 : Int32) (x82 : (Int32) → (Nat → Int32) → Prop) : Nat → (Int32) → (Int32) → (Nat → Int32) → Prop
  | 0, _, _, _ => False
  | n82 + 1, x3_24, x7_25, f2_26 =>
  ((x4_16 ≤ x7_25 → x82 x3_24 f2_26) ∧
   (¬ x4_16 ≤ x7_25 → vp_in x7_25 12 ∧ ∀ x8_35 : Int32, x8_35 = (nRo (Int32.toNatClampNeg x7_25)) → vp_in ((x8_35 * 12) + x5_17) 144 ∧ (((nPa (Int32.toNatClampNeg ((x8_35 * 12) + x5_17))) ≤ 0 → wp_X4_riseOff_b131 (wp_X4_riseOff_L82 nPa nRo x4_16 x5_17 x6_18 x82 n82) x3_24 x7_25 f2_26) ∧
   (¬ (nPa (Int32.toNatClampNeg ((x8_35 * 12) + x5_17))) ≤ 0 → vp_in x8_35 12 ∧ ((x6_18 ≤ (f2_26 (Int32.toNatClampNeg x8_35)) → wp_X4_riseOff_b131 (wp_X4_riseOff_L82 nPa nRo x4_16 x5_17 x6_18 x82 n82) x3_24 x7_25 f2_26) ∧
   (¬ x6_18 ≤ (f2_26 (Int32.toNatClampNeg x8_35)) → vp_in x8_35 12 ∧ ∀ f2_39 : Nat → Int32, f2_39 = upd f2_26 (Int32.toNatClampNeg x8_35) x6_18 → wp_X4_riseOff_b131 (wp_X4_riseOff_L82 nPa nRo x4_16 x5_17 x6_18 x82 n82) 1 x7_25 f2_39))))))
def wp_X4_riseOff_b72 (nPa : Nat → Int32) (nRo : Nat → Int32) (k10 : (Int32) → (Int32) → (Nat → Int32) → (Nat → Int32) → Prop) (y_19 : Int32) (x4_16 : Int32) (x5_17 : Int32) (x6_18 : Int32) (f1_20 : Nat → Int32) (f2_21 : Nat → Int32) : Prop :=
  vp_in x5_17 12 ∧ ∀ f1_22 : Nat → Int32, f1_22 = upd f1_20 (Int32.toNatClampNeg x5_17) x6_18 → (∃ n82 : Nat, wp_X4_riseOff_L82 nPa nRo x4_16 x5_17 x6_18 (fun (x3_27 : Int32) (f2_28 : Nat → Int32) => wp_X4_riseOff_b137 k10 x3_27 x4_16 f1_22 f2_28) n82 y_19 0 f2_21)
def wp_X4_riseOff_b67 (nPa : Nat → Int32) (nRo : Nat → Int32) (k10 : (Int32) → (Int32) → (Nat → Int32) → (Nat → Int32) → Prop) (x4_41 : Int32) (x5_42 : Int32) (x6_43 : Int32) (f1_44 : Nat → Int32) (f2_45 : Nat → Int32) : Prop :=
  wp_X4_riseOff_b72 nPa nRo k10 1 x4_41 x5_42 x6_43 f1_44 f2_45
def wp_X4_riseOff_L10 (nER : Nat → Int32) (nEa : Nat → Int32) (nHa : Nat → Int32) (nMR : Nat → Int32) (nMi : Nat → Int32) (nPa : Nat → Int32) (nRo : Nat → Int32) (nTh : Nat → Int32) (x10 : (Int32) → (Nat → Int32) → (Nat → Int32) → Prop) : Nat → (Int32) → (Int32) → (Nat → Int32) → (Nat → Int32) → Prop
  | 0, _, _, _, _ => False
  | n10 + 1, x3_3, x4_4, f1_5, f2_6 =>
  ((x4_4 < 0 → x10 x3_3 f1_5 f2_6) ∧
   (¬ x4_4 < 0 → vp_in x4_4 12 ∧ ∀ x5_47 : Int32, x5_47 = (nRo (Int32.toNatClampNeg x4_4)) → vp_in x5_47 12 ∧ (((nTh (Int32.toNatClampNeg x5_47)) ≤ 0 → wp_X4_riseOff_b137 (wp_X4_riseOff_L10 nER nEa nHa nMR nMi nPa nRo nTh x10 n10) x3_3 x4_4 f1_5 f2_6) ∧
   (¬ (nTh (Int32.toNatClampNeg x5_47)) ≤ 0 → vp_in x5_47 12 ∧ vp_in x5_47 12 ∧ wp_X4_spanOff nEa nMi nHa nER nMR nTh x5_47 (fun (r_50 : Int32) => ∀ x6_51 : Int32, x6_51 = (if (f1_5 (Int32.toNatClampNeg x5_47)) < ((f2_6 (Int32.toNatClampNeg x5_47)) - r_50) then ((f2_6 (Int32.toNatClampNeg x5_47)) - r_50) else (f1_5 (Int32.toNatClampNeg x5_47))) → ((¬ x3_3 = 0 → wp_X4_riseOff_b67 nPa nRo (wp_X4_riseOff_L10 nER nEa nHa nMR nMi nPa nRo nTh x10 n10) x4_4 x5_47 x6_51 f1_5 f2_6) ∧
   (x3_3 = 0 → vp_in x5_47 12 ∧ ((x6_51 ≤ (f1_5 (Int32.toNatClampNeg x5_47)) → wp_X4_riseOff_b72 nPa nRo (wp_X4_riseOff_L10 nER nEa nHa nMR nMi nPa nRo nTh x10 n10) 0 x4_4 x5_47 x6_51 f1_5 f2_6) ∧
   (¬ x6_51 ≤ (f1_5 (Int32.toNatClampNeg x5_47)) → wp_X4_riseOff_b67 nPa nRo (wp_X4_riseOff_L10 nER nEa nHa nMR nMi nPa nRo nTh x10 n10) x4_4 x5_47 x6_51 f1_5 f2_6)))))))))
def wp_X4_riseOff (f1 : Nat → Int32) (f2 : Nat → Int32) (nC : Int32) (nRo : Nat → Int32) (nEa : Nat → Int32) (nMi : Nat → Int32) (nHa : Nat → Int32) (nER : Nat → Int32) (nMR : Nat → Int32) (nTh : Nat → Int32) (nPa : Nat → Int32)  (Qp : Int32 → (Nat → Int32) → (Nat → Int32) → Prop) : Prop :=
  ∀ x4_1 : Int32, x4_1 = (nC - 1) → (∃ n10 : Nat, wp_X4_riseOff_L10 nER nEa nHa nMR nMi nPa nRo nTh (fun (x3_7 : Int32) (f1_8 : Nat → Int32) (f2_9 : Nat → Int32) => (x3_7 = 0 ∨ x3_7 = 1) ∧ Qp x3_7 f1_8 f2_9) n10 0 x4_1 (f1) (f2))
theorem inn_X4_riseOff_4 : ∀ w ∈ u_ws RX4 TX4 15, w ∈ wsX4_riseOff := fun _ h => List.mem_cons_of_mem _ (List.mem_append_right _ h)
def rm_X4_riseOff : Room := { frames := 1, cells := 0, slots := 0, locals := 23 }
set_option maxHeartbeats 4000000 in
set_option maxRecDepth 100000 in
theorem ct_X4_riseOff_1 {l : Launch} {D : va_G} {cI cJ cZ cE cD cK : ClassId} {ad : Nat → Nat} {bd dd : Nat → Nat → Nat} {bHK : Int32} {bHP : Int32} {bPF : Int32} {bWC : Int32} {bRi : Int32} {bBe : Int32} {bFi : Int32} {bWa : Nat → Int32} {dB : Nat → Int32} {dS : Nat → Int32} {dN : Nat → Nat → Int64} {tC : Int32} {tKi : Nat → Int32} {tEa : Nat → Int32} {tHa : Nat → Int32} {tPr : Nat → Int32} {tEx : Nat → Int32} {tSt : Nat → Int32} {tTo : Nat → Int32} {tBe : Nat → Int32} {kC : Int32} {kKi : Nat → Int32} {kEa : Nat → Int32} {kHa : Nat → Int32} {kPr : Nat → Int32} {kEx : Nat → Int32} {kSt : Nat → Int32} {kTo : Nat → Int32} {kBe : Nat → Int32} {aC : Int32} {aWh : Nat → Int32} {aTa : Nat → Int32} {aWa : Nat → Int32} {iRo : Nat → Int32} {iEa : Nat → Int32} {iLa : Nat → Int32} {cC : Int32} {nC : Int32} {nFo : Int32} {nQd : Int32} {nRo : Nat → Int32} {nBe : Nat → Int32} {nEa : Nat → Int32} {nMi : Nat → Int32} {nHa : Nat → Int32} {nER : Nat → Int32} {nMR : Nat → Int32} {nTh : Nat → Int32} {nPa : Nat → Int32} {nOu : Nat → Int32} {nFr : Nat → Int32} {nQu : Nat → Int32} {eM : Nat} {eL : Nat → Int32} {eC : Nat → Int64} {eS : Nat → Int64} {eB : Nat → Nat → Int32} {eE : Nat → Nat → Int32} {eF : Nat → Nat → Int32} {eG : Nat → Nat → Int32} {i : Nat} {f1 : Nat → Int32} {f2 : Nat → Int32}  {Qp : Int32 → (Nat → Int32) → (Nat → Int32) → Prop} (hi1 : i < eM) (hi2 : i < eM)  (h : wp_X4_riseOff f1 f2 nC nRo nEa nMi nHa nER nMR nTh nPa Qp) : CTi l yX4_riseOff wsX4_riseOff rm_X4_riseOff D (tyL cI cJ cZ cE cD cK) [.ref (ad 38), .ref (bd i 1), .ref (bd i 2)] (WC cI cJ cE cD ad bd dd bHK bHP bPF bWC bRi bBe bFi bWa dB dS dN tC tKi tEa tHa tPr tEx tSt tTo tBe kC kKi kEa kHa kPr kEx kSt kTo kBe aC aWh aTa aWa iRo iEa iLa cC nC nFo nQd nRo nBe nEa nMi nHa nER nMR nTh nPa nOu nFr nQu eM eL eC eS (va_up eB i f1) (va_up eE i f2) eF eG) (fun (r : Int32) (u : (Nat → Int32) × (Nat → Int32)) => Qp r u.1 u.2) (fun u : (Nat → Int32) × (Nat → Int32) => (WC cI cJ cE cD ad bd dd bHK bHP bPF bWC bRi bBe bFi bWa dB dS dN tC tKi tEa tHa tPr tEx tSt tTo tBe kC kKi kEa kHa kPr kEx kSt kTo kBe aC aWh aTa aWa iRo iEa iLa cC nC nFo nQd nRo nBe nEa nMi nHa nER nMR nTh nPa nOu nFr nQu eM eL eC eS (va_up eB i u.1) (va_up eE i u.2) eF eG)) 0 0 := by
  refine ent_i (cc := cX4_riseOff) (maxL := 9) (ret := (some .boolean)) (by decide) rfl (Nat.le_of_ble_eq_true rfl) ?_
  intro p e s m args below meth c A Q hQ hx hb hr hml hown hts hlk hA hAB hP hD hS ls hl
  have hown : s.vm.findClass RX4 = some m.cls := hown
  have hl : lv_has ls 9 [(0, .ref (ad 38)), (1, .ref (bd i 1)), (2, .ref (bd i 2))] := hl
  generalize hH : s.heap = H at hP ⊢
  have hS : va_S A s.heap H [] := by rw [← hH]; exact hS
  clear hH
  generalize ([] : List Loc) = locs at hS ⊢
  refine lv_iconst (v := 0) hx hb dX4_riseOff_0 (by decide) ?_
  refine lv_istore_n (lv' := [(3, .int 0), (0, .ref (ad 38)), (1, .ref (bd i 1)), (2, .ref (bd i 2))]) hx hb dX4_riseOff_1 rfl hl (by decide) rfl (fun ls hl => ?_)
  refine lv_aload_n hx hb dX4_riseOff_2 rfl (lv_at hl 1 rfl) ?_
  refine va_get (D := D) (ci := 4) (C := RX4) (T := TX4) (N := 15) hx hb hts inn_X4_riseOff_4 hown hAB.1 hP 38 rfl rfl 0 (by decide) (hts (.fieldLink RX4 54 "BarnBench$Net" "count" "I") (by decide +kernel)) (fun _ h9 => h9) rfl dX4_riseOff_3 ?_
  refine lv_iconst (v := 1) hx hb dX4_riseOff_6 (by decide) ?_
  refine lv_isub hx hb dX4_riseOff_7 ?_
  refine lv_topi (fun x4_1 e_2 => ?_)
  have h := h x4_1 e_2
  refine lv_istore (lv' := [(4, .int x4_1), (3, .int 0), (0, .ref (ad 38)), (1, .ref (bd i 1)), (2, .ref (bd i 2))]) hx hb dX4_riseOff_8 hl (by decide) rfl (fun ls hl => ?_)
  have L10 : ∀ (x10 : (Int32) → (Nat → Int32) → (Nat → Int32) → Prop) (hk10 : ∀ (x3_7 : Int32) (f1_8 : Nat → Int32) (f2_9 : Nat → Int32), x10 x3_7 f1_8 f2_9 → ∀ (H : Heap) (locs : List Loc) (ls : Array Slot), va_P D vwCl (WC cI cJ cE cD ad bd dd bHK bHP bPF bWC bRi bBe bFi bWa dB dS dN tC tKi tEa tHa tPr tEx tSt tTo tBe kC kKi kEa kHa kPr kEx kSt kTo kBe aC aWh aTa aWa iRo iEa iLa cC nC nFo nQd nRo nBe nEa nMi nHa nER nMR nTh nPa nOu nFr nQu eM eL eC eS (va_up eB i f1_8) (va_up eE i f2_9) eF eG) H → va_D A (WC cI cJ cE cD ad bd dd bHK bHP bPF bWC bRi bBe bFi bWa dB dS dN tC tKi tEa tHa tPr tEx tSt tTo tBe kC kKi kEa kHa kPr kEx kSt kTo kBe aC aWh aTa aWa iRo iEa iLa cC nC nFo nQd nRo nBe nEa nMi nHa nER nMR nTh nPa nOu nFr nQu eM eL eC eS (va_up eB i f1_8) (va_up eE i f2_9) eF eG) → va_S A s.heap H locs → lv_has ls 9 [(3, .int x3_7)] → W p l e (headSpec wsX4_riseOff rm_X4_riseOff).room s m args below meth c H locs 0 0 Q (F0 m 143 ls [])) (n10 : Nat) (x3_3 : Int32) (x4_4 : Int32) (f1_5 : Nat → Int32) (f2_6 : Nat → Int32), wp_X4_riseOff_L10 nER nEa nHa nMR nMi nPa nRo nTh x10 n10 x3_3 x4_4 f1_5 f2_6 → ∀ (H : Heap) (locs : List Loc) (ls : Array Slot), va_P D vwCl (WC cI cJ cE cD ad bd dd bHK bHP bPF bWC bRi bBe bFi bWa dB dS dN tC tKi tEa tHa tPr tEx tSt tTo tBe kC kKi kEa kHa kPr kEx kSt kTo kBe aC aWh aTa aWa iRo iEa iLa cC nC nFo nQd nRo nBe nEa nMi nHa nER nMR nTh nPa nOu nFr nQu eM eL eC eS (va_up eB i f1_5) (va_up eE i f2_6) eF eG) H → va_D A (WC cI cJ cE cD ad bd dd bHK bHP bPF bWC bRi bBe bFi bWa dB dS dN tC tKi tEa tHa tPr tEx tSt tTo tBe kC kKi kEa kHa kPr kEx kSt kTo kBe aC aWh aTa aWa iRo iEa iLa cC nC nFo nQd nRo nBe nEa nMi nHa nER nMR nTh nPa nOu nFr nQu eM eL eC eS (va_up eB i f1_5) (va_up eE i f2_6) eF eG) → va_S A s.heap H locs → lv_has ls 9 [(0, .ref (ad 38)), (1, .ref (bd i 1)), (2, .ref (bd i 2)), (3, .int x3_3), (4, .int x4_4)] → W p l e (headSpec wsX4_riseOff rm_X4_riseOff).room s m args below meth c H locs 0 0 Q (F0 m 10 ls []) := by
    intro x10 hk10 n10
    induction n10 with
    | zero => intro x3_3 x4_4 f1_5 f2_6 h; exact False.elim h
    | succ n10 ih10 =>
      intro x3_3 x4_4 f1_5 f2_6 h H locs ls hP hD hS hl
      have B137 : ∀ (x3_10 : Int32) (x4_11 : Int32) (f1_12 : Nat → Int32) (f2_13 : Nat → Int32), wp_X4_riseOff_b137 (wp_X4_riseOff_L10 nER nEa nHa nMR nMi nPa nRo nTh x10 n10) x3_10 x4_11 f1_12 f2_13 → ∀ (H : Heap) (locs : List Loc) (ls : Array Slot), va_P D vwCl (WC cI cJ cE cD ad bd dd bHK bHP bPF bWC bRi bBe bFi bWa dB dS dN tC tKi tEa tHa tPr tEx tSt tTo tBe kC kKi kEa kHa kPr kEx kSt kTo kBe aC aWh aTa aWa iRo iEa iLa cC nC nFo nQd nRo nBe nEa nMi nHa nER nMR nTh nPa nOu nFr nQu eM eL eC eS (va_up eB i f1_12) (va_up eE i f2_13) eF eG) H → va_D A (WC cI cJ cE cD ad bd dd bHK bHP bPF bWC bRi bBe bFi bWa dB dS dN tC tKi tEa tHa tPr tEx tSt tTo tBe kC kKi kEa kHa kPr kEx kSt kTo kBe aC aWh aTa aWa iRo iEa iLa cC nC nFo nQd nRo nBe nEa nMi nHa nER nMR nTh nPa nOu nFr nQu eM eL eC eS (va_up eB i f1_12) (va_up eE i f2_13) eF eG) → va_S A s.heap H locs → lv_has ls 9 [(0, .ref (ad 38)), (1, .ref (bd i 1)), (2, .ref (bd i 2)), (3, .int x3_10), (4, .int x4_11)] → W p l e (headSpec wsX4_riseOff rm_X4_riseOff).room s m args below meth c H locs 0 0 Q (F0 m 137 ls []) := by
        intro x3_10 x4_11 f1_12 f2_13 h H locs ls hP hD hS hl
        obtain ⟨x4_14, e_15⟩ : ∃ y : Int32, y = x4_11 + (-1) := ⟨_, rfl⟩
        have h := h x4_14 e_15
        refine lv_iinc (v := x4_14) (lv' := [(4, .int x4_14), (0, .ref (ad 38)), (1, .ref (bd i 1)), (2, .ref (bd i 2)), (3, .int x3_10)]) hx hb dX4_riseOff_137 hl (k := 4) rfl (by rw [e_15]; rfl) (by decide) rfl (fun ls hl => ?_)
        refine lv_goto (tgt := 10) hx hb dX4_riseOff_140 (by decide) ?_
        exact ih10 x3_10 x4_14 f1_12 f2_13 h H locs ls hP hD hS (lv_sub hl [1, 2, 3, 4, 0] rfl)
      have B72 : ∀ (y_19 : Int32) (x4_16 : Int32) (x5_17 : Int32) (x6_18 : Int32) (f1_20 : Nat → Int32) (f2_21 : Nat → Int32), wp_X4_riseOff_b72 nPa nRo (wp_X4_riseOff_L10 nER nEa nHa nMR nMi nPa nRo nTh x10 n10) y_19 x4_16 x5_17 x6_18 f1_20 f2_21 → ∀ (H : Heap) (locs : List Loc) (ls : Array Slot), va_P D vwCl (WC cI cJ cE cD ad bd dd bHK bHP bPF bWC bRi bBe bFi bWa dB dS dN tC tKi tEa tHa tPr tEx tSt tTo tBe kC kKi kEa kHa kPr kEx kSt kTo kBe aC aWh aTa aWa iRo iEa iLa cC nC nFo nQd nRo nBe nEa nMi nHa nER nMR nTh nPa nOu nFr nQu eM eL eC eS (va_up eB i f1_20) (va_up eE i f2_21) eF eG) H → va_D A (WC cI cJ cE cD ad bd dd bHK bHP bPF bWC bRi bBe bFi bWa dB dS dN tC tKi tEa tHa tPr tEx tSt tTo tBe kC kKi kEa kHa kPr kEx kSt kTo kBe aC aWh aTa aWa iRo iEa iLa cC nC nFo nQd nRo nBe nEa nMi nHa nER nMR nTh nPa nOu nFr nQu eM eL eC eS (va_up eB i f1_20) (va_up eE i f2_21) eF eG) → va_S A s.heap H locs → lv_has ls 9 [(0, .ref (ad 38)), (1, .ref (bd i 1)), (2, .ref (bd i 2)), (4, .int x4_16), (5, .int x5_17), (6, .int x6_18)] → W p l e (headSpec wsX4_riseOff rm_X4_riseOff).room s m args below meth c H locs 0 0 Q (F0 m 72 ls [.int y_19]) := by
        intro y_19 x4_16 x5_17 x6_18 f1_20 f2_21 h H locs ls hP hD hS hl
        refine lv_istore_n (lv' := [(3, .int y_19), (0, .ref (ad 38)), (1, .ref (bd i 1)), (2, .ref (bd i 2)), (4, .int x4_16), (5, .int x5_17), (6, .int x6_18)]) hx hb dX4_riseOff_72 rfl hl (by decide) rfl (fun ls hl => ?_)
        refine lv_aload_n hx hb dX4_riseOff_73 rfl (lv_at hl 2 rfl) ?_
        refine lv_iload hx hb dX4_riseOff_74 (lv_at hl 5 rfl) ?_
        refine lv_iload hx hb dX4_riseOff_76 (lv_at hl 6 rfl) ?_
        refine sB_1 hx hb hAB hP hD hS hi1 h.1 dX4_riseOff_78 (fun f1_22 H locs e_23 hP hD hS => ?_)
        have h := h.2
        have h := h f1_22 e_23
        refine lv_iconst (v := 0) hx hb dX4_riseOff_79 (by decide) ?_
        refine lv_istore (lv' := [(7, .int 0), (3, .int y_19), (0, .ref (ad 38)), (1, .ref (bd i 1)), (2, .ref (bd i 2)), (4, .int x4_16), (5, .int x5_17), (6, .int x6_18)]) hx hb dX4_riseOff_80 hl (by decide) rfl (fun ls hl => ?_)
        have L82 : ∀ (x82 : (Int32) → (Nat → Int32) → Prop) (hk82 : ∀ (x3_27 : Int32) (f2_28 : Nat → Int32), x82 x3_27 f2_28 → ∀ (H : Heap) (locs : List Loc) (ls : Array Slot), va_P D vwCl (WC cI cJ cE cD ad bd dd bHK bHP bPF bWC bRi bBe bFi bWa dB dS dN tC tKi tEa tHa tPr tEx tSt tTo tBe kC kKi kEa kHa kPr kEx kSt kTo kBe aC aWh aTa aWa iRo iEa iLa cC nC nFo nQd nRo nBe nEa nMi nHa nER nMR nTh nPa nOu nFr nQu eM eL eC eS (va_up eB i f1_22) (va_up eE i f2_28) eF eG) H → va_D A (WC cI cJ cE cD ad bd dd bHK bHP bPF bWC bRi bBe bFi bWa dB dS dN tC tKi tEa tHa tPr tEx tSt tTo tBe kC kKi kEa kHa kPr kEx kSt kTo kBe aC aWh aTa aWa iRo iEa iLa cC nC nFo nQd nRo nBe nEa nMi nHa nER nMR nTh nPa nOu nFr nQu eM eL eC eS (va_up eB i f1_22) (va_up eE i f2_28) eF eG) → va_S A s.heap H locs → lv_has ls 9 [(0, .ref (ad 38)), (1, .ref (bd i 1)), (2, .ref (bd i 2)), (3, .int x3_27), (4, .int x4_16)] → W p l e (headSpec wsX4_riseOff rm_X4_riseOff).room s m args below meth c H locs 0 0 Q (F0 m 137 ls [])) (n82 : Nat) (x3_24 : Int32) (x7_25 : Int32) (f2_26 : Nat → Int32), wp_X4_riseOff_L82 nPa nRo x4_16 x5_17 x6_18 x82 n82 x3_24 x7_25 f2_26 → ∀ (H : Heap) (locs : List Loc) (ls : Array Slot), va_P D vwCl (WC cI cJ cE cD ad bd dd bHK bHP bPF bWC bRi bBe bFi bWa dB dS dN tC tKi tEa tHa tPr tEx tSt tTo tBe kC kKi kEa kHa kPr kEx kSt kTo kBe aC aWh aTa aWa iRo iEa iLa cC nC nFo nQd nRo nBe nEa nMi nHa nER nMR nTh nPa nOu nFr nQu eM eL eC eS (va_up eB i f1_22) (va_up eE i f2_26) eF eG) H → va_D A (WC cI cJ cE cD ad bd dd bHK bHP bPF bWC bRi bBe bFi bWa dB dS dN tC tKi tEa tHa tPr tEx tSt tTo tBe kC kKi kEa kHa kPr kEx kSt kTo kBe aC aWh aTa aWa iRo iEa iLa cC nC nFo nQd nRo nBe nEa nMi nHa nER nMR nTh nPa nOu nFr nQu eM eL eC eS (va_up eB i f1_22) (va_up eE i f2_26) eF eG) → va_S A s.heap H locs → lv_has ls 9 [(0, .ref (ad 38)), (1, .ref (bd i 1)), (2, .ref (bd i 2)), (3, .int x3_24), (4, .int x4_16), (5, .int x5_17), (6, .int x6_18), (7, .int x7_25)] → W p l e (headSpec wsX4_riseOff rm_X4_riseOff).room s m args below meth c H locs 0 0 Q (F0 m 82 ls []) := by
          intro x82 hk82 n82
          induction n82 with
          | zero => intro x3_24 x7_25 f2_26 h; exact False.elim h
          | succ n82 ih82 =>
            intro x3_24 x7_25 f2_26 h H locs ls hP hD hS hl
            have B131 : ∀ (x3_29 : Int32) (x7_30 : Int32) (f2_31 : Nat → Int32), wp_X4_riseOff_b131 (wp_X4_riseOff_L82 nPa nRo x4_16 x5_17 x6_18 x82 n82) x3_29 x7_30 f2_31 → ∀ (H : Heap) (locs : List Loc) (ls : Array Slot), va_P D vwCl (WC cI cJ cE cD ad bd dd bHK bHP bPF bWC bRi bBe bFi bWa dB dS dN tC tKi tEa tHa tPr tEx tSt tTo tBe kC kKi kEa kHa kPr kEx kSt kTo kBe aC aWh aTa aWa iRo iEa iLa cC nC nFo nQd nRo nBe nEa nMi nHa nER nMR nTh nPa nOu nFr nQu eM eL eC eS (va_up eB i f1_22) (va_up eE i f2_31) eF eG) H → va_D A (WC cI cJ cE cD ad bd dd bHK bHP bPF bWC bRi bBe bFi bWa dB dS dN tC tKi tEa tHa tPr tEx tSt tTo tBe kC kKi kEa kHa kPr kEx kSt kTo kBe aC aWh aTa aWa iRo iEa iLa cC nC nFo nQd nRo nBe nEa nMi nHa nER nMR nTh nPa nOu nFr nQu eM eL eC eS (va_up eB i f1_22) (va_up eE i f2_31) eF eG) → va_S A s.heap H locs → lv_has ls 9 [(0, .ref (ad 38)), (1, .ref (bd i 1)), (2, .ref (bd i 2)), (3, .int x3_29), (4, .int x4_16), (5, .int x5_17), (6, .int x6_18), (7, .int x7_30)] → W p l e (headSpec wsX4_riseOff rm_X4_riseOff).room s m args below meth c H locs 0 0 Q (F0 m 131 ls []) := by
              intro x3_29 x7_30 f2_31 h H locs ls hP hD hS hl
              obtain ⟨x7_32, e_33⟩ : ∃ y : Int32, y = x7_30 + 1 := ⟨_, rfl⟩
              have h := h x7_32 e_33
              refine lv_iinc (v := x7_32) (lv' := [(7, .int x7_32), (0, .ref (ad 38)), (1, .ref (bd i 1)), (2, .ref (bd i 2)), (3, .int x3_29), (4, .int x4_16), (5, .int x5_17), (6, .int x6_18)]) hx hb dX4_riseOff_131 hl (k := 7) rfl (by rw [e_33]; rfl) (by decide) rfl (fun ls hl => ?_)
              refine lv_goto (tgt := 82) hx hb dX4_riseOff_134 (by decide) ?_
              exact ih82 x3_29 x7_32 f2_31 h H locs ls hP hD hS (lv_sub hl [1, 2, 3, 4, 5, 6, 7, 0] rfl)
            refine lv_iload hx hb dX4_riseOff_82 (lv_at hl 7 rfl) ?_
            refine lv_iload hx hb dX4_riseOff_84 (lv_at hl 4 rfl) ?_
            refine lv_icmp_ge (tgt := 137) hx hb dX4_riseOff_86 (by decide) (fun c_34 => ?_) (fun c_34 => ?_)
            · have h := h.1 c_34
              exact hk82 x3_24 f2_26 h H locs ls hP hD hS (lv_sub hl [0, 1, 2, 3, 4] rfl)
            · have h := h.2 c_34
              refine lv_aload_n hx hb dX4_riseOff_89 rfl (lv_at hl 0 rfl) ?_
              refine va_get (D := D) (ci := 4) (C := RX4) (T := TX4) (N := 15) hx hb hts inn_X4_riseOff_4 hown hAB.1 hP 38 rfl rfl 1 (by decide) (hts (.fieldLink RX4 9 "BarnBench$Net" "row" "[I") (by decide +kernel)) (fun _ h9 => h9) rfl dX4_riseOff_90 ?_
              refine lv_iload hx hb dX4_riseOff_93 (lv_at hl 7 rfl) ?_
              refine va_iald hx hb hAB.1 hP 39 0 rfl rfl h.1 dX4_riseOff_95 ?_
              have h := h.2
              refine lv_topi (fun x8_35 e_36 => ?_)
              have h := h x8_35 e_36
              refine lv_istore (lv' := [(8, .int x8_35), (0, .ref (ad 38)), (1, .ref (bd i 1)), (2, .ref (bd i 2)), (3, .int x3_24), (4, .int x4_16), (5, .int x5_17), (6, .int x6_18), (7, .int x7_25)]) hx hb dX4_riseOff_96 hl (by decide) rfl (fun ls hl => ?_)
              refine lv_aload_n hx hb dX4_riseOff_98 rfl (lv_at hl 1 rfl) ?_
              refine va_get (D := D) (ci := 4) (C := RX4) (T := TX4) (N := 15) hx hb hts inn_X4_riseOff_4 hown hAB.1 hP 38 rfl rfl 10 (by decide) (hts (.fieldLink RX4 36 "BarnBench$Net" "passed" "[I") (by decide +kernel)) (fun _ h9 => h9) rfl dX4_riseOff_99 ?_
              refine lv_iload hx hb dX4_riseOff_102 (lv_at hl 0 rfl) ?_
              refine lv_bipush (v := 12) hx hb dX4_riseOff_104 (by decide) ?_
              refine lv_imul hx hb dX4_riseOff_106 ?_
              refine lv_iload hx hb dX4_riseOff_107 (lv_at hl 6 rfl) ?_
              refine lv_iadd hx hb dX4_riseOff_109 ?_
              refine va_iald hx hb hAB.1 hP 47 0 rfl rfl h.1 dX4_riseOff_110 ?_
              have h := h.2
              refine lv_if_le (tgt := 131) hx hb dX4_riseOff_111 (by decide) (fun c_37 => ?_) (fun c_37 => ?_)
              · have h := h.1 c_37
                exact B131 x3_24 x7_25 f2_26 h H locs ls hP hD hS (lv_sub hl [1, 2, 3, 4, 5, 6, 7, 8] rfl)
              · have h := h.2 c_37
                refine lv_aload_n hx hb dX4_riseOff_114 rfl (lv_at hl 3 rfl) ?_
                refine lv_iload hx hb dX4_riseOff_115 (lv_at hl 0 rfl) ?_
                refine lB_2 hx hb hAB hP hD hS hi2 h.1 dX4_riseOff_117 ?_
                have h := h.2
                refine lv_iload hx hb dX4_riseOff_118 (lv_at hl 7 rfl) ?_
                refine lv_icmp_ge (tgt := 131) hx hb dX4_riseOff_120 (by decide) (fun c_38 => ?_) (fun c_38 => ?_)
                · have h := h.1 c_38
                  exact B131 x3_24 x7_25 f2_26 h H locs ls hP hD hS (lv_sub hl [1, 2, 3, 4, 5, 6, 7, 8] rfl)
                · have h := h.2 c_38
                  refine lv_aload_n hx hb dX4_riseOff_123 rfl (lv_at hl 3 rfl) ?_
                  refine lv_iload hx hb dX4_riseOff_124 (lv_at hl 0 rfl) ?_
                  refine lv_iload hx hb dX4_riseOff_126 (lv_at hl 7 rfl) ?_
                  refine sB_2 hx hb hAB hP hD hS hi2 h.1 dX4_riseOff_128 (fun f2_39 H locs e_40 hP hD hS => ?_)
                  have h := h.2
                  have h := h f2_39 e_40
                  refine lv_iconst (v := 1) hx hb dX4_riseOff_129 (by decide) ?_
                  refine lv_istore_n (lv' := [(3, .int 1), (8, .int x8_35), (0, .ref (ad 38)), (1, .ref (bd i 1)), (2, .ref (bd i 2)), (4, .int x4_16), (5, .int x5_17), (6, .int x6_18), (7, .int x7_25)]) hx hb dX4_riseOff_130 rfl hl (by decide) rfl (fun ls hl => ?_)
                  exact B131 1 x7_25 f2_39 h H locs ls hP hD hS (lv_sub hl [2, 3, 4, 0, 5, 6, 7, 8] rfl)
        obtain ⟨n82, h⟩ := h
        refine L82 _ (fun x3_27 f2_28 h H locs ls hP hD hS hl => ?_) n82 y_19 0 f2_21 h H locs ls hP hD hS (lv_sub hl [2, 3, 4, 1, 5, 6, 7, 0] rfl)
        exact B137 x3_27 x4_16 f1_22 f2_28 h H locs ls hP hD hS (lv_sub hl [0, 1, 2, 3, 4] rfl)
      have B67 : ∀ (x4_41 : Int32) (x5_42 : Int32) (x6_43 : Int32) (f1_44 : Nat → Int32) (f2_45 : Nat → Int32), wp_X4_riseOff_b67 nPa nRo (wp_X4_riseOff_L10 nER nEa nHa nMR nMi nPa nRo nTh x10 n10) x4_41 x5_42 x6_43 f1_44 f2_45 → ∀ (H : Heap) (locs : List Loc) (ls : Array Slot), va_P D vwCl (WC cI cJ cE cD ad bd dd bHK bHP bPF bWC bRi bBe bFi bWa dB dS dN tC tKi tEa tHa tPr tEx tSt tTo tBe kC kKi kEa kHa kPr kEx kSt kTo kBe aC aWh aTa aWa iRo iEa iLa cC nC nFo nQd nRo nBe nEa nMi nHa nER nMR nTh nPa nOu nFr nQu eM eL eC eS (va_up eB i f1_44) (va_up eE i f2_45) eF eG) H → va_D A (WC cI cJ cE cD ad bd dd bHK bHP bPF bWC bRi bBe bFi bWa dB dS dN tC tKi tEa tHa tPr tEx tSt tTo tBe kC kKi kEa kHa kPr kEx kSt kTo kBe aC aWh aTa aWa iRo iEa iLa cC nC nFo nQd nRo nBe nEa nMi nHa nER nMR nTh nPa nOu nFr nQu eM eL eC eS (va_up eB i f1_44) (va_up eE i f2_45) eF eG) → va_S A s.heap H locs → lv_has ls 9 [(0, .ref (ad 38)), (1, .ref (bd i 1)), (2, .ref (bd i 2)), (4, .int x4_41), (5, .int x5_42), (6, .int x6_43)] → W p l e (headSpec wsX4_riseOff rm_X4_riseOff).room s m args below meth c H locs 0 0 Q (F0 m 67 ls []) := by
        intro x4_41 x5_42 x6_43 f1_44 f2_45 h H locs ls hP hD hS hl
        refine lv_iconst (v := 1) hx hb dX4_riseOff_67 (by decide) ?_
        refine lv_goto (tgt := 72) hx hb dX4_riseOff_68 (by decide) ?_
        exact B72 1 x4_41 x5_42 x6_43 f1_44 f2_45 h H locs ls hP hD hS (lv_sub hl [0, 1, 2, 3, 4, 5] rfl)
      refine lv_iload hx hb dX4_riseOff_10 (lv_at hl 4 rfl) ?_
      refine lv_if_lt (tgt := 143) hx hb dX4_riseOff_12 (by decide) (fun c_46 => ?_) (fun c_46 => ?_)
      · have h := h.1 c_46
        exact hk10 x3_3 f1_5 f2_6 h H locs ls hP hD hS (lv_sub hl [3] rfl)
      · have h := h.2 c_46
        refine lv_aload_n hx hb dX4_riseOff_15 rfl (lv_at hl 0 rfl) ?_
        refine va_get (D := D) (ci := 4) (C := RX4) (T := TX4) (N := 15) hx hb hts inn_X4_riseOff_4 hown hAB.1 hP 38 rfl rfl 1 (by decide) (hts (.fieldLink RX4 9 "BarnBench$Net" "row" "[I") (by decide +kernel)) (fun _ h9 => h9) rfl dX4_riseOff_16 ?_
        refine lv_iload hx hb dX4_riseOff_19 (lv_at hl 4 rfl) ?_
        refine va_iald hx hb hAB.1 hP 39 0 rfl rfl h.1 dX4_riseOff_21 ?_
        have h := h.2
        refine lv_topi (fun x5_47 e_48 => ?_)
        have h := h x5_47 e_48
        refine lv_istore (lv' := [(5, .int x5_47), (0, .ref (ad 38)), (1, .ref (bd i 1)), (2, .ref (bd i 2)), (3, .int x3_3), (4, .int x4_4)]) hx hb dX4_riseOff_22 hl (by decide) rfl (fun ls hl => ?_)
        refine lv_aload_n hx hb dX4_riseOff_24 rfl (lv_at hl 1 rfl) ?_
        refine va_get (D := D) (ci := 4) (C := RX4) (T := TX4) (N := 15) hx hb hts inn_X4_riseOff_4 hown hAB.1 hP 38 rfl rfl 9 (by decide) (hts (.fieldLink RX4 33 "BarnBench$Net" "through" "[I") (by decide +kernel)) (fun _ h9 => h9) rfl dX4_riseOff_25 ?_
        refine lv_iload hx hb dX4_riseOff_28 (lv_at hl 0 rfl) ?_
        refine va_iald hx hb hAB.1 hP 46 0 rfl rfl h.1 dX4_riseOff_30 ?_
        have h := h.2
        refine lv_if_le (tgt := 137) hx hb dX4_riseOff_31 (by decide) (fun c_49 => ?_) (fun c_49 => ?_)
        · have h := h.1 c_49
          exact B137 x3_3 x4_4 f1_5 f2_6 h H locs ls hP hD hS (lv_sub hl [1, 2, 3, 4, 5] rfl)
        · have h := h.2 c_49
          refine lv_aload_n hx hb dX4_riseOff_34 rfl (lv_at hl 2 rfl) ?_
          refine lv_iload hx hb dX4_riseOff_35 (lv_at hl 0 rfl) ?_
          refine lB_1 hx hb hAB hP hD hS hi1 h.1 dX4_riseOff_37 ?_
          have h := h.2
          refine lv_aload_n hx hb dX4_riseOff_38 rfl (lv_at hl 3 rfl) ?_
          refine lv_iload hx hb dX4_riseOff_39 (lv_at hl 0 rfl) ?_
          refine lB_2 hx hb hAB hP hD hS hi2 h.1 dX4_riseOff_41 ?_
          have h := h.2
          refine lv_aload_n hx hb dX4_riseOff_42 rfl (lv_at hl 1 rfl) ?_
          refine lv_iload hx hb dX4_riseOff_43 (lv_at hl 0 rfl) ?_
          refine cl_i hD hS hA (va_runV (As := [.int x5_47]) (rest := [.int (f2_6 (Int32.toNatClampNeg x5_47)), .int (f1_5 (Int32.toNatClampNeg x5_47))]) ⟨hx, hb, hml, hown, hts⟩ (ct_X4_spanOff h H.size) (cwV 1 hts gX4_riseOff_X4_spanOff rfl rfl rfl (by decide +kernel) ⟨Nat.le_of_ble_eq_true rfl, Nat.le_of_ble_eq_true rfl⟩) ⟨CPre.blind, va_recv hAB.1 hP (ci := 4) (q0 := 38) rfl rfl, wd_pre hAB hP hD hS hA⟩ rfl rfl hl.1 rfl (lv_room (Nat.le_of_ble_eq_true rfl)) dX4_riseOff_45 ⟨Nat.zero_le _, Nat.zero_le _⟩) (fun r_50 u H locs h hP hD hS => ?_)
          refine lv_isub hx hb dX4_riseOff_48 ?_
          refine va_mmax (rest := []) hx hb (by rw [hml]; exact hl.1.symm) hown (hts (.methodLink RX4 95 Lib.Math.max.name) (by decide +kernel)) (hts (.static Lib.Math.max.name) (by decide +kernel)) (hts (.initialized "java/lang/Math") (by decide +kernel)) (hts (.code Lib.Math.max.name Lib.Math.max.code 2 (some .int)) (by decide +kernel)) (Nat.le_of_ble_eq_true rfl) (Nat.le_of_ble_eq_true rfl) (Nat.zero_le _) (Nat.zero_le _) dX4_riseOff_49 ?_
          refine lv_topi (fun x6_51 e_52 => ?_)
          have h := h x6_51 e_52
          refine lv_istore (lv' := [(6, .int x6_51), (5, .int x5_47), (0, .ref (ad 38)), (1, .ref (bd i 1)), (2, .ref (bd i 2)), (3, .int x3_3), (4, .int x4_4)]) hx hb dX4_riseOff_52 hl (by decide) rfl (fun ls hl => ?_)
          refine lv_iload_n hx hb dX4_riseOff_54 rfl (lv_at hl 5 rfl) ?_
          refine lv_if_ne (tgt := 67) hx hb dX4_riseOff_55 (by decide) (fun c_53 => ?_) (fun c_53 => ?_)
          · have h := h.1 c_53
            exact B67 x4_4 x5_47 x6_51 f1_5 f2_6 h H locs ls hP hD hS (lv_sub hl [2, 3, 4, 6, 1, 0] rfl)
          · have h := h.2 c_53
            refine lv_iload hx hb dX4_riseOff_58 (lv_at hl 0 rfl) ?_
            refine lv_aload_n hx hb dX4_riseOff_60 rfl (lv_at hl 3 rfl) ?_
            refine lv_iload hx hb dX4_riseOff_61 (lv_at hl 1 rfl) ?_
            refine lB_1 hx hb hAB hP hD hS hi1 h.1 dX4_riseOff_63 ?_
            have h := h.2
            refine lv_icmp_le (tgt := 71) hx hb dX4_riseOff_64 (by decide) (fun c_54 => ?_) (fun c_54 => ?_)
            · have h := h.1 c_54
              refine lv_iconst (v := 0) hx hb dX4_riseOff_71 (by decide) ?_
              exact B72 0 x4_4 x5_47 x6_51 f1_5 f2_6 h H locs ls hP hD hS (lv_sub hl [2, 3, 4, 6, 1, 0] rfl)
            · have h := h.2 c_54
              exact B67 x4_4 x5_47 x6_51 f1_5 f2_6 h H locs ls hP hD hS (lv_sub hl [2, 3, 4, 6, 1, 0] rfl)
  obtain ⟨n10, h⟩ := h
  refine L10 _ (fun x3_7 f1_8 f2_9 h H locs ls hP hD hS hl => ?_) n10 0 x4_1 f1 f2 h H locs ls hP hD hS (lv_sub hl [2, 3, 4, 1, 0] rfl)
  refine lv_iload_n hx hb dX4_riseOff_143 rfl (lv_at hl 0 rfl) ?_
  exact rt_z (f1_8, f2_9) hQ hx hb hr hlk hP hD hS ⟨Nat.zero_le _, Nat.zero_le _⟩ h.1 dX4_riseOff_144 h.2
set_option maxHeartbeats 4000000 in
set_option maxRecDepth 100000 in
theorem ct_X4_riseOff_2 {l : Launch} {D : va_G} {cI cJ cZ cE cD cK : ClassId} {ad : Nat → Nat} {bd dd : Nat → Nat → Nat} {bHK : Int32} {bHP : Int32} {bPF : Int32} {bWC : Int32} {bRi : Int32} {bBe : Int32} {bFi : Int32} {bWa : Nat → Int32} {dB : Nat → Int32} {dS : Nat → Int32} {dN : Nat → Nat → Int64} {tC : Int32} {tKi : Nat → Int32} {tEa : Nat → Int32} {tHa : Nat → Int32} {tPr : Nat → Int32} {tEx : Nat → Int32} {tSt : Nat → Int32} {tTo : Nat → Int32} {tBe : Nat → Int32} {kC : Int32} {kKi : Nat → Int32} {kEa : Nat → Int32} {kHa : Nat → Int32} {kPr : Nat → Int32} {kEx : Nat → Int32} {kSt : Nat → Int32} {kTo : Nat → Int32} {kBe : Nat → Int32} {aC : Int32} {aWh : Nat → Int32} {aTa : Nat → Int32} {aWa : Nat → Int32} {iRo : Nat → Int32} {iEa : Nat → Int32} {iLa : Nat → Int32} {cC : Int32} {nC : Int32} {nFo : Int32} {nQd : Int32} {nRo : Nat → Int32} {nBe : Nat → Int32} {nEa : Nat → Int32} {nMi : Nat → Int32} {nHa : Nat → Int32} {nER : Nat → Int32} {nMR : Nat → Int32} {nTh : Nat → Int32} {nPa : Nat → Int32} {nOu : Nat → Int32} {nFr : Nat → Int32} {nQu : Nat → Int32} {eM : Nat} {eL : Nat → Int32} {eC : Nat → Int64} {eS : Nat → Int64} {eB : Nat → Nat → Int32} {eE : Nat → Nat → Int32} {eF : Nat → Nat → Int32} {eG : Nat → Nat → Int32} {i : Nat} {f1 : Nat → Int32} {f2 : Nat → Int32}  {Qp : Int32 → (Nat → Int32) → (Nat → Int32) → Prop} (hi1 : i < eM) (hi2 : i < eM)  (h : wp_X4_riseOff f1 f2 nC nRo nEa nMi nHa nER nMR nTh nPa Qp) : CTi l yX4_riseOff wsX4_riseOff rm_X4_riseOff D (tyL cI cJ cZ cE cD cK) [.ref (ad 38), .ref (bd i 3), .ref (bd i 4)] (WC cI cJ cE cD ad bd dd bHK bHP bPF bWC bRi bBe bFi bWa dB dS dN tC tKi tEa tHa tPr tEx tSt tTo tBe kC kKi kEa kHa kPr kEx kSt kTo kBe aC aWh aTa aWa iRo iEa iLa cC nC nFo nQd nRo nBe nEa nMi nHa nER nMR nTh nPa nOu nFr nQu eM eL eC eS eB eE (va_up eF i f1) (va_up eG i f2)) (fun (r : Int32) (u : (Nat → Int32) × (Nat → Int32)) => Qp r u.1 u.2) (fun u : (Nat → Int32) × (Nat → Int32) => (WC cI cJ cE cD ad bd dd bHK bHP bPF bWC bRi bBe bFi bWa dB dS dN tC tKi tEa tHa tPr tEx tSt tTo tBe kC kKi kEa kHa kPr kEx kSt kTo kBe aC aWh aTa aWa iRo iEa iLa cC nC nFo nQd nRo nBe nEa nMi nHa nER nMR nTh nPa nOu nFr nQu eM eL eC eS eB eE (va_up eF i u.1) (va_up eG i u.2))) 0 0 := by
  refine ent_i (cc := cX4_riseOff) (maxL := 9) (ret := (some .boolean)) (by decide) rfl (Nat.le_of_ble_eq_true rfl) ?_
  intro p e s m args below meth c A Q hQ hx hb hr hml hown hts hlk hA hAB hP hD hS ls hl
  have hown : s.vm.findClass RX4 = some m.cls := hown
  have hl : lv_has ls 9 [(0, .ref (ad 38)), (1, .ref (bd i 3)), (2, .ref (bd i 4))] := hl
  generalize hH : s.heap = H at hP ⊢
  have hS : va_S A s.heap H [] := by rw [← hH]; exact hS
  clear hH
  generalize ([] : List Loc) = locs at hS ⊢
  refine lv_iconst (v := 0) hx hb dX4_riseOff_0 (by decide) ?_
  refine lv_istore_n (lv' := [(3, .int 0), (0, .ref (ad 38)), (1, .ref (bd i 3)), (2, .ref (bd i 4))]) hx hb dX4_riseOff_1 rfl hl (by decide) rfl (fun ls hl => ?_)
  refine lv_aload_n hx hb dX4_riseOff_2 rfl (lv_at hl 1 rfl) ?_
  refine va_get (D := D) (ci := 4) (C := RX4) (T := TX4) (N := 15) hx hb hts inn_X4_riseOff_4 hown hAB.1 hP 38 rfl rfl 0 (by decide) (hts (.fieldLink RX4 54 "BarnBench$Net" "count" "I") (by decide +kernel)) (fun _ h9 => h9) rfl dX4_riseOff_3 ?_
  refine lv_iconst (v := 1) hx hb dX4_riseOff_6 (by decide) ?_
  refine lv_isub hx hb dX4_riseOff_7 ?_
  refine lv_topi (fun x4_1 e_2 => ?_)
  have h := h x4_1 e_2
  refine lv_istore (lv' := [(4, .int x4_1), (3, .int 0), (0, .ref (ad 38)), (1, .ref (bd i 3)), (2, .ref (bd i 4))]) hx hb dX4_riseOff_8 hl (by decide) rfl (fun ls hl => ?_)
  have L10 : ∀ (x10 : (Int32) → (Nat → Int32) → (Nat → Int32) → Prop) (hk10 : ∀ (x3_7 : Int32) (f1_8 : Nat → Int32) (f2_9 : Nat → Int32), x10 x3_7 f1_8 f2_9 → ∀ (H : Heap) (locs : List Loc) (ls : Array Slot), va_P D vwCl (WC cI cJ cE cD ad bd dd bHK bHP bPF bWC bRi bBe bFi bWa dB dS dN tC tKi tEa tHa tPr tEx tSt tTo tBe kC kKi kEa kHa kPr kEx kSt kTo kBe aC aWh aTa aWa iRo iEa iLa cC nC nFo nQd nRo nBe nEa nMi nHa nER nMR nTh nPa nOu nFr nQu eM eL eC eS eB eE (va_up eF i f1_8) (va_up eG i f2_9)) H → va_D A (WC cI cJ cE cD ad bd dd bHK bHP bPF bWC bRi bBe bFi bWa dB dS dN tC tKi tEa tHa tPr tEx tSt tTo tBe kC kKi kEa kHa kPr kEx kSt kTo kBe aC aWh aTa aWa iRo iEa iLa cC nC nFo nQd nRo nBe nEa nMi nHa nER nMR nTh nPa nOu nFr nQu eM eL eC eS eB eE (va_up eF i f1_8) (va_up eG i f2_9)) → va_S A s.heap H locs → lv_has ls 9 [(3, .int x3_7)] → W p l e (headSpec wsX4_riseOff rm_X4_riseOff).room s m args below meth c H locs 0 0 Q (F0 m 143 ls [])) (n10 : Nat) (x3_3 : Int32) (x4_4 : Int32) (f1_5 : Nat → Int32) (f2_6 : Nat → Int32), wp_X4_riseOff_L10 nER nEa nHa nMR nMi nPa nRo nTh x10 n10 x3_3 x4_4 f1_5 f2_6 → ∀ (H : Heap) (locs : List Loc) (ls : Array Slot), va_P D vwCl (WC cI cJ cE cD ad bd dd bHK bHP bPF bWC bRi bBe bFi bWa dB dS dN tC tKi tEa tHa tPr tEx tSt tTo tBe kC kKi kEa kHa kPr kEx kSt kTo kBe aC aWh aTa aWa iRo iEa iLa cC nC nFo nQd nRo nBe nEa nMi nHa nER nMR nTh nPa nOu nFr nQu eM eL eC eS eB eE (va_up eF i f1_5) (va_up eG i f2_6)) H → va_D A (WC cI cJ cE cD ad bd dd bHK bHP bPF bWC bRi bBe bFi bWa dB dS dN tC tKi tEa tHa tPr tEx tSt tTo tBe kC kKi kEa kHa kPr kEx kSt kTo kBe aC aWh aTa aWa iRo iEa iLa cC nC nFo nQd nRo nBe nEa nMi nHa nER nMR nTh nPa nOu nFr nQu eM eL eC eS eB eE (va_up eF i f1_5) (va_up eG i f2_6)) → va_S A s.heap H locs → lv_has ls 9 [(0, .ref (ad 38)), (1, .ref (bd i 3)), (2, .ref (bd i 4)), (3, .int x3_3), (4, .int x4_4)] → W p l e (headSpec wsX4_riseOff rm_X4_riseOff).room s m args below meth c H locs 0 0 Q (F0 m 10 ls []) := by
    intro x10 hk10 n10
    induction n10 with
    | zero => intro x3_3 x4_4 f1_5 f2_6 h; exact False.elim h
    | succ n10 ih10 =>
      intro x3_3 x4_4 f1_5 f2_6 h H locs ls hP hD hS hl
      have B137 : ∀ (x3_10 : Int32) (x4_11 : Int32) (f1_12 : Nat → Int32) (f2_13 : Nat → Int32), wp_X4_riseOff_b137 (wp_X4_riseOff_L10 nER nEa nHa nMR nMi nPa nRo nTh x10 n10) x3_10 x4_11 f1_12 f2_13 → ∀ (H : Heap) (locs : List Loc) (ls : Array Slot), va_P D vwCl (WC cI cJ cE cD ad bd dd bHK bHP bPF bWC bRi bBe bFi bWa dB dS dN tC tKi tEa tHa tPr tEx tSt tTo tBe kC kKi kEa kHa kPr kEx kSt kTo kBe aC aWh aTa aWa iRo iEa iLa cC nC nFo nQd nRo nBe nEa nMi nHa nER nMR nTh nPa nOu nFr nQu eM eL eC eS eB eE (va_up eF i f1_12) (va_up eG i f2_13)) H → va_D A (WC cI cJ cE cD ad bd dd bHK bHP bPF bWC bRi bBe bFi bWa dB dS dN tC tKi tEa tHa tPr tEx tSt tTo tBe kC kKi kEa kHa kPr kEx kSt kTo kBe aC aWh aTa aWa iRo iEa iLa cC nC nFo nQd nRo nBe nEa nMi nHa nER nMR nTh nPa nOu nFr nQu eM eL eC eS eB eE (va_up eF i f1_12) (va_up eG i f2_13)) → va_S A s.heap H locs → lv_has ls 9 [(0, .ref (ad 38)), (1, .ref (bd i 3)), (2, .ref (bd i 4)), (3, .int x3_10), (4, .int x4_11)] → W p l e (headSpec wsX4_riseOff rm_X4_riseOff).room s m args below meth c H locs 0 0 Q (F0 m 137 ls []) := by
        intro x3_10 x4_11 f1_12 f2_13 h H locs ls hP hD hS hl
        obtain ⟨x4_14, e_15⟩ : ∃ y : Int32, y = x4_11 + (-1) := ⟨_, rfl⟩
        have h := h x4_14 e_15
        refine lv_iinc (v := x4_14) (lv' := [(4, .int x4_14), (0, .ref (ad 38)), (1, .ref (bd i 3)), (2, .ref (bd i 4)), (3, .int x3_10)]) hx hb dX4_riseOff_137 hl (k := 4) rfl (by rw [e_15]; rfl) (by decide) rfl (fun ls hl => ?_)
        refine lv_goto (tgt := 10) hx hb dX4_riseOff_140 (by decide) ?_
        exact ih10 x3_10 x4_14 f1_12 f2_13 h H locs ls hP hD hS (lv_sub hl [1, 2, 3, 4, 0] rfl)
      have B72 : ∀ (y_19 : Int32) (x4_16 : Int32) (x5_17 : Int32) (x6_18 : Int32) (f1_20 : Nat → Int32) (f2_21 : Nat → Int32), wp_X4_riseOff_b72 nPa nRo (wp_X4_riseOff_L10 nER nEa nHa nMR nMi nPa nRo nTh x10 n10) y_19 x4_16 x5_17 x6_18 f1_20 f2_21 → ∀ (H : Heap) (locs : List Loc) (ls : Array Slot), va_P D vwCl (WC cI cJ cE cD ad bd dd bHK bHP bPF bWC bRi bBe bFi bWa dB dS dN tC tKi tEa tHa tPr tEx tSt tTo tBe kC kKi kEa kHa kPr kEx kSt kTo kBe aC aWh aTa aWa iRo iEa iLa cC nC nFo nQd nRo nBe nEa nMi nHa nER nMR nTh nPa nOu nFr nQu eM eL eC eS eB eE (va_up eF i f1_20) (va_up eG i f2_21)) H → va_D A (WC cI cJ cE cD ad bd dd bHK bHP bPF bWC bRi bBe bFi bWa dB dS dN tC tKi tEa tHa tPr tEx tSt tTo tBe kC kKi kEa kHa kPr kEx kSt kTo kBe aC aWh aTa aWa iRo iEa iLa cC nC nFo nQd nRo nBe nEa nMi nHa nER nMR nTh nPa nOu nFr nQu eM eL eC eS eB eE (va_up eF i f1_20) (va_up eG i f2_21)) → va_S A s.heap H locs → lv_has ls 9 [(0, .ref (ad 38)), (1, .ref (bd i 3)), (2, .ref (bd i 4)), (4, .int x4_16), (5, .int x5_17), (6, .int x6_18)] → W p l e (headSpec wsX4_riseOff rm_X4_riseOff).room s m args below meth c H locs 0 0 Q (F0 m 72 ls [.int y_19]) := by
        intro y_19 x4_16 x5_17 x6_18 f1_20 f2_21 h H locs ls hP hD hS hl
        refine lv_istore_n (lv' := [(3, .int y_19), (0, .ref (ad 38)), (1, .ref (bd i 3)), (2, .ref (bd i 4)), (4, .int x4_16), (5, .int x5_17), (6, .int x6_18)]) hx hb dX4_riseOff_72 rfl hl (by decide) rfl (fun ls hl => ?_)
        refine lv_aload_n hx hb dX4_riseOff_73 rfl (lv_at hl 2 rfl) ?_
        refine lv_iload hx hb dX4_riseOff_74 (lv_at hl 5 rfl) ?_
        refine lv_iload hx hb dX4_riseOff_76 (lv_at hl 6 rfl) ?_
        refine sB_3 hx hb hAB hP hD hS hi1 h.1 dX4_riseOff_78 (fun f1_22 H locs e_23 hP hD hS => ?_)
        have h := h.2
        have h := h f1_22 e_23
        refine lv_iconst (v := 0) hx hb dX4_riseOff_79 (by decide) ?_
        refine lv_istore (lv' := [(7, .int 0), (3, .int y_19), (0, .ref (ad 38)), (1, .ref (bd i 3)), (2, .ref (bd i 4)), (4, .int x4_16), (5, .int x5_17), (6, .int x6_18)]) hx hb dX4_riseOff_80 hl (by decide) rfl (fun ls hl => ?_)
        have L82 : ∀ (x82 : (Int32) → (Nat → Int32) → Prop) (hk82 : ∀ (x3_27 : Int32) (f2_28 : Nat → Int32), x82 x3_27 f2_28 → ∀ (H : Heap) (locs : List Loc) (ls : Array Slot), va_P D vwCl (WC cI cJ cE cD ad bd dd bHK bHP bPF bWC bRi bBe bFi bWa dB dS dN tC tKi tEa tHa tPr tEx tSt tTo tBe kC kKi kEa kHa kPr kEx kSt kTo kBe aC aWh aTa aWa iRo iEa iLa cC nC nFo nQd nRo nBe nEa nMi nHa nER nMR nTh nPa nOu nFr nQu eM eL eC eS eB eE (va_up eF i f1_22) (va_up eG i f2_28)) H → va_D A (WC cI cJ cE cD ad bd dd bHK bHP bPF bWC bRi bBe bFi bWa dB dS dN tC tKi tEa tHa tPr tEx tSt tTo tBe kC kKi kEa kHa kPr kEx kSt kTo kBe aC aWh aTa aWa iRo iEa iLa cC nC nFo nQd nRo nBe nEa nMi nHa nER nMR nTh nPa nOu nFr nQu eM eL eC eS eB eE (va_up eF i f1_22) (va_up eG i f2_28)) → va_S A s.heap H locs → lv_has ls 9 [(0, .ref (ad 38)), (1, .ref (bd i 3)), (2, .ref (bd i 4)), (3, .int x3_27), (4, .int x4_16)] → W p l e (headSpec wsX4_riseOff rm_X4_riseOff).room s m args below meth c H locs 0 0 Q (F0 m 137 ls [])) (n82 : Nat) (x3_24 : Int32) (x7_25 : Int32) (f2_26 : Nat → Int32), wp_X4_riseOff_L82 nPa nRo x4_16 x5_17 x6_18 x82 n82 x3_24 x7_25 f2_26 → ∀ (H : Heap) (locs : List Loc) (ls : Array Slot), va_P D vwCl (WC cI cJ cE cD ad bd dd bHK bHP bPF bWC bRi bBe bFi bWa dB dS dN tC tKi tEa tHa tPr tEx tSt tTo tBe kC kKi kEa kHa kPr kEx kSt kTo kBe aC aWh aTa aWa iRo iEa iLa cC nC nFo nQd nRo nBe nEa nMi nHa nER nMR nTh nPa nOu nFr nQu eM eL eC eS eB eE (va_up eF i f1_22) (va_up eG i f2_26)) H → va_D A (WC cI cJ cE cD ad bd dd bHK bHP bPF bWC bRi bBe bFi bWa dB dS dN tC tKi tEa tHa tPr tEx tSt tTo tBe kC kKi kEa kHa kPr kEx kSt kTo kBe aC aWh aTa aWa iRo iEa iLa cC nC nFo nQd nRo nBe nEa nMi nHa nER nMR nTh nPa nOu nFr nQu eM eL eC eS eB eE (va_up eF i f1_22) (va_up eG i f2_26)) → va_S A s.heap H locs → lv_has ls 9 [(0, .ref (ad 38)), (1, .ref (bd i 3)), (2, .ref (bd i 4)), (3, .int x3_24), (4, .int x4_16), (5, .int x5_17), (6, .int x6_18), (7, .int x7_25)] → W p l e (headSpec wsX4_riseOff rm_X4_riseOff).room s m args below meth c H locs 0 0 Q (F0 m 82 ls []) := by
          intro x82 hk82 n82
          induction n82 with
          | zero => intro x3_24 x7_25 f2_26 h; exact False.elim h
          | succ n82 ih82 =>
            intro x3_24 x7_25 f2_26 h H locs ls hP hD hS hl
            have B131 : ∀ (x3_29 : Int32) (x7_30 : Int32) (f2_31 : Nat → Int32), wp_X4_riseOff_b131 (wp_X4_riseOff_L82 nPa nRo x4_16 x5_17 x6_18 x82 n82) x3_29 x7_30 f2_31 → ∀ (H : Heap) (locs : List Loc) (ls : Array Slot), va_P D vwCl (WC cI cJ cE cD ad bd dd bHK bHP bPF bWC bRi bBe bFi bWa dB dS dN tC tKi tEa tHa tPr tEx tSt tTo tBe kC kKi kEa kHa kPr kEx kSt kTo kBe aC aWh aTa aWa iRo iEa iLa cC nC nFo nQd nRo nBe nEa nMi nHa nER nMR nTh nPa nOu nFr nQu eM eL eC eS eB eE (va_up eF i f1_22) (va_up eG i f2_31)) H → va_D A (WC cI cJ cE cD ad bd dd bHK bHP bPF bWC bRi bBe bFi bWa dB dS dN tC tKi tEa tHa tPr tEx tSt tTo tBe kC kKi kEa kHa kPr kEx kSt kTo kBe aC aWh aTa aWa iRo iEa iLa cC nC nFo nQd nRo nBe nEa nMi nHa nER nMR nTh nPa nOu nFr nQu eM eL eC eS eB eE (va_up eF i f1_22) (va_up eG i f2_31)) → va_S A s.heap H locs → lv_has ls 9 [(0, .ref (ad 38)), (1, .ref (bd i 3)), (2, .ref (bd i 4)), (3, .int x3_29), (4, .int x4_16), (5, .int x5_17), (6, .int x6_18), (7, .int x7_30)] → W p l e (headSpec wsX4_riseOff rm_X4_riseOff).room s m args below meth c H locs 0 0 Q (F0 m 131 ls []) := by
              intro x3_29 x7_30 f2_31 h H locs ls hP hD hS hl
              obtain ⟨x7_32, e_33⟩ : ∃ y : Int32, y = x7_30 + 1 := ⟨_, rfl⟩
              have h := h x7_32 e_33
              refine lv_iinc (v := x7_32) (lv' := [(7, .int x7_32), (0, .ref (ad 38)), (1, .ref (bd i 3)), (2, .ref (bd i 4)), (3, .int x3_29), (4, .int x4_16), (5, .int x5_17), (6, .int x6_18)]) hx hb dX4_riseOff_131 hl (k := 7) rfl (by rw [e_33]; rfl) (by decide) rfl (fun ls hl => ?_)
              refine lv_goto (tgt := 82) hx hb dX4_riseOff_134 (by decide) ?_
              exact ih82 x3_29 x7_32 f2_31 h H locs ls hP hD hS (lv_sub hl [1, 2, 3, 4, 5, 6, 7, 0] rfl)
            refine lv_iload hx hb dX4_riseOff_82 (lv_at hl 7 rfl) ?_
            refine lv_iload hx hb dX4_riseOff_84 (lv_at hl 4 rfl) ?_
            refine lv_icmp_ge (tgt := 137) hx hb dX4_riseOff_86 (by decide) (fun c_34 => ?_) (fun c_34 => ?_)
            · have h := h.1 c_34
              exact hk82 x3_24 f2_26 h H locs ls hP hD hS (lv_sub hl [0, 1, 2, 3, 4] rfl)
            · have h := h.2 c_34
              refine lv_aload_n hx hb dX4_riseOff_89 rfl (lv_at hl 0 rfl) ?_
              refine va_get (D := D) (ci := 4) (C := RX4) (T := TX4) (N := 15) hx hb hts inn_X4_riseOff_4 hown hAB.1 hP 38 rfl rfl 1 (by decide) (hts (.fieldLink RX4 9 "BarnBench$Net" "row" "[I") (by decide +kernel)) (fun _ h9 => h9) rfl dX4_riseOff_90 ?_
              refine lv_iload hx hb dX4_riseOff_93 (lv_at hl 7 rfl) ?_
              refine va_iald hx hb hAB.1 hP 39 0 rfl rfl h.1 dX4_riseOff_95 ?_
              have h := h.2
              refine lv_topi (fun x8_35 e_36 => ?_)
              have h := h x8_35 e_36
              refine lv_istore (lv' := [(8, .int x8_35), (0, .ref (ad 38)), (1, .ref (bd i 3)), (2, .ref (bd i 4)), (3, .int x3_24), (4, .int x4_16), (5, .int x5_17), (6, .int x6_18), (7, .int x7_25)]) hx hb dX4_riseOff_96 hl (by decide) rfl (fun ls hl => ?_)
              refine lv_aload_n hx hb dX4_riseOff_98 rfl (lv_at hl 1 rfl) ?_
              refine va_get (D := D) (ci := 4) (C := RX4) (T := TX4) (N := 15) hx hb hts inn_X4_riseOff_4 hown hAB.1 hP 38 rfl rfl 10 (by decide) (hts (.fieldLink RX4 36 "BarnBench$Net" "passed" "[I") (by decide +kernel)) (fun _ h9 => h9) rfl dX4_riseOff_99 ?_
              refine lv_iload hx hb dX4_riseOff_102 (lv_at hl 0 rfl) ?_
              refine lv_bipush (v := 12) hx hb dX4_riseOff_104 (by decide) ?_
              refine lv_imul hx hb dX4_riseOff_106 ?_
              refine lv_iload hx hb dX4_riseOff_107 (lv_at hl 6 rfl) ?_
              refine lv_iadd hx hb dX4_riseOff_109 ?_
              refine va_iald hx hb hAB.1 hP 47 0 rfl rfl h.1 dX4_riseOff_110 ?_
              have h := h.2
              refine lv_if_le (tgt := 131) hx hb dX4_riseOff_111 (by decide) (fun c_37 => ?_) (fun c_37 => ?_)
              · have h := h.1 c_37
                exact B131 x3_24 x7_25 f2_26 h H locs ls hP hD hS (lv_sub hl [1, 2, 3, 4, 5, 6, 7, 8] rfl)
              · have h := h.2 c_37
                refine lv_aload_n hx hb dX4_riseOff_114 rfl (lv_at hl 3 rfl) ?_
                refine lv_iload hx hb dX4_riseOff_115 (lv_at hl 0 rfl) ?_
                refine lB_4 hx hb hAB hP hD hS hi2 h.1 dX4_riseOff_117 ?_
                have h := h.2
                refine lv_iload hx hb dX4_riseOff_118 (lv_at hl 7 rfl) ?_
                refine lv_icmp_ge (tgt := 131) hx hb dX4_riseOff_120 (by decide) (fun c_38 => ?_) (fun c_38 => ?_)
                · have h := h.1 c_38
                  exact B131 x3_24 x7_25 f2_26 h H locs ls hP hD hS (lv_sub hl [1, 2, 3, 4, 5, 6, 7, 8] rfl)
                · have h := h.2 c_38
                  refine lv_aload_n hx hb dX4_riseOff_123 rfl (lv_at hl 3 rfl) ?_
                  refine lv_iload hx hb dX4_riseOff_124 (lv_at hl 0 rfl) ?_
                  refine lv_iload hx hb dX4_riseOff_126 (lv_at hl 7 rfl) ?_
                  refine sB_4 hx hb hAB hP hD hS hi2 h.1 dX4_riseOff_128 (fun f2_39 H locs e_40 hP hD hS => ?_)
                  have h := h.2
                  have h := h f2_39 e_40
                  refine lv_iconst (v := 1) hx hb dX4_riseOff_129 (by decide) ?_
                  refine lv_istore_n (lv' := [(3, .int 1), (8, .int x8_35), (0, .ref (ad 38)), (1, .ref (bd i 3)), (2, .ref (bd i 4)), (4, .int x4_16), (5, .int x5_17), (6, .int x6_18), (7, .int x7_25)]) hx hb dX4_riseOff_130 rfl hl (by decide) rfl (fun ls hl => ?_)
                  exact B131 1 x7_25 f2_39 h H locs ls hP hD hS (lv_sub hl [2, 3, 4, 0, 5, 6, 7, 8] rfl)
        obtain ⟨n82, h⟩ := h
        refine L82 _ (fun x3_27 f2_28 h H locs ls hP hD hS hl => ?_) n82 y_19 0 f2_21 h H locs ls hP hD hS (lv_sub hl [2, 3, 4, 1, 5, 6, 7, 0] rfl)
        exact B137 x3_27 x4_16 f1_22 f2_28 h H locs ls hP hD hS (lv_sub hl [0, 1, 2, 3, 4] rfl)
      have B67 : ∀ (x4_41 : Int32) (x5_42 : Int32) (x6_43 : Int32) (f1_44 : Nat → Int32) (f2_45 : Nat → Int32), wp_X4_riseOff_b67 nPa nRo (wp_X4_riseOff_L10 nER nEa nHa nMR nMi nPa nRo nTh x10 n10) x4_41 x5_42 x6_43 f1_44 f2_45 → ∀ (H : Heap) (locs : List Loc) (ls : Array Slot), va_P D vwCl (WC cI cJ cE cD ad bd dd bHK bHP bPF bWC bRi bBe bFi bWa dB dS dN tC tKi tEa tHa tPr tEx tSt tTo tBe kC kKi kEa kHa kPr kEx kSt kTo kBe aC aWh aTa aWa iRo iEa iLa cC nC nFo nQd nRo nBe nEa nMi nHa nER nMR nTh nPa nOu nFr nQu eM eL eC eS eB eE (va_up eF i f1_44) (va_up eG i f2_45)) H → va_D A (WC cI cJ cE cD ad bd dd bHK bHP bPF bWC bRi bBe bFi bWa dB dS dN tC tKi tEa tHa tPr tEx tSt tTo tBe kC kKi kEa kHa kPr kEx kSt kTo kBe aC aWh aTa aWa iRo iEa iLa cC nC nFo nQd nRo nBe nEa nMi nHa nER nMR nTh nPa nOu nFr nQu eM eL eC eS eB eE (va_up eF i f1_44) (va_up eG i f2_45)) → va_S A s.heap H locs → lv_has ls 9 [(0, .ref (ad 38)), (1, .ref (bd i 3)), (2, .ref (bd i 4)), (4, .int x4_41), (5, .int x5_42), (6, .int x6_43)] → W p l e (headSpec wsX4_riseOff rm_X4_riseOff).room s m args below meth c H locs 0 0 Q (F0 m 67 ls []) := by
        intro x4_41 x5_42 x6_43 f1_44 f2_45 h H locs ls hP hD hS hl
        refine lv_iconst (v := 1) hx hb dX4_riseOff_67 (by decide) ?_
        refine lv_goto (tgt := 72) hx hb dX4_riseOff_68 (by decide) ?_
        exact B72 1 x4_41 x5_42 x6_43 f1_44 f2_45 h H locs ls hP hD hS (lv_sub hl [0, 1, 2, 3, 4, 5] rfl)
      refine lv_iload hx hb dX4_riseOff_10 (lv_at hl 4 rfl) ?_
      refine lv_if_lt (tgt := 143) hx hb dX4_riseOff_12 (by decide) (fun c_46 => ?_) (fun c_46 => ?_)
      · have h := h.1 c_46
        exact hk10 x3_3 f1_5 f2_6 h H locs ls hP hD hS (lv_sub hl [3] rfl)
      · have h := h.2 c_46
        refine lv_aload_n hx hb dX4_riseOff_15 rfl (lv_at hl 0 rfl) ?_
        refine va_get (D := D) (ci := 4) (C := RX4) (T := TX4) (N := 15) hx hb hts inn_X4_riseOff_4 hown hAB.1 hP 38 rfl rfl 1 (by decide) (hts (.fieldLink RX4 9 "BarnBench$Net" "row" "[I") (by decide +kernel)) (fun _ h9 => h9) rfl dX4_riseOff_16 ?_
        refine lv_iload hx hb dX4_riseOff_19 (lv_at hl 4 rfl) ?_
        refine va_iald hx hb hAB.1 hP 39 0 rfl rfl h.1 dX4_riseOff_21 ?_
        have h := h.2
        refine lv_topi (fun x5_47 e_48 => ?_)
        have h := h x5_47 e_48
        refine lv_istore (lv' := [(5, .int x5_47), (0, .ref (ad 38)), (1, .ref (bd i 3)), (2, .ref (bd i 4)), (3, .int x3_3), (4, .int x4_4)]) hx hb dX4_riseOff_22 hl (by decide) rfl (fun ls hl => ?_)
        refine lv_aload_n hx hb dX4_riseOff_24 rfl (lv_at hl 1 rfl) ?_
        refine va_get (D := D) (ci := 4) (C := RX4) (T := TX4) (N := 15) hx hb hts inn_X4_riseOff_4 hown hAB.1 hP 38 rfl rfl 9 (by decide) (hts (.fieldLink RX4 33 "BarnBench$Net" "through" "[I") (by decide +kernel)) (fun _ h9 => h9) rfl dX4_riseOff_25 ?_
        refine lv_iload hx hb dX4_riseOff_28 (lv_at hl 0 rfl) ?_
        refine va_iald hx hb hAB.1 hP 46 0 rfl rfl h.1 dX4_riseOff_30 ?_
        have h := h.2
        refine lv_if_le (tgt := 137) hx hb dX4_riseOff_31 (by decide) (fun c_49 => ?_) (fun c_49 => ?_)
        · have h := h.1 c_49
          exact B137 x3_3 x4_4 f1_5 f2_6 h H locs ls hP hD hS (lv_sub hl [1, 2, 3, 4, 5] rfl)
        · have h := h.2 c_49
          refine lv_aload_n hx hb dX4_riseOff_34 rfl (lv_at hl 2 rfl) ?_
          refine lv_iload hx hb dX4_riseOff_35 (lv_at hl 0 rfl) ?_
          refine lB_3 hx hb hAB hP hD hS hi1 h.1 dX4_riseOff_37 ?_
          have h := h.2
          refine lv_aload_n hx hb dX4_riseOff_38 rfl (lv_at hl 3 rfl) ?_
          refine lv_iload hx hb dX4_riseOff_39 (lv_at hl 0 rfl) ?_
          refine lB_4 hx hb hAB hP hD hS hi2 h.1 dX4_riseOff_41 ?_
          have h := h.2
          refine lv_aload_n hx hb dX4_riseOff_42 rfl (lv_at hl 1 rfl) ?_
          refine lv_iload hx hb dX4_riseOff_43 (lv_at hl 0 rfl) ?_
          refine cl_i hD hS hA (va_runV (As := [.int x5_47]) (rest := [.int (f2_6 (Int32.toNatClampNeg x5_47)), .int (f1_5 (Int32.toNatClampNeg x5_47))]) ⟨hx, hb, hml, hown, hts⟩ (ct_X4_spanOff h H.size) (cwV 1 hts gX4_riseOff_X4_spanOff rfl rfl rfl (by decide +kernel) ⟨Nat.le_of_ble_eq_true rfl, Nat.le_of_ble_eq_true rfl⟩) ⟨CPre.blind, va_recv hAB.1 hP (ci := 4) (q0 := 38) rfl rfl, wd_pre hAB hP hD hS hA⟩ rfl rfl hl.1 rfl (lv_room (Nat.le_of_ble_eq_true rfl)) dX4_riseOff_45 ⟨Nat.zero_le _, Nat.zero_le _⟩) (fun r_50 u H locs h hP hD hS => ?_)
          refine lv_isub hx hb dX4_riseOff_48 ?_
          refine va_mmax (rest := []) hx hb (by rw [hml]; exact hl.1.symm) hown (hts (.methodLink RX4 95 Lib.Math.max.name) (by decide +kernel)) (hts (.static Lib.Math.max.name) (by decide +kernel)) (hts (.initialized "java/lang/Math") (by decide +kernel)) (hts (.code Lib.Math.max.name Lib.Math.max.code 2 (some .int)) (by decide +kernel)) (Nat.le_of_ble_eq_true rfl) (Nat.le_of_ble_eq_true rfl) (Nat.zero_le _) (Nat.zero_le _) dX4_riseOff_49 ?_
          refine lv_topi (fun x6_51 e_52 => ?_)
          have h := h x6_51 e_52
          refine lv_istore (lv' := [(6, .int x6_51), (5, .int x5_47), (0, .ref (ad 38)), (1, .ref (bd i 3)), (2, .ref (bd i 4)), (3, .int x3_3), (4, .int x4_4)]) hx hb dX4_riseOff_52 hl (by decide) rfl (fun ls hl => ?_)
          refine lv_iload_n hx hb dX4_riseOff_54 rfl (lv_at hl 5 rfl) ?_
          refine lv_if_ne (tgt := 67) hx hb dX4_riseOff_55 (by decide) (fun c_53 => ?_) (fun c_53 => ?_)
          · have h := h.1 c_53
            exact B67 x4_4 x5_47 x6_51 f1_5 f2_6 h H locs ls hP hD hS (lv_sub hl [2, 3, 4, 6, 1, 0] rfl)
          · have h := h.2 c_53
            refine lv_iload hx hb dX4_riseOff_58 (lv_at hl 0 rfl) ?_
            refine lv_aload_n hx hb dX4_riseOff_60 rfl (lv_at hl 3 rfl) ?_
            refine lv_iload hx hb dX4_riseOff_61 (lv_at hl 1 rfl) ?_
            refine lB_3 hx hb hAB hP hD hS hi1 h.1 dX4_riseOff_63 ?_
            have h := h.2
            refine lv_icmp_le (tgt := 71) hx hb dX4_riseOff_64 (by decide) (fun c_54 => ?_) (fun c_54 => ?_)
            · have h := h.1 c_54
              refine lv_iconst (v := 0) hx hb dX4_riseOff_71 (by decide) ?_
              exact B72 0 x4_4 x5_47 x6_51 f1_5 f2_6 h H locs ls hP hD hS (lv_sub hl [2, 3, 4, 6, 1, 0] rfl)
            · have h := h.2 c_54
              exact B67 x4_4 x5_47 x6_51 f1_5 f2_6 h H locs ls hP hD hS (lv_sub hl [2, 3, 4, 6, 1, 0] rfl)
  obtain ⟨n10, h⟩ := h
  refine L10 _ (fun x3_7 f1_8 f2_9 h H locs ls hP hD hS hl => ?_) n10 0 x4_1 f1 f2 h H locs ls hP hD hS (lv_sub hl [2, 3, 4, 1, 0] rfl)
  refine lv_iload_n hx hb dX4_riseOff_143 rfl (lv_at hl 0 rfl) ?_
  exact rt_z (f1_8, f2_9) hQ hx hb hr hlk hP hD hS ⟨Nat.zero_le _, Nat.zero_le _⟩ h.1 dX4_riseOff_144 h.2
def wp_X4_rise_b34 (k5 : (Int32) → (Int32) → (Nat → Int32) → (Nat → Int32) → Prop) (x3_7 : Int32) (x4_8 : Int32) (f1_9 : Nat → Int32) (f2_10 : Nat → Int32) : Prop :=
  ∀ x4_11 : Int32, x4_11 = x4_8 + 1 → k5 x3_7 x4_11 f1_9 f2_10
def wp_X4_rise_L5 (nBe : Nat → Int32) (nC : Int32) (nER : Nat → Int32) (nEa : Nat → Int32) (nHa : Nat → Int32) (nMR : Nat → Int32) (nMi : Nat → Int32) (nPa : Nat → Int32) (nRo : Nat → Int32) (nTh : Nat → Int32) (x5 : (Nat → Int32) → (Nat → Int32) → Prop) : Nat → (Int32) → (Int32) → (Nat → Int32) → (Nat → Int32) → Prop
  | 0, _, _, _, _ => False
  | n5 + 1, x3_1, x4_2, f1_3, f2_4 =>
  ((x3_1 = 0 → x5 f1_3 f2_4) ∧
   (¬ x3_1 = 0 → ((48 ≤ x4_2 → x5 f1_3 f2_4) ∧
   (¬ 48 ≤ x4_2 → wp_X4_riseOn f1_3 f2_4 nC nRo nBe nEa nMi nHa nER nMR nTh (fun (r_15 : Int32) (f1_16 : Nat → Int32) (f2_17 : Nat → Int32) => wp_X4_riseOff f1_16 f2_17 nC nRo nEa nMi nHa nER nMR nTh nPa (fun (r_18 : Int32) (f1_19 : Nat → Int32) (f2_20 : Nat → Int32) => ((r_18 = 0 → wp_X4_rise_b34 (wp_X4_rise_L5 nBe nC nER nEa nHa nMR nMi nPa nRo nTh x5 n5) r_15 x4_2 f1_19 f2_20) ∧
   (¬ r_18 = 0 → wp_X4_rise_b34 (wp_X4_rise_L5 nBe nC nER nEa nHa nMR nMi nPa nRo nTh x5 n5) 1 x4_2 f1_19 f2_20))))))))
def wp_X4_rise (f1 : Nat → Int32) (f2 : Nat → Int32) (nC : Int32) (nRo : Nat → Int32) (nBe : Nat → Int32) (nEa : Nat → Int32) (nMi : Nat → Int32) (nHa : Nat → Int32) (nER : Nat → Int32) (nMR : Nat → Int32) (nTh : Nat → Int32) (nPa : Nat → Int32)  (Qp : (Nat → Int32) → (Nat → Int32) → Prop) : Prop :=
  (∃ n5 : Nat, wp_X4_rise_L5 nBe nC nER nEa nHa nMR nMi nPa nRo nTh (fun (f1_5 : Nat → Int32) (f2_6 : Nat → Int32) => Qp f1_5 f2_6) n5 1 0 (f1) (f2))
def rm_X4_rise : Room := { frames := 2, cells := 0, slots := 0, locals := 51 }
set_option maxHeartbeats 4000000 in
set_option maxRecDepth 100000 in
theorem ct_X4_rise_1 {l : Launch} {D : va_G} {cI cJ cZ cE cD cK : ClassId} {ad : Nat → Nat} {bd dd : Nat → Nat → Nat} {bHK : Int32} {bHP : Int32} {bPF : Int32} {bWC : Int32} {bRi : Int32} {bBe : Int32} {bFi : Int32} {bWa : Nat → Int32} {dB : Nat → Int32} {dS : Nat → Int32} {dN : Nat → Nat → Int64} {tC : Int32} {tKi : Nat → Int32} {tEa : Nat → Int32} {tHa : Nat → Int32} {tPr : Nat → Int32} {tEx : Nat → Int32} {tSt : Nat → Int32} {tTo : Nat → Int32} {tBe : Nat → Int32} {kC : Int32} {kKi : Nat → Int32} {kEa : Nat → Int32} {kHa : Nat → Int32} {kPr : Nat → Int32} {kEx : Nat → Int32} {kSt : Nat → Int32} {kTo : Nat → Int32} {kBe : Nat → Int32} {aC : Int32} {aWh : Nat → Int32} {aTa : Nat → Int32} {aWa : Nat → Int32} {iRo : Nat → Int32} {iEa : Nat → Int32} {iLa : Nat → Int32} {cC : Int32} {nC : Int32} {nFo : Int32} {nQd : Int32} {nRo : Nat → Int32} {nBe : Nat → Int32} {nEa : Nat → Int32} {nMi : Nat → Int32} {nHa : Nat → Int32} {nER : Nat → Int32} {nMR : Nat → Int32} {nTh : Nat → Int32} {nPa : Nat → Int32} {nOu : Nat → Int32} {nFr : Nat → Int32} {nQu : Nat → Int32} {eM : Nat} {eL : Nat → Int32} {eC : Nat → Int64} {eS : Nat → Int64} {eB : Nat → Nat → Int32} {eE : Nat → Nat → Int32} {eF : Nat → Nat → Int32} {eG : Nat → Nat → Int32} {i : Nat} {f1 : Nat → Int32} {f2 : Nat → Int32}  {Qp : (Nat → Int32) → (Nat → Int32) → Prop} (hi1 : i < eM) (hi2 : i < eM)  (h : wp_X4_rise f1 f2 nC nRo nBe nEa nMi nHa nER nMR nTh nPa Qp) : CTv l yX4_rise wsX4_rise rm_X4_rise D (tyL cI cJ cZ cE cD cK) [.ref (ad 38), .ref (bd i 1), .ref (bd i 2)] (WC cI cJ cE cD ad bd dd bHK bHP bPF bWC bRi bBe bFi bWa dB dS dN tC tKi tEa tHa tPr tEx tSt tTo tBe kC kKi kEa kHa kPr kEx kSt kTo kBe aC aWh aTa aWa iRo iEa iLa cC nC nFo nQd nRo nBe nEa nMi nHa nER nMR nTh nPa nOu nFr nQu eM eL eC eS (va_up eB i f1) (va_up eE i f2) eF eG) (fun u : (Nat → Int32) × (Nat → Int32) => Qp u.1 u.2) (fun u : (Nat → Int32) × (Nat → Int32) => (WC cI cJ cE cD ad bd dd bHK bHP bPF bWC bRi bBe bFi bWa dB dS dN tC tKi tEa tHa tPr tEx tSt tTo tBe kC kKi kEa kHa kPr kEx kSt kTo kBe aC aWh aTa aWa iRo iEa iLa cC nC nFo nQd nRo nBe nEa nMi nHa nER nMR nTh nPa nOu nFr nQu eM eL eC eS (va_up eB i u.1) (va_up eE i u.2) eF eG)) 0 0 := by
  refine ent_v (cc := cX4_rise) (maxL := 5) (ret := none) (by decide) rfl (Nat.le_of_ble_eq_true rfl) ?_
  intro p e s m args below meth c A Q hQ hx hb hr hml hown hts hlk hA hAB hP hD hS ls hl
  have hown : s.vm.findClass RX4 = some m.cls := hown
  have hl : lv_has ls 5 [(0, .ref (ad 38)), (1, .ref (bd i 1)), (2, .ref (bd i 2))] := hl
  generalize hH : s.heap = H at hP ⊢
  have hS : va_S A s.heap H [] := by rw [← hH]; exact hS
  clear hH
  generalize ([] : List Loc) = locs at hS ⊢
  refine lv_iconst (v := 1) hx hb dX4_rise_0 (by decide) ?_
  refine lv_istore_n (lv' := [(3, .int 1), (0, .ref (ad 38)), (1, .ref (bd i 1)), (2, .ref (bd i 2))]) hx hb dX4_rise_1 rfl hl (by decide) rfl (fun ls hl => ?_)
  refine lv_iconst (v := 0) hx hb dX4_rise_2 (by decide) ?_
  refine lv_istore (lv' := [(4, .int 0), (3, .int 1), (0, .ref (ad 38)), (1, .ref (bd i 1)), (2, .ref (bd i 2))]) hx hb dX4_rise_3 hl (by decide) rfl (fun ls hl => ?_)
  have L5 : ∀ (x5 : (Nat → Int32) → (Nat → Int32) → Prop) (hk5 : ∀ (f1_5 : Nat → Int32) (f2_6 : Nat → Int32), x5 f1_5 f2_6 → ∀ (H : Heap) (locs : List Loc) (ls : Array Slot), va_P D vwCl (WC cI cJ cE cD ad bd dd bHK bHP bPF bWC bRi bBe bFi bWa dB dS dN tC tKi tEa tHa tPr tEx tSt tTo tBe kC kKi kEa kHa kPr kEx kSt kTo kBe aC aWh aTa aWa iRo iEa iLa cC nC nFo nQd nRo nBe nEa nMi nHa nER nMR nTh nPa nOu nFr nQu eM eL eC eS (va_up eB i f1_5) (va_up eE i f2_6) eF eG) H → va_D A (WC cI cJ cE cD ad bd dd bHK bHP bPF bWC bRi bBe bFi bWa dB dS dN tC tKi tEa tHa tPr tEx tSt tTo tBe kC kKi kEa kHa kPr kEx kSt kTo kBe aC aWh aTa aWa iRo iEa iLa cC nC nFo nQd nRo nBe nEa nMi nHa nER nMR nTh nPa nOu nFr nQu eM eL eC eS (va_up eB i f1_5) (va_up eE i f2_6) eF eG) → va_S A s.heap H locs → lv_has ls 5 [] → W p l e (headSpec wsX4_rise rm_X4_rise).room s m args below meth c H locs 0 0 Q (F0 m 40 ls [])) (n5 : Nat) (x3_1 : Int32) (x4_2 : Int32) (f1_3 : Nat → Int32) (f2_4 : Nat → Int32), wp_X4_rise_L5 nBe nC nER nEa nHa nMR nMi nPa nRo nTh x5 n5 x3_1 x4_2 f1_3 f2_4 → ∀ (H : Heap) (locs : List Loc) (ls : Array Slot), va_P D vwCl (WC cI cJ cE cD ad bd dd bHK bHP bPF bWC bRi bBe bFi bWa dB dS dN tC tKi tEa tHa tPr tEx tSt tTo tBe kC kKi kEa kHa kPr kEx kSt kTo kBe aC aWh aTa aWa iRo iEa iLa cC nC nFo nQd nRo nBe nEa nMi nHa nER nMR nTh nPa nOu nFr nQu eM eL eC eS (va_up eB i f1_3) (va_up eE i f2_4) eF eG) H → va_D A (WC cI cJ cE cD ad bd dd bHK bHP bPF bWC bRi bBe bFi bWa dB dS dN tC tKi tEa tHa tPr tEx tSt tTo tBe kC kKi kEa kHa kPr kEx kSt kTo kBe aC aWh aTa aWa iRo iEa iLa cC nC nFo nQd nRo nBe nEa nMi nHa nER nMR nTh nPa nOu nFr nQu eM eL eC eS (va_up eB i f1_3) (va_up eE i f2_4) eF eG) → va_S A s.heap H locs → lv_has ls 5 [(0, .ref (ad 38)), (1, .ref (bd i 1)), (2, .ref (bd i 2)), (3, .int x3_1), (4, .int x4_2)] → W p l e (headSpec wsX4_rise rm_X4_rise).room s m args below meth c H locs 0 0 Q (F0 m 5 ls []) := by
    intro x5 hk5 n5
    induction n5 with
    | zero => intro x3_1 x4_2 f1_3 f2_4 h; exact False.elim h
    | succ n5 ih5 =>
      intro x3_1 x4_2 f1_3 f2_4 h H locs ls hP hD hS hl
      have B34 : ∀ (x3_7 : Int32) (x4_8 : Int32) (f1_9 : Nat → Int32) (f2_10 : Nat → Int32), wp_X4_rise_b34 (wp_X4_rise_L5 nBe nC nER nEa nHa nMR nMi nPa nRo nTh x5 n5) x3_7 x4_8 f1_9 f2_10 → ∀ (H : Heap) (locs : List Loc) (ls : Array Slot), va_P D vwCl (WC cI cJ cE cD ad bd dd bHK bHP bPF bWC bRi bBe bFi bWa dB dS dN tC tKi tEa tHa tPr tEx tSt tTo tBe kC kKi kEa kHa kPr kEx kSt kTo kBe aC aWh aTa aWa iRo iEa iLa cC nC nFo nQd nRo nBe nEa nMi nHa nER nMR nTh nPa nOu nFr nQu eM eL eC eS (va_up eB i f1_9) (va_up eE i f2_10) eF eG) H → va_D A (WC cI cJ cE cD ad bd dd bHK bHP bPF bWC bRi bBe bFi bWa dB dS dN tC tKi tEa tHa tPr tEx tSt tTo tBe kC kKi kEa kHa kPr kEx kSt kTo kBe aC aWh aTa aWa iRo iEa iLa cC nC nFo nQd nRo nBe nEa nMi nHa nER nMR nTh nPa nOu nFr nQu eM eL eC eS (va_up eB i f1_9) (va_up eE i f2_10) eF eG) → va_S A s.heap H locs → lv_has ls 5 [(0, .ref (ad 38)), (1, .ref (bd i 1)), (2, .ref (bd i 2)), (3, .int x3_7), (4, .int x4_8)] → W p l e (headSpec wsX4_rise rm_X4_rise).room s m args below meth c H locs 0 0 Q (F0 m 34 ls []) := by
        intro x3_7 x4_8 f1_9 f2_10 h H locs ls hP hD hS hl
        obtain ⟨x4_11, e_12⟩ : ∃ y : Int32, y = x4_8 + 1 := ⟨_, rfl⟩
        have h := h x4_11 e_12
        refine lv_iinc (v := x4_11) (lv' := [(4, .int x4_11), (0, .ref (ad 38)), (1, .ref (bd i 1)), (2, .ref (bd i 2)), (3, .int x3_7)]) hx hb dX4_rise_34 hl (k := 4) rfl (by rw [e_12]; rfl) (by decide) rfl (fun ls hl => ?_)
        refine lv_goto (tgt := 5) hx hb dX4_rise_37 (by decide) ?_
        exact ih5 x3_7 x4_11 f1_9 f2_10 h H locs ls hP hD hS (lv_sub hl [1, 2, 3, 4, 0] rfl)
      refine lv_iload_n hx hb dX4_rise_5 rfl (lv_at hl 3 rfl) ?_
      refine lv_if_eq (tgt := 40) hx hb dX4_rise_6 (by decide) (fun c_13 => ?_) (fun c_13 => ?_)
      · have h := h.1 c_13
        exact hk5 f1_3 f2_4 h H locs ls hP hD hS (lv_sub hl [] rfl)
      · have h := h.2 c_13
        refine lv_iload hx hb dX4_rise_9 (lv_at hl 4 rfl) ?_
        refine lv_bipush (v := 48) hx hb dX4_rise_11 (by decide) ?_
        refine lv_icmp_ge (tgt := 40) hx hb dX4_rise_13 (by decide) (fun c_14 => ?_) (fun c_14 => ?_)
        · have h := h.1 c_14
          exact hk5 f1_3 f2_4 h H locs ls hP hD hS (lv_sub hl [] rfl)
        · have h := h.2 c_14
          refine lv_aload_n hx hb dX4_rise_16 rfl (lv_at hl 0 rfl) ?_
          refine lv_aload_n hx hb dX4_rise_17 rfl (lv_at hl 1 rfl) ?_
          refine lv_aload_n hx hb dX4_rise_18 rfl (lv_at hl 2 rfl) ?_
          refine cl_i hD hS hA (va_runV (As := [.ref (bd i 1), .ref (bd i 2)]) (rest := []) ⟨hx, hb, hml, hown, hts⟩ (ct_X4_riseOn_1 hi1 hi2 h H.size) (cwV 2 hts gX4_rise_X4_riseOn rfl rfl rfl (by decide +kernel) ⟨Nat.le_of_ble_eq_true rfl, Nat.le_of_ble_eq_true rfl⟩) ⟨CPre.blind, va_recv hAB.1 hP (ci := 4) (q0 := 38) rfl rfl, wd_pre hAB hP hD hS hA⟩ rfl rfl hl.1 rfl (lv_room (Nat.le_of_ble_eq_true rfl)) dX4_rise_19 ⟨Nat.zero_le _, Nat.zero_le _⟩) (fun r_15 u H locs h hP hD hS => ?_)
          obtain ⟨f1_16, f2_17⟩ := u
          have hP : va_P D vwCl (WC cI cJ cE cD ad bd dd bHK bHP bPF bWC bRi bBe bFi bWa dB dS dN tC tKi tEa tHa tPr tEx tSt tTo tBe kC kKi kEa kHa kPr kEx kSt kTo kBe aC aWh aTa aWa iRo iEa iLa cC nC nFo nQd nRo nBe nEa nMi nHa nER nMR nTh nPa nOu nFr nQu eM eL eC eS (va_up eB i f1_16) (va_up eE i f2_17) eF eG) H := hP
          have hD : va_D A (WC cI cJ cE cD ad bd dd bHK bHP bPF bWC bRi bBe bFi bWa dB dS dN tC tKi tEa tHa tPr tEx tSt tTo tBe kC kKi kEa kHa kPr kEx kSt kTo kBe aC aWh aTa aWa iRo iEa iLa cC nC nFo nQd nRo nBe nEa nMi nHa nER nMR nTh nPa nOu nFr nQu eM eL eC eS (va_up eB i f1_16) (va_up eE i f2_17) eF eG) := hD
          refine lv_istore_n (lv' := [(3, .int r_15), (0, .ref (ad 38)), (1, .ref (bd i 1)), (2, .ref (bd i 2)), (4, .int x4_2)]) hx hb dX4_rise_22 rfl hl (by decide) rfl (fun ls hl => ?_)
          refine lv_aload_n hx hb dX4_rise_23 rfl (lv_at hl 1 rfl) ?_
          refine lv_aload_n hx hb dX4_rise_24 rfl (lv_at hl 2 rfl) ?_
          refine lv_aload_n hx hb dX4_rise_25 rfl (lv_at hl 3 rfl) ?_
          refine cl_i hD hS hA (va_runV (As := [.ref (bd i 1), .ref (bd i 2)]) (rest := []) ⟨hx, hb, hml, hown, hts⟩ (ct_X4_riseOff_1 hi1 hi2 h H.size) (cwV 2 hts gX4_rise_X4_riseOff rfl rfl rfl (by decide +kernel) ⟨Nat.le_of_ble_eq_true rfl, Nat.le_of_ble_eq_true rfl⟩) ⟨CPre.blind, va_recv hAB.1 hP (ci := 4) (q0 := 38) rfl rfl, wd_pre hAB hP hD hS hA⟩ rfl rfl hl.1 rfl (lv_room (Nat.le_of_ble_eq_true rfl)) dX4_rise_26 ⟨Nat.zero_le _, Nat.zero_le _⟩) (fun r_18 u H locs h hP hD hS => ?_)
          obtain ⟨f1_19, f2_20⟩ := u
          have hP : va_P D vwCl (WC cI cJ cE cD ad bd dd bHK bHP bPF bWC bRi bBe bFi bWa dB dS dN tC tKi tEa tHa tPr tEx tSt tTo tBe kC kKi kEa kHa kPr kEx kSt kTo kBe aC aWh aTa aWa iRo iEa iLa cC nC nFo nQd nRo nBe nEa nMi nHa nER nMR nTh nPa nOu nFr nQu eM eL eC eS (va_up eB i f1_19) (va_up eE i f2_20) eF eG) H := hP
          have hD : va_D A (WC cI cJ cE cD ad bd dd bHK bHP bPF bWC bRi bBe bFi bWa dB dS dN tC tKi tEa tHa tPr tEx tSt tTo tBe kC kKi kEa kHa kPr kEx kSt kTo kBe aC aWh aTa aWa iRo iEa iLa cC nC nFo nQd nRo nBe nEa nMi nHa nER nMR nTh nPa nOu nFr nQu eM eL eC eS (va_up eB i f1_19) (va_up eE i f2_20) eF eG) := hD
          refine lv_if_eq (tgt := 34) hx hb dX4_rise_29 (by decide) (fun c_21 => ?_) (fun c_21 => ?_)
          · have h := h.1 c_21
            exact B34 r_15 x4_2 f1_19 f2_20 h H locs ls hP hD hS (lv_sub hl [1, 2, 3, 0, 4] rfl)
          · have h := h.2 c_21
            refine lv_iconst (v := 1) hx hb dX4_rise_32 (by decide) ?_
            refine lv_istore_n (lv' := [(3, .int 1), (0, .ref (ad 38)), (1, .ref (bd i 1)), (2, .ref (bd i 2)), (4, .int x4_2)]) hx hb dX4_rise_33 rfl hl (by decide) rfl (fun ls hl => ?_)
            exact B34 1 x4_2 f1_19 f2_20 h H locs ls hP hD hS (lv_sub hl [1, 2, 3, 0, 4] rfl)
  obtain ⟨n5, h⟩ := h
  refine L5 _ (fun f1_5 f2_6 h H locs ls hP hD hS hl => ?_) n5 1 0 f1 f2 h H locs ls hP hD hS (lv_sub hl [2, 3, 4, 1, 0] rfl)
  exact rt_v (f1_5, f2_6) hQ hx hb hr hlk hP hD hS ⟨Nat.zero_le _, Nat.zero_le _⟩ dX4_rise_40 h
set_option maxHeartbeats 4000000 in
set_option maxRecDepth 100000 in
theorem ct_X4_rise_2 {l : Launch} {D : va_G} {cI cJ cZ cE cD cK : ClassId} {ad : Nat → Nat} {bd dd : Nat → Nat → Nat} {bHK : Int32} {bHP : Int32} {bPF : Int32} {bWC : Int32} {bRi : Int32} {bBe : Int32} {bFi : Int32} {bWa : Nat → Int32} {dB : Nat → Int32} {dS : Nat → Int32} {dN : Nat → Nat → Int64} {tC : Int32} {tKi : Nat → Int32} {tEa : Nat → Int32} {tHa : Nat → Int32} {tPr : Nat → Int32} {tEx : Nat → Int32} {tSt : Nat → Int32} {tTo : Nat → Int32} {tBe : Nat → Int32} {kC : Int32} {kKi : Nat → Int32} {kEa : Nat → Int32} {kHa : Nat → Int32} {kPr : Nat → Int32} {kEx : Nat → Int32} {kSt : Nat → Int32} {kTo : Nat → Int32} {kBe : Nat → Int32} {aC : Int32} {aWh : Nat → Int32} {aTa : Nat → Int32} {aWa : Nat → Int32} {iRo : Nat → Int32} {iEa : Nat → Int32} {iLa : Nat → Int32} {cC : Int32} {nC : Int32} {nFo : Int32} {nQd : Int32} {nRo : Nat → Int32} {nBe : Nat → Int32} {nEa : Nat → Int32} {nMi : Nat → Int32} {nHa : Nat → Int32} {nER : Nat → Int32} {nMR : Nat → Int32} {nTh : Nat → Int32} {nPa : Nat → Int32} {nOu : Nat → Int32} {nFr : Nat → Int32} {nQu : Nat → Int32} {eM : Nat} {eL : Nat → Int32} {eC : Nat → Int64} {eS : Nat → Int64} {eB : Nat → Nat → Int32} {eE : Nat → Nat → Int32} {eF : Nat → Nat → Int32} {eG : Nat → Nat → Int32} {i : Nat} {f1 : Nat → Int32} {f2 : Nat → Int32}  {Qp : (Nat → Int32) → (Nat → Int32) → Prop} (hi1 : i < eM) (hi2 : i < eM)  (h : wp_X4_rise f1 f2 nC nRo nBe nEa nMi nHa nER nMR nTh nPa Qp) : CTv l yX4_rise wsX4_rise rm_X4_rise D (tyL cI cJ cZ cE cD cK) [.ref (ad 38), .ref (bd i 3), .ref (bd i 4)] (WC cI cJ cE cD ad bd dd bHK bHP bPF bWC bRi bBe bFi bWa dB dS dN tC tKi tEa tHa tPr tEx tSt tTo tBe kC kKi kEa kHa kPr kEx kSt kTo kBe aC aWh aTa aWa iRo iEa iLa cC nC nFo nQd nRo nBe nEa nMi nHa nER nMR nTh nPa nOu nFr nQu eM eL eC eS eB eE (va_up eF i f1) (va_up eG i f2)) (fun u : (Nat → Int32) × (Nat → Int32) => Qp u.1 u.2) (fun u : (Nat → Int32) × (Nat → Int32) => (WC cI cJ cE cD ad bd dd bHK bHP bPF bWC bRi bBe bFi bWa dB dS dN tC tKi tEa tHa tPr tEx tSt tTo tBe kC kKi kEa kHa kPr kEx kSt kTo kBe aC aWh aTa aWa iRo iEa iLa cC nC nFo nQd nRo nBe nEa nMi nHa nER nMR nTh nPa nOu nFr nQu eM eL eC eS eB eE (va_up eF i u.1) (va_up eG i u.2))) 0 0 := by
  refine ent_v (cc := cX4_rise) (maxL := 5) (ret := none) (by decide) rfl (Nat.le_of_ble_eq_true rfl) ?_
  intro p e s m args below meth c A Q hQ hx hb hr hml hown hts hlk hA hAB hP hD hS ls hl
  have hown : s.vm.findClass RX4 = some m.cls := hown
  have hl : lv_has ls 5 [(0, .ref (ad 38)), (1, .ref (bd i 3)), (2, .ref (bd i 4))] := hl
  generalize hH : s.heap = H at hP ⊢
  have hS : va_S A s.heap H [] := by rw [← hH]; exact hS
  clear hH
  generalize ([] : List Loc) = locs at hS ⊢
  refine lv_iconst (v := 1) hx hb dX4_rise_0 (by decide) ?_
  refine lv_istore_n (lv' := [(3, .int 1), (0, .ref (ad 38)), (1, .ref (bd i 3)), (2, .ref (bd i 4))]) hx hb dX4_rise_1 rfl hl (by decide) rfl (fun ls hl => ?_)
  refine lv_iconst (v := 0) hx hb dX4_rise_2 (by decide) ?_
  refine lv_istore (lv' := [(4, .int 0), (3, .int 1), (0, .ref (ad 38)), (1, .ref (bd i 3)), (2, .ref (bd i 4))]) hx hb dX4_rise_3 hl (by decide) rfl (fun ls hl => ?_)
  have L5 : ∀ (x5 : (Nat → Int32) → (Nat → Int32) → Prop) (hk5 : ∀ (f1_5 : Nat → Int32) (f2_6 : Nat → Int32), x5 f1_5 f2_6 → ∀ (H : Heap) (locs : List Loc) (ls : Array Slot), va_P D vwCl (WC cI cJ cE cD ad bd dd bHK bHP bPF bWC bRi bBe bFi bWa dB dS dN tC tKi tEa tHa tPr tEx tSt tTo tBe kC kKi kEa kHa kPr kEx kSt kTo kBe aC aWh aTa aWa iRo iEa iLa cC nC nFo nQd nRo nBe nEa nMi nHa nER nMR nTh nPa nOu nFr nQu eM eL eC eS eB eE (va_up eF i f1_5) (va_up eG i f2_6)) H → va_D A (WC cI cJ cE cD ad bd dd bHK bHP bPF bWC bRi bBe bFi bWa dB dS dN tC tKi tEa tHa tPr tEx tSt tTo tBe kC kKi kEa kHa kPr kEx kSt kTo kBe aC aWh aTa aWa iRo iEa iLa cC nC nFo nQd nRo nBe nEa nMi nHa nER nMR nTh nPa nOu nFr nQu eM eL eC eS eB eE (va_up eF i f1_5) (va_up eG i f2_6)) → va_S A s.heap H locs → lv_has ls 5 [] → W p l e (headSpec wsX4_rise rm_X4_rise).room s m args below meth c H locs 0 0 Q (F0 m 40 ls [])) (n5 : Nat) (x3_1 : Int32) (x4_2 : Int32) (f1_3 : Nat → Int32) (f2_4 : Nat → Int32), wp_X4_rise_L5 nBe nC nER nEa nHa nMR nMi nPa nRo nTh x5 n5 x3_1 x4_2 f1_3 f2_4 → ∀ (H : Heap) (locs : List Loc) (ls : Array Slot), va_P D vwCl (WC cI cJ cE cD ad bd dd bHK bHP bPF bWC bRi bBe bFi bWa dB dS dN tC tKi tEa tHa tPr tEx tSt tTo tBe kC kKi kEa kHa kPr kEx kSt kTo kBe aC aWh aTa aWa iRo iEa iLa cC nC nFo nQd nRo nBe nEa nMi nHa nER nMR nTh nPa nOu nFr nQu eM eL eC eS eB eE (va_up eF i f1_3) (va_up eG i f2_4)) H → va_D A (WC cI cJ cE cD ad bd dd bHK bHP bPF bWC bRi bBe bFi bWa dB dS dN tC tKi tEa tHa tPr tEx tSt tTo tBe kC kKi kEa kHa kPr kEx kSt kTo kBe aC aWh aTa aWa iRo iEa iLa cC nC nFo nQd nRo nBe nEa nMi nHa nER nMR nTh nPa nOu nFr nQu eM eL eC eS eB eE (va_up eF i f1_3) (va_up eG i f2_4)) → va_S A s.heap H locs → lv_has ls 5 [(0, .ref (ad 38)), (1, .ref (bd i 3)), (2, .ref (bd i 4)), (3, .int x3_1), (4, .int x4_2)] → W p l e (headSpec wsX4_rise rm_X4_rise).room s m args below meth c H locs 0 0 Q (F0 m 5 ls []) := by
    intro x5 hk5 n5
    induction n5 with
    | zero => intro x3_1 x4_2 f1_3 f2_4 h; exact False.elim h
    | succ n5 ih5 =>
      intro x3_1 x4_2 f1_3 f2_4 h H locs ls hP hD hS hl
      have B34 : ∀ (x3_7 : Int32) (x4_8 : Int32) (f1_9 : Nat → Int32) (f2_10 : Nat → Int32), wp_X4_rise_b34 (wp_X4_rise_L5 nBe nC nER nEa nHa nMR nMi nPa nRo nTh x5 n5) x3_7 x4_8 f1_9 f2_10 → ∀ (H : Heap) (locs : List Loc) (ls : Array Slot), va_P D vwCl (WC cI cJ cE cD ad bd dd bHK bHP bPF bWC bRi bBe bFi bWa dB dS dN tC tKi tEa tHa tPr tEx tSt tTo tBe kC kKi kEa kHa kPr kEx kSt kTo kBe aC aWh aTa aWa iRo iEa iLa cC nC nFo nQd nRo nBe nEa nMi nHa nER nMR nTh nPa nOu nFr nQu eM eL eC eS eB eE (va_up eF i f1_9) (va_up eG i f2_10)) H → va_D A (WC cI cJ cE cD ad bd dd bHK bHP bPF bWC bRi bBe bFi bWa dB dS dN tC tKi tEa tHa tPr tEx tSt tTo tBe kC kKi kEa kHa kPr kEx kSt kTo kBe aC aWh aTa aWa iRo iEa iLa cC nC nFo nQd nRo nBe nEa nMi nHa nER nMR nTh nPa nOu nFr nQu eM eL eC eS eB eE (va_up eF i f1_9) (va_up eG i f2_10)) → va_S A s.heap H locs → lv_has ls 5 [(0, .ref (ad 38)), (1, .ref (bd i 3)), (2, .ref (bd i 4)), (3, .int x3_7), (4, .int x4_8)] → W p l e (headSpec wsX4_rise rm_X4_rise).room s m args below meth c H locs 0 0 Q (F0 m 34 ls []) := by
        intro x3_7 x4_8 f1_9 f2_10 h H locs ls hP hD hS hl
        obtain ⟨x4_11, e_12⟩ : ∃ y : Int32, y = x4_8 + 1 := ⟨_, rfl⟩
        have h := h x4_11 e_12
        refine lv_iinc (v := x4_11) (lv' := [(4, .int x4_11), (0, .ref (ad 38)), (1, .ref (bd i 3)), (2, .ref (bd i 4)), (3, .int x3_7)]) hx hb dX4_rise_34 hl (k := 4) rfl (by rw [e_12]; rfl) (by decide) rfl (fun ls hl => ?_)
        refine lv_goto (tgt := 5) hx hb dX4_rise_37 (by decide) ?_
        exact ih5 x3_7 x4_11 f1_9 f2_10 h H locs ls hP hD hS (lv_sub hl [1, 2, 3, 4, 0] rfl)
      refine lv_iload_n hx hb dX4_rise_5 rfl (lv_at hl 3 rfl) ?_
      refine lv_if_eq (tgt := 40) hx hb dX4_rise_6 (by decide) (fun c_13 => ?_) (fun c_13 => ?_)
      · have h := h.1 c_13
        exact hk5 f1_3 f2_4 h H locs ls hP hD hS (lv_sub hl [] rfl)
      · have h := h.2 c_13
        refine lv_iload hx hb dX4_rise_9 (lv_at hl 4 rfl) ?_
        refine lv_bipush (v := 48) hx hb dX4_rise_11 (by decide) ?_
        refine lv_icmp_ge (tgt := 40) hx hb dX4_rise_13 (by decide) (fun c_14 => ?_) (fun c_14 => ?_)
        · have h := h.1 c_14
          exact hk5 f1_3 f2_4 h H locs ls hP hD hS (lv_sub hl [] rfl)
        · have h := h.2 c_14
          refine lv_aload_n hx hb dX4_rise_16 rfl (lv_at hl 0 rfl) ?_
          refine lv_aload_n hx hb dX4_rise_17 rfl (lv_at hl 1 rfl) ?_
          refine lv_aload_n hx hb dX4_rise_18 rfl (lv_at hl 2 rfl) ?_
          refine cl_i hD hS hA (va_runV (As := [.ref (bd i 3), .ref (bd i 4)]) (rest := []) ⟨hx, hb, hml, hown, hts⟩ (ct_X4_riseOn_2 hi1 hi2 h H.size) (cwV 2 hts gX4_rise_X4_riseOn rfl rfl rfl (by decide +kernel) ⟨Nat.le_of_ble_eq_true rfl, Nat.le_of_ble_eq_true rfl⟩) ⟨CPre.blind, va_recv hAB.1 hP (ci := 4) (q0 := 38) rfl rfl, wd_pre hAB hP hD hS hA⟩ rfl rfl hl.1 rfl (lv_room (Nat.le_of_ble_eq_true rfl)) dX4_rise_19 ⟨Nat.zero_le _, Nat.zero_le _⟩) (fun r_15 u H locs h hP hD hS => ?_)
          obtain ⟨f1_16, f2_17⟩ := u
          have hP : va_P D vwCl (WC cI cJ cE cD ad bd dd bHK bHP bPF bWC bRi bBe bFi bWa dB dS dN tC tKi tEa tHa tPr tEx tSt tTo tBe kC kKi kEa kHa kPr kEx kSt kTo kBe aC aWh aTa aWa iRo iEa iLa cC nC nFo nQd nRo nBe nEa nMi nHa nER nMR nTh nPa nOu nFr nQu eM eL eC eS eB eE (va_up eF i f1_16) (va_up eG i f2_17)) H := hP
          have hD : va_D A (WC cI cJ cE cD ad bd dd bHK bHP bPF bWC bRi bBe bFi bWa dB dS dN tC tKi tEa tHa tPr tEx tSt tTo tBe kC kKi kEa kHa kPr kEx kSt kTo kBe aC aWh aTa aWa iRo iEa iLa cC nC nFo nQd nRo nBe nEa nMi nHa nER nMR nTh nPa nOu nFr nQu eM eL eC eS eB eE (va_up eF i f1_16) (va_up eG i f2_17)) := hD
          refine lv_istore_n (lv' := [(3, .int r_15), (0, .ref (ad 38)), (1, .ref (bd i 3)), (2, .ref (bd i 4)), (4, .int x4_2)]) hx hb dX4_rise_22 rfl hl (by decide) rfl (fun ls hl => ?_)
          refine lv_aload_n hx hb dX4_rise_23 rfl (lv_at hl 1 rfl) ?_
          refine lv_aload_n hx hb dX4_rise_24 rfl (lv_at hl 2 rfl) ?_
          refine lv_aload_n hx hb dX4_rise_25 rfl (lv_at hl 3 rfl) ?_
          refine cl_i hD hS hA (va_runV (As := [.ref (bd i 3), .ref (bd i 4)]) (rest := []) ⟨hx, hb, hml, hown, hts⟩ (ct_X4_riseOff_2 hi1 hi2 h H.size) (cwV 2 hts gX4_rise_X4_riseOff rfl rfl rfl (by decide +kernel) ⟨Nat.le_of_ble_eq_true rfl, Nat.le_of_ble_eq_true rfl⟩) ⟨CPre.blind, va_recv hAB.1 hP (ci := 4) (q0 := 38) rfl rfl, wd_pre hAB hP hD hS hA⟩ rfl rfl hl.1 rfl (lv_room (Nat.le_of_ble_eq_true rfl)) dX4_rise_26 ⟨Nat.zero_le _, Nat.zero_le _⟩) (fun r_18 u H locs h hP hD hS => ?_)
          obtain ⟨f1_19, f2_20⟩ := u
          have hP : va_P D vwCl (WC cI cJ cE cD ad bd dd bHK bHP bPF bWC bRi bBe bFi bWa dB dS dN tC tKi tEa tHa tPr tEx tSt tTo tBe kC kKi kEa kHa kPr kEx kSt kTo kBe aC aWh aTa aWa iRo iEa iLa cC nC nFo nQd nRo nBe nEa nMi nHa nER nMR nTh nPa nOu nFr nQu eM eL eC eS eB eE (va_up eF i f1_19) (va_up eG i f2_20)) H := hP
          have hD : va_D A (WC cI cJ cE cD ad bd dd bHK bHP bPF bWC bRi bBe bFi bWa dB dS dN tC tKi tEa tHa tPr tEx tSt tTo tBe kC kKi kEa kHa kPr kEx kSt kTo kBe aC aWh aTa aWa iRo iEa iLa cC nC nFo nQd nRo nBe nEa nMi nHa nER nMR nTh nPa nOu nFr nQu eM eL eC eS eB eE (va_up eF i f1_19) (va_up eG i f2_20)) := hD
          refine lv_if_eq (tgt := 34) hx hb dX4_rise_29 (by decide) (fun c_21 => ?_) (fun c_21 => ?_)
          · have h := h.1 c_21
            exact B34 r_15 x4_2 f1_19 f2_20 h H locs ls hP hD hS (lv_sub hl [1, 2, 3, 0, 4] rfl)
          · have h := h.2 c_21
            refine lv_iconst (v := 1) hx hb dX4_rise_32 (by decide) ?_
            refine lv_istore_n (lv' := [(3, .int 1), (0, .ref (ad 38)), (1, .ref (bd i 3)), (2, .ref (bd i 4)), (4, .int x4_2)]) hx hb dX4_rise_33 rfl hl (by decide) rfl (fun ls hl => ?_)
            exact B34 1 x4_2 f1_19 f2_20 h H locs ls hP hD hS (lv_sub hl [1, 2, 3, 0, 4] rfl)
  obtain ⟨n5, h⟩ := h
  refine L5 _ (fun f1_5 f2_6 h H locs ls hP hD hS hl => ?_) n5 1 0 f1 f2 h H locs ls hP hD hS (lv_sub hl [2, 3, 4, 1, 0] rfl)
  exact rt_v (f1_5, f2_6) hQ hx hb hr hlk hP hD hS ⟨Nat.zero_le _, Nat.zero_le _⟩ dX4_rise_40 h
def wp_X4_riseFromStart_L21 (nC : Int32) (f2_6 : Nat → Int32) (x21 : (Int32) → Prop) : Nat → (Int32) → (Int32) → Prop
  | 0, _, _ => False
  | n21 + 1, x3_7, x4_8 =>
  ((nC ≤ x4_8 → x21 x3_7) ∧
   (¬ nC ≤ x4_8 → vp_in x4_8 12 ∧ ∀ x3_11 : Int32, x3_11 = (if x3_7 < (f2_6 (Int32.toNatClampNeg x4_8)) then (f2_6 (Int32.toNatClampNeg x4_8)) else x3_7) → ∀ x4_13 : Int32, x4_13 = x4_8 + 1 → (wp_X4_riseFromStart_L21 nC f2_6 x21 n21) x3_11 x4_13))
def wp_X4_riseFromStart (f1 : Nat → Int32) (f2 : Nat → Int32) (nC : Int32) (nRo : Nat → Int32) (nBe : Nat → Int32) (nEa : Nat → Int32) (nMi : Nat → Int32) (nHa : Nat → Int32) (nER : Nat → Int32) (nMR : Nat → Int32) (nTh : Nat → Int32) (nPa : Nat → Int32)  (Qp : Int32 → (Nat → Int32) → (Nat → Int32) → Prop) : Prop :=
  ∀ f1_1 : Nat → Int32, f1_1 = jFill (f1) 12 0 → ∀ f2_3 : Nat → Int32, f2_3 = jFill (f2) 12 0 → wp_X4_rise f1_1 f2_3 nC nRo nBe nEa nMi nHa nER nMR nTh nPa (fun (f1_5 : Nat → Int32) (f2_6 : Nat → Int32) => (∃ n21 : Nat, wp_X4_riseFromStart_L21 nC f2_6 (fun (x3_9 : Int32) => Qp x3_9 f1_5 f2_6) n21 0 0))
theorem inn_X4_riseFromStart_4 : ∀ w ∈ u_ws RX4 TX4 15, w ∈ wsX4_riseFromStart := fun _ h => List.mem_cons_of_mem _ (List.mem_append_right _ h)
def rm_X4_riseFromStart : Room := { frames := 3, cells := 0, slots := 0, locals := 75 }
set_option maxHeartbeats 4000000 in
set_option maxRecDepth 100000 in
theorem ct_X4_riseFromStart {l : Launch} {D : va_G} {cI cJ cZ cE cD cK : ClassId} {ad : Nat → Nat} {bd dd : Nat → Nat → Nat} {bHK : Int32} {bHP : Int32} {bPF : Int32} {bWC : Int32} {bRi : Int32} {bBe : Int32} {bFi : Int32} {bWa : Nat → Int32} {dB : Nat → Int32} {dS : Nat → Int32} {dN : Nat → Nat → Int64} {tC : Int32} {tKi : Nat → Int32} {tEa : Nat → Int32} {tHa : Nat → Int32} {tPr : Nat → Int32} {tEx : Nat → Int32} {tSt : Nat → Int32} {tTo : Nat → Int32} {tBe : Nat → Int32} {kC : Int32} {kKi : Nat → Int32} {kEa : Nat → Int32} {kHa : Nat → Int32} {kPr : Nat → Int32} {kEx : Nat → Int32} {kSt : Nat → Int32} {kTo : Nat → Int32} {kBe : Nat → Int32} {aC : Int32} {aWh : Nat → Int32} {aTa : Nat → Int32} {aWa : Nat → Int32} {iRo : Nat → Int32} {iEa : Nat → Int32} {iLa : Nat → Int32} {cC : Int32} {nC : Int32} {nFo : Int32} {nQd : Int32} {nRo : Nat → Int32} {nBe : Nat → Int32} {nEa : Nat → Int32} {nMi : Nat → Int32} {nHa : Nat → Int32} {nER : Nat → Int32} {nMR : Nat → Int32} {nTh : Nat → Int32} {nPa : Nat → Int32} {nOu : Nat → Int32} {nFr : Nat → Int32} {nQu : Nat → Int32} {eM : Nat} {eL : Nat → Int32} {eC : Nat → Int64} {eS : Nat → Int64} {eB : Nat → Nat → Int32} {eE : Nat → Nat → Int32} {eF : Nat → Nat → Int32} {eG : Nat → Nat → Int32} {i : Nat} {f1 : Nat → Int32} {f2 : Nat → Int32}  {Qp : Int32 → (Nat → Int32) → (Nat → Int32) → Prop} (hi1 : i < eM) (hi2 : i < eM)  (h : wp_X4_riseFromStart f1 f2 nC nRo nBe nEa nMi nHa nER nMR nTh nPa Qp) : CTi l yX4_riseFromStart wsX4_riseFromStart rm_X4_riseFromStart D (tyL cI cJ cZ cE cD cK) [.ref (ad 38), .ref (bd i 1), .ref (bd i 2)] (WC cI cJ cE cD ad bd dd bHK bHP bPF bWC bRi bBe bFi bWa dB dS dN tC tKi tEa tHa tPr tEx tSt tTo tBe kC kKi kEa kHa kPr kEx kSt kTo kBe aC aWh aTa aWa iRo iEa iLa cC nC nFo nQd nRo nBe nEa nMi nHa nER nMR nTh nPa nOu nFr nQu eM eL eC eS (va_up eB i f1) (va_up eE i f2) eF eG) (fun (r : Int32) (u : (Nat → Int32) × (Nat → Int32)) => Qp r u.1 u.2) (fun u : (Nat → Int32) × (Nat → Int32) => (WC cI cJ cE cD ad bd dd bHK bHP bPF bWC bRi bBe bFi bWa dB dS dN tC tKi tEa tHa tPr tEx tSt tTo tBe kC kKi kEa kHa kPr kEx kSt kTo kBe aC aWh aTa aWa iRo iEa iLa cC nC nFo nQd nRo nBe nEa nMi nHa nER nMR nTh nPa nOu nFr nQu eM eL eC eS (va_up eB i u.1) (va_up eE i u.2) eF eG)) 0 0 := by
  refine ent_i (cc := cX4_riseFromStart) (maxL := 5) (ret := (some .int)) (by decide) rfl (Nat.le_of_ble_eq_true rfl) ?_
  intro p e s m args below meth c A Q hQ hx hb hr hml hown hts hlk hA hAB hP hD hS ls hl
  have hown : s.vm.findClass RX4 = some m.cls := hown
  have hl : lv_has ls 5 [(0, .ref (ad 38)), (1, .ref (bd i 1)), (2, .ref (bd i 2))] := hl
  generalize hH : s.heap = H at hP ⊢
  have hS : va_S A s.heap H [] := by rw [← hH]; exact hS
  clear hH
  generalize ([] : List Loc) = locs at hS ⊢
  refine lv_aload_n hx hb dX4_riseFromStart_0 rfl (lv_at hl 1 rfl) ?_
  refine lv_iconst (v := 0) hx hb dX4_riseFromStart_1 (by decide) ?_
  refine cl_v hD hS hA (va_runS (As := [.ref (bd i 1), .int 0]) (rest := []) ⟨hx, hb, hml, hown, hts⟩ (ct_J7_fill_53178 (q := (52 + (i * 5 + 1))) ((gB_1 hi1).trans (by rw [va_up_at])) (by decide) H.size) (va_cwS 2 hts gX4_riseFromStart_J7_fill_53178 rfl rfl rfl (by decide +kernel) ⟨Nat.le_of_ble_eq_true rfl, Nat.le_of_ble_eq_true rfl⟩) ⟨CPre.blind, wd_pre hAB hP hD hS hA⟩ rfl rfl hl.1 rfl (lv_room (Nat.le_of_ble_eq_true rfl)) dX4_riseFromStart_2 ⟨Nat.zero_le _, Nat.zero_le _⟩) (fun u H locs _ hP hD hS => ?_)
  obtain ⟨f1_1, e_2⟩ : ∃ z, z = jFill f1 12 0 := ⟨_, rfl⟩
  have hP : va_P D vwCl (WC cI cJ cE cD ad bd dd bHK bHP bPF bWC bRi bBe bFi bWa dB dS dN tC tKi tEa tHa tPr tEx tSt tTo tBe kC kKi kEa kHa kPr kEx kSt kTo kBe aC aWh aTa aWa iRo iEa iLa cC nC nFo nQd nRo nBe nEa nMi nHa nER nMR nTh nPa nOu nFr nQu eM eL eC eS (va_up eB i f1_1) (va_up eE i f2) eF eG) H := by rw [e_2]; rw [tB_1 hi1, va_up_up] at hP; exact hP
  have hD : va_D A (WC cI cJ cE cD ad bd dd bHK bHP bPF bWC bRi bBe bFi bWa dB dS dN tC tKi tEa tHa tPr tEx tSt tTo tBe kC kKi kEa kHa kPr kEx kSt kTo kBe aC aWh aTa aWa iRo iEa iLa cC nC nFo nQd nRo nBe nEa nMi nHa nER nMR nTh nPa nOu nFr nQu eM eL eC eS (va_up eB i f1_1) (va_up eE i f2) eF eG) := by rw [e_2]; rw [tB_1 hi1, va_up_up] at hD; exact hD
  have h := h f1_1 e_2
  refine lv_aload_n hx hb dX4_riseFromStart_5 rfl (lv_at hl 2 rfl) ?_
  refine lv_iconst (v := 0) hx hb dX4_riseFromStart_6 (by decide) ?_
  refine cl_v hD hS hA (va_runS (As := [.ref (bd i 2), .int 0]) (rest := []) ⟨hx, hb, hml, hown, hts⟩ (ct_J7_fill_53178 (q := (52 + (i * 5 + 2))) ((gB_2 hi2).trans (by rw [va_up_at])) (by decide) H.size) (va_cwS 2 hts gX4_riseFromStart_J7_fill_53178 rfl rfl rfl (by decide +kernel) ⟨Nat.le_of_ble_eq_true rfl, Nat.le_of_ble_eq_true rfl⟩) ⟨CPre.blind, wd_pre hAB hP hD hS hA⟩ rfl rfl hl.1 rfl (lv_room (Nat.le_of_ble_eq_true rfl)) dX4_riseFromStart_7 ⟨Nat.zero_le _, Nat.zero_le _⟩) (fun u H locs _ hP hD hS => ?_)
  obtain ⟨f2_3, e_4⟩ : ∃ z, z = jFill f2 12 0 := ⟨_, rfl⟩
  have hP : va_P D vwCl (WC cI cJ cE cD ad bd dd bHK bHP bPF bWC bRi bBe bFi bWa dB dS dN tC tKi tEa tHa tPr tEx tSt tTo tBe kC kKi kEa kHa kPr kEx kSt kTo kBe aC aWh aTa aWa iRo iEa iLa cC nC nFo nQd nRo nBe nEa nMi nHa nER nMR nTh nPa nOu nFr nQu eM eL eC eS (va_up eB i f1_1) (va_up eE i f2_3) eF eG) H := by rw [e_4]; rw [tB_2 hi2, va_up_up] at hP; exact hP
  have hD : va_D A (WC cI cJ cE cD ad bd dd bHK bHP bPF bWC bRi bBe bFi bWa dB dS dN tC tKi tEa tHa tPr tEx tSt tTo tBe kC kKi kEa kHa kPr kEx kSt kTo kBe aC aWh aTa aWa iRo iEa iLa cC nC nFo nQd nRo nBe nEa nMi nHa nER nMR nTh nPa nOu nFr nQu eM eL eC eS (va_up eB i f1_1) (va_up eE i f2_3) eF eG) := by rw [e_4]; rw [tB_2 hi2, va_up_up] at hD; exact hD
  have h := h f2_3 e_4
  refine lv_aload_n hx hb dX4_riseFromStart_10 rfl (lv_at hl 0 rfl) ?_
  refine lv_aload_n hx hb dX4_riseFromStart_11 rfl (lv_at hl 1 rfl) ?_
  refine lv_aload_n hx hb dX4_riseFromStart_12 rfl (lv_at hl 2 rfl) ?_
  refine cl_v hD hS hA (va_runV (As := [.ref (bd i 1), .ref (bd i 2)]) (rest := []) ⟨hx, hb, hml, hown, hts⟩ (ct_X4_rise_1 hi1 hi2 h H.size) (cwV 2 hts gX4_riseFromStart_X4_rise rfl rfl rfl (by decide +kernel) ⟨Nat.le_of_ble_eq_true rfl, Nat.le_of_ble_eq_true rfl⟩) ⟨CPre.blind, va_recv hAB.1 hP (ci := 4) (q0 := 38) rfl rfl, wd_pre hAB hP hD hS hA⟩ rfl rfl hl.1 rfl (lv_room (Nat.le_of_ble_eq_true rfl)) dX4_riseFromStart_13 ⟨Nat.zero_le _, Nat.zero_le _⟩) (fun u H locs h hP hD hS => ?_)
  obtain ⟨f1_5, f2_6⟩ := u
  have hP : va_P D vwCl (WC cI cJ cE cD ad bd dd bHK bHP bPF bWC bRi bBe bFi bWa dB dS dN tC tKi tEa tHa tPr tEx tSt tTo tBe kC kKi kEa kHa kPr kEx kSt kTo kBe aC aWh aTa aWa iRo iEa iLa cC nC nFo nQd nRo nBe nEa nMi nHa nER nMR nTh nPa nOu nFr nQu eM eL eC eS (va_up eB i f1_5) (va_up eE i f2_6) eF eG) H := hP
  have hD : va_D A (WC cI cJ cE cD ad bd dd bHK bHP bPF bWC bRi bBe bFi bWa dB dS dN tC tKi tEa tHa tPr tEx tSt tTo tBe kC kKi kEa kHa kPr kEx kSt kTo kBe aC aWh aTa aWa iRo iEa iLa cC nC nFo nQd nRo nBe nEa nMi nHa nER nMR nTh nPa nOu nFr nQu eM eL eC eS (va_up eB i f1_5) (va_up eE i f2_6) eF eG) := hD
  refine lv_iconst (v := 0) hx hb dX4_riseFromStart_16 (by decide) ?_
  refine lv_istore_n (lv' := [(3, .int 0), (0, .ref (ad 38)), (1, .ref (bd i 1)), (2, .ref (bd i 2))]) hx hb dX4_riseFromStart_17 rfl hl (by decide) rfl (fun ls hl => ?_)
  refine lv_iconst (v := 0) hx hb dX4_riseFromStart_18 (by decide) ?_
  refine lv_istore (lv' := [(4, .int 0), (3, .int 0), (0, .ref (ad 38)), (1, .ref (bd i 1)), (2, .ref (bd i 2))]) hx hb dX4_riseFromStart_19 hl (by decide) rfl (fun ls hl => ?_)
  have L21 : ∀ (x21 : (Int32) → Prop) (hk21 : ∀ (x3_9 : Int32), x21 x3_9 → ∀ (H : Heap) (locs : List Loc) (ls : Array Slot), va_P D vwCl (WC cI cJ cE cD ad bd dd bHK bHP bPF bWC bRi bBe bFi bWa dB dS dN tC tKi tEa tHa tPr tEx tSt tTo tBe kC kKi kEa kHa kPr kEx kSt kTo kBe aC aWh aTa aWa iRo iEa iLa cC nC nFo nQd nRo nBe nEa nMi nHa nER nMR nTh nPa nOu nFr nQu eM eL eC eS (va_up eB i f1_5) (va_up eE i f2_6) eF eG) H → va_D A (WC cI cJ cE cD ad bd dd bHK bHP bPF bWC bRi bBe bFi bWa dB dS dN tC tKi tEa tHa tPr tEx tSt tTo tBe kC kKi kEa kHa kPr kEx kSt kTo kBe aC aWh aTa aWa iRo iEa iLa cC nC nFo nQd nRo nBe nEa nMi nHa nER nMR nTh nPa nOu nFr nQu eM eL eC eS (va_up eB i f1_5) (va_up eE i f2_6) eF eG) → va_S A s.heap H locs → lv_has ls 5 [(3, .int x3_9)] → W p l e (headSpec wsX4_riseFromStart rm_X4_riseFromStart).room s m args below meth c H locs 0 0 Q (F0 m 45 ls [])) (n21 : Nat) (x3_7 : Int32) (x4_8 : Int32), wp_X4_riseFromStart_L21 nC f2_6 x21 n21 x3_7 x4_8 → ∀ (H : Heap) (locs : List Loc) (ls : Array Slot), va_P D vwCl (WC cI cJ cE cD ad bd dd bHK bHP bPF bWC bRi bBe bFi bWa dB dS dN tC tKi tEa tHa tPr tEx tSt tTo tBe kC kKi kEa kHa kPr kEx kSt kTo kBe aC aWh aTa aWa iRo iEa iLa cC nC nFo nQd nRo nBe nEa nMi nHa nER nMR nTh nPa nOu nFr nQu eM eL eC eS (va_up eB i f1_5) (va_up eE i f2_6) eF eG) H → va_D A (WC cI cJ cE cD ad bd dd bHK bHP bPF bWC bRi bBe bFi bWa dB dS dN tC tKi tEa tHa tPr tEx tSt tTo tBe kC kKi kEa kHa kPr kEx kSt kTo kBe aC aWh aTa aWa iRo iEa iLa cC nC nFo nQd nRo nBe nEa nMi nHa nER nMR nTh nPa nOu nFr nQu eM eL eC eS (va_up eB i f1_5) (va_up eE i f2_6) eF eG) → va_S A s.heap H locs → lv_has ls 5 [(0, .ref (ad 38)), (2, .ref (bd i 2)), (3, .int x3_7), (4, .int x4_8)] → W p l e (headSpec wsX4_riseFromStart rm_X4_riseFromStart).room s m args below meth c H locs 0 0 Q (F0 m 21 ls []) := by
    intro x21 hk21 n21
    induction n21 with
    | zero => intro x3_7 x4_8 h; exact False.elim h
    | succ n21 ih21 =>
      intro x3_7 x4_8 h H locs ls hP hD hS hl
      refine lv_iload hx hb dX4_riseFromStart_21 (lv_at hl 3 rfl) ?_
      refine lv_aload_n hx hb dX4_riseFromStart_23 rfl (lv_at hl 0 rfl) ?_
      refine va_get (D := D) (ci := 4) (C := RX4) (T := TX4) (N := 15) hx hb hts inn_X4_riseFromStart_4 hown hAB.1 hP 38 rfl rfl 0 (by decide) (hts (.fieldLink RX4 54 "BarnBench$Net" "count" "I") (by decide +kernel)) (fun _ h9 => h9) rfl dX4_riseFromStart_24 ?_
      refine lv_icmp_ge (tgt := 45) hx hb dX4_riseFromStart_27 (by decide) (fun c_10 => ?_) (fun c_10 => ?_)
      · have h := h.1 c_10
        exact hk21 x3_7 h H locs ls hP hD hS (lv_sub hl [2] rfl)
      · have h := h.2 c_10
        refine lv_iload_n hx hb dX4_riseFromStart_30 rfl (lv_at hl 2 rfl) ?_
        refine lv_aload_n hx hb dX4_riseFromStart_31 rfl (lv_at hl 1 rfl) ?_
        refine lv_iload hx hb dX4_riseFromStart_32 (lv_at hl 3 rfl) ?_
        refine lB_2 hx hb hAB hP hD hS hi2 h.1 dX4_riseFromStart_34 ?_
        have h := h.2
        refine va_mmax (rest := []) hx hb (by rw [hml]; exact hl.1.symm) hown (hts (.methodLink RX4 95 Lib.Math.max.name) (by decide +kernel)) (hts (.static Lib.Math.max.name) (by decide +kernel)) (hts (.initialized "java/lang/Math") (by decide +kernel)) (hts (.code Lib.Math.max.name Lib.Math.max.code 2 (some .int)) (by decide +kernel)) (Nat.le_of_ble_eq_true rfl) (Nat.le_of_ble_eq_true rfl) (Nat.zero_le _) (Nat.zero_le _) dX4_riseFromStart_35 ?_
        refine lv_topi (fun x3_11 e_12 => ?_)
        have h := h x3_11 e_12
        refine lv_istore_n (lv' := [(3, .int x3_11), (0, .ref (ad 38)), (2, .ref (bd i 2)), (4, .int x4_8)]) hx hb dX4_riseFromStart_38 rfl hl (by decide) rfl (fun ls hl => ?_)
        obtain ⟨x4_13, e_14⟩ : ∃ y : Int32, y = x4_8 + 1 := ⟨_, rfl⟩
        have h := h x4_13 e_14
        refine lv_iinc (v := x4_13) (lv' := [(4, .int x4_13), (3, .int x3_11), (0, .ref (ad 38)), (2, .ref (bd i 2))]) hx hb dX4_riseFromStart_39 hl (k := 3) rfl (by rw [e_14]; rfl) (by decide) rfl (fun ls hl => ?_)
        refine lv_goto (tgt := 21) hx hb dX4_riseFromStart_42 (by decide) ?_
        exact ih21 x3_11 x4_13 h H locs ls hP hD hS (lv_sub hl [2, 3, 1, 0] rfl)
  obtain ⟨n21, h⟩ := h
  refine L21 _ (fun x3_9 h H locs ls hP hD hS hl => ?_) n21 0 0 h H locs ls hP hD hS (lv_sub hl [2, 4, 1, 0] rfl)
  refine lv_iload_n hx hb dX4_riseFromStart_45 rfl (lv_at hl 0 rfl) ?_
  exact rt_i (f1_5, f2_6) hQ hx hb hr hlk hP hD hS ⟨Nat.zero_le _, Nat.zero_le _⟩ dX4_riseFromStart_46 h
def wp_X4_riseFromEnd_b43 (k17 : (Int32) → (Int32) → (Nat → Int32) → Prop) (x3_10 : Int32) (x4_11 : Int32) (f2_12 : Nat → Int32) : Prop :=
  ∀ x4_13 : Int32, x4_13 = x4_11 + 1 → k17 x3_10 x4_13 f2_12
def wp_X4_riseFromEnd_L17 (nC : Int32) (nOu : Nat → Int32) (x17 : (Int32) → (Nat → Int32) → Prop) : Nat → (Int32) → (Int32) → (Nat → Int32) → Prop
  | 0, _, _, _ => False
  | n17 + 1, x3_5, x4_6, f2_7 =>
  ((nC ≤ x4_6 → x17 x3_5 f2_7) ∧
   (¬ nC ≤ x4_6 → vp_in x4_6 12 ∧ (((nOu (Int32.toNatClampNeg x4_6)) ≤ 0 → wp_X4_riseFromEnd_b43 (wp_X4_riseFromEnd_L17 nC nOu x17 n17) x3_5 x4_6 f2_7) ∧
   (¬ (nOu (Int32.toNatClampNeg x4_6)) ≤ 0 → vp_in x4_6 12 ∧ ∀ f2_17 : Nat → Int32, f2_17 = upd f2_7 (Int32.toNatClampNeg x4_6) 0 → wp_X4_riseFromEnd_b43 (wp_X4_riseFromEnd_L17 nC nOu x17 n17) 1 x4_6 f2_17))))
def wp_X4_riseFromEnd (f1 : Nat → Int32) (f2 : Nat → Int32) (nC : Int32) (nRo : Nat → Int32) (nBe : Nat → Int32) (nEa : Nat → Int32) (nMi : Nat → Int32) (nHa : Nat → Int32) (nER : Nat → Int32) (nMR : Nat → Int32) (nTh : Nat → Int32) (nPa : Nat → Int32) (nOu : Nat → Int32)  (Qp : (Nat → Int32) → (Nat → Int32) → Prop) : Prop :=
  ∀ f1_1 : Nat → Int32, f1_1 = jFill (f1) 12 (-1000000) → ∀ f2_3 : Nat → Int32, f2_3 = jFill (f2) 12 (-1000000) → (∃ n17 : Nat, wp_X4_riseFromEnd_L17 nC nOu (fun (x3_8 : Int32) (f2_9 : Nat → Int32) => ((x3_8 = 0 → Qp f1_1 f2_9) ∧
   (¬ x3_8 = 0 → wp_X4_rise f1_1 f2_9 nC nRo nBe nEa nMi nHa nER nMR nTh nPa (fun (f1_20 : Nat → Int32) (f2_21 : Nat → Int32) => Qp f1_20 f2_21)))) n17 0 0 f2_3)
theorem inn_X4_riseFromEnd_4 : ∀ w ∈ u_ws RX4 TX4 15, w ∈ wsX4_riseFromEnd := fun _ h => List.mem_cons_of_mem _ (List.mem_append_right _ h)
def rm_X4_riseFromEnd : Room := { frames := 3, cells := 0, slots := 0, locals := 75 }
set_option maxHeartbeats 4000000 in
set_option maxRecDepth 100000 in
theorem ct_X4_riseFromEnd {l : Launch} {D : va_G} {cI cJ cZ cE cD cK : ClassId} {ad : Nat → Nat} {bd dd : Nat → Nat → Nat} {bHK : Int32} {bHP : Int32} {bPF : Int32} {bWC : Int32} {bRi : Int32} {bBe : Int32} {bFi : Int32} {bWa : Nat → Int32} {dB : Nat → Int32} {dS : Nat → Int32} {dN : Nat → Nat → Int64} {tC : Int32} {tKi : Nat → Int32} {tEa : Nat → Int32} {tHa : Nat → Int32} {tPr : Nat → Int32} {tEx : Nat → Int32} {tSt : Nat → Int32} {tTo : Nat → Int32} {tBe : Nat → Int32} {kC : Int32} {kKi : Nat → Int32} {kEa : Nat → Int32} {kHa : Nat → Int32} {kPr : Nat → Int32} {kEx : Nat → Int32} {kSt : Nat → Int32} {kTo : Nat → Int32} {kBe : Nat → Int32} {aC : Int32} {aWh : Nat → Int32} {aTa : Nat → Int32} {aWa : Nat → Int32} {iRo : Nat → Int32} {iEa : Nat → Int32} {iLa : Nat → Int32} {cC : Int32} {nC : Int32} {nFo : Int32} {nQd : Int32} {nRo : Nat → Int32} {nBe : Nat → Int32} {nEa : Nat → Int32} {nMi : Nat → Int32} {nHa : Nat → Int32} {nER : Nat → Int32} {nMR : Nat → Int32} {nTh : Nat → Int32} {nPa : Nat → Int32} {nOu : Nat → Int32} {nFr : Nat → Int32} {nQu : Nat → Int32} {eM : Nat} {eL : Nat → Int32} {eC : Nat → Int64} {eS : Nat → Int64} {eB : Nat → Nat → Int32} {eE : Nat → Nat → Int32} {eF : Nat → Nat → Int32} {eG : Nat → Nat → Int32} {i : Nat} {f1 : Nat → Int32} {f2 : Nat → Int32}  {Qp : (Nat → Int32) → (Nat → Int32) → Prop} (hi1 : i < eM) (hi2 : i < eM)  (h : wp_X4_riseFromEnd f1 f2 nC nRo nBe nEa nMi nHa nER nMR nTh nPa nOu Qp) : CTv l yX4_riseFromEnd wsX4_riseFromEnd rm_X4_riseFromEnd D (tyL cI cJ cZ cE cD cK) [.ref (ad 38), .ref (bd i 3), .ref (bd i 4)] (WC cI cJ cE cD ad bd dd bHK bHP bPF bWC bRi bBe bFi bWa dB dS dN tC tKi tEa tHa tPr tEx tSt tTo tBe kC kKi kEa kHa kPr kEx kSt kTo kBe aC aWh aTa aWa iRo iEa iLa cC nC nFo nQd nRo nBe nEa nMi nHa nER nMR nTh nPa nOu nFr nQu eM eL eC eS eB eE (va_up eF i f1) (va_up eG i f2)) (fun u : (Nat → Int32) × (Nat → Int32) => Qp u.1 u.2) (fun u : (Nat → Int32) × (Nat → Int32) => (WC cI cJ cE cD ad bd dd bHK bHP bPF bWC bRi bBe bFi bWa dB dS dN tC tKi tEa tHa tPr tEx tSt tTo tBe kC kKi kEa kHa kPr kEx kSt kTo kBe aC aWh aTa aWa iRo iEa iLa cC nC nFo nQd nRo nBe nEa nMi nHa nER nMR nTh nPa nOu nFr nQu eM eL eC eS eB eE (va_up eF i u.1) (va_up eG i u.2))) 0 0 := by
  refine ent_v (cc := cX4_riseFromEnd) (maxL := 5) (ret := none) (by decide) rfl (Nat.le_of_ble_eq_true rfl) ?_
  intro p e s m args below meth c A Q hQ hx hb hr hml hown hts hlk hA hAB hP hD hS ls hl
  have hown : s.vm.findClass RX4 = some m.cls := hown
  have hl : lv_has ls 5 [(0, .ref (ad 38)), (1, .ref (bd i 3)), (2, .ref (bd i 4))] := hl
  generalize hH : s.heap = H at hP ⊢
  have hS : va_S A s.heap H [] := by rw [← hH]; exact hS
  clear hH
  generalize ([] : List Loc) = locs at hS ⊢
  refine lv_aload_n hx hb dX4_riseFromEnd_0 rfl (lv_at hl 1 rfl) ?_
  refine lv_ldc (v := (-1000000)) hx hb hown (hts (.constant RX4 109 (-1000000)) (by decide +kernel)) dX4_riseFromEnd_1 ?_
  refine cl_v hD hS hA (va_runS (As := [.ref (bd i 3), .int (-1000000)]) (rest := []) ⟨hx, hb, hml, hown, hts⟩ (ct_J7_fill_53178 (q := (52 + (i * 5 + 3))) ((gB_3 hi1).trans (by rw [va_up_at])) (by decide) H.size) (va_cwS 2 hts gX4_riseFromEnd_J7_fill_53178 rfl rfl rfl (by decide +kernel) ⟨Nat.le_of_ble_eq_true rfl, Nat.le_of_ble_eq_true rfl⟩) ⟨CPre.blind, wd_pre hAB hP hD hS hA⟩ rfl rfl hl.1 rfl (lv_room (Nat.le_of_ble_eq_true rfl)) dX4_riseFromEnd_3 ⟨Nat.zero_le _, Nat.zero_le _⟩) (fun u H locs _ hP hD hS => ?_)
  obtain ⟨f1_1, e_2⟩ : ∃ z, z = jFill f1 12 (-1000000) := ⟨_, rfl⟩
  have hP : va_P D vwCl (WC cI cJ cE cD ad bd dd bHK bHP bPF bWC bRi bBe bFi bWa dB dS dN tC tKi tEa tHa tPr tEx tSt tTo tBe kC kKi kEa kHa kPr kEx kSt kTo kBe aC aWh aTa aWa iRo iEa iLa cC nC nFo nQd nRo nBe nEa nMi nHa nER nMR nTh nPa nOu nFr nQu eM eL eC eS eB eE (va_up eF i f1_1) (va_up eG i f2)) H := by rw [e_2]; rw [tB_3 hi1, va_up_up] at hP; exact hP
  have hD : va_D A (WC cI cJ cE cD ad bd dd bHK bHP bPF bWC bRi bBe bFi bWa dB dS dN tC tKi tEa tHa tPr tEx tSt tTo tBe kC kKi kEa kHa kPr kEx kSt kTo kBe aC aWh aTa aWa iRo iEa iLa cC nC nFo nQd nRo nBe nEa nMi nHa nER nMR nTh nPa nOu nFr nQu eM eL eC eS eB eE (va_up eF i f1_1) (va_up eG i f2)) := by rw [e_2]; rw [tB_3 hi1, va_up_up] at hD; exact hD
  have h := h f1_1 e_2
  refine lv_aload_n hx hb dX4_riseFromEnd_6 rfl (lv_at hl 2 rfl) ?_
  refine lv_ldc (v := (-1000000)) hx hb hown (hts (.constant RX4 109 (-1000000)) (by decide +kernel)) dX4_riseFromEnd_7 ?_
  refine cl_v hD hS hA (va_runS (As := [.ref (bd i 4), .int (-1000000)]) (rest := []) ⟨hx, hb, hml, hown, hts⟩ (ct_J7_fill_53178 (q := (52 + (i * 5 + 4))) ((gB_4 hi2).trans (by rw [va_up_at])) (by decide) H.size) (va_cwS 2 hts gX4_riseFromEnd_J7_fill_53178 rfl rfl rfl (by decide +kernel) ⟨Nat.le_of_ble_eq_true rfl, Nat.le_of_ble_eq_true rfl⟩) ⟨CPre.blind, wd_pre hAB hP hD hS hA⟩ rfl rfl hl.1 rfl (lv_room (Nat.le_of_ble_eq_true rfl)) dX4_riseFromEnd_9 ⟨Nat.zero_le _, Nat.zero_le _⟩) (fun u H locs _ hP hD hS => ?_)
  obtain ⟨f2_3, e_4⟩ : ∃ z, z = jFill f2 12 (-1000000) := ⟨_, rfl⟩
  have hP : va_P D vwCl (WC cI cJ cE cD ad bd dd bHK bHP bPF bWC bRi bBe bFi bWa dB dS dN tC tKi tEa tHa tPr tEx tSt tTo tBe kC kKi kEa kHa kPr kEx kSt kTo kBe aC aWh aTa aWa iRo iEa iLa cC nC nFo nQd nRo nBe nEa nMi nHa nER nMR nTh nPa nOu nFr nQu eM eL eC eS eB eE (va_up eF i f1_1) (va_up eG i f2_3)) H := by rw [e_4]; rw [tB_4 hi2, va_up_up] at hP; exact hP
  have hD : va_D A (WC cI cJ cE cD ad bd dd bHK bHP bPF bWC bRi bBe bFi bWa dB dS dN tC tKi tEa tHa tPr tEx tSt tTo tBe kC kKi kEa kHa kPr kEx kSt kTo kBe aC aWh aTa aWa iRo iEa iLa cC nC nFo nQd nRo nBe nEa nMi nHa nER nMR nTh nPa nOu nFr nQu eM eL eC eS eB eE (va_up eF i f1_1) (va_up eG i f2_3)) := by rw [e_4]; rw [tB_4 hi2, va_up_up] at hD; exact hD
  have h := h f2_3 e_4
  refine lv_iconst (v := 0) hx hb dX4_riseFromEnd_12 (by decide) ?_
  refine lv_istore_n (lv' := [(3, .int 0), (0, .ref (ad 38)), (1, .ref (bd i 3)), (2, .ref (bd i 4))]) hx hb dX4_riseFromEnd_13 rfl hl (by decide) rfl (fun ls hl => ?_)
  refine lv_iconst (v := 0) hx hb dX4_riseFromEnd_14 (by decide) ?_
  refine lv_istore (lv' := [(4, .int 0), (3, .int 0), (0, .ref (ad 38)), (1, .ref (bd i 3)), (2, .ref (bd i 4))]) hx hb dX4_riseFromEnd_15 hl (by decide) rfl (fun ls hl => ?_)
  have L17 : ∀ (x17 : (Int32) → (Nat → Int32) → Prop) (hk17 : ∀ (x3_8 : Int32) (f2_9 : Nat → Int32), x17 x3_8 f2_9 → ∀ (H : Heap) (locs : List Loc) (ls : Array Slot), va_P D vwCl (WC cI cJ cE cD ad bd dd bHK bHP bPF bWC bRi bBe bFi bWa dB dS dN tC tKi tEa tHa tPr tEx tSt tTo tBe kC kKi kEa kHa kPr kEx kSt kTo kBe aC aWh aTa aWa iRo iEa iLa cC nC nFo nQd nRo nBe nEa nMi nHa nER nMR nTh nPa nOu nFr nQu eM eL eC eS eB eE (va_up eF i f1_1) (va_up eG i f2_9)) H → va_D A (WC cI cJ cE cD ad bd dd bHK bHP bPF bWC bRi bBe bFi bWa dB dS dN tC tKi tEa tHa tPr tEx tSt tTo tBe kC kKi kEa kHa kPr kEx kSt kTo kBe aC aWh aTa aWa iRo iEa iLa cC nC nFo nQd nRo nBe nEa nMi nHa nER nMR nTh nPa nOu nFr nQu eM eL eC eS eB eE (va_up eF i f1_1) (va_up eG i f2_9)) → va_S A s.heap H locs → lv_has ls 5 [(0, .ref (ad 38)), (1, .ref (bd i 3)), (2, .ref (bd i 4)), (3, .int x3_8)] → W p l e (headSpec wsX4_riseFromEnd rm_X4_riseFromEnd).room s m args below meth c H locs 0 0 Q (F0 m 49 ls [])) (n17 : Nat) (x3_5 : Int32) (x4_6 : Int32) (f2_7 : Nat → Int32), wp_X4_riseFromEnd_L17 nC nOu x17 n17 x3_5 x4_6 f2_7 → ∀ (H : Heap) (locs : List Loc) (ls : Array Slot), va_P D vwCl (WC cI cJ cE cD ad bd dd bHK bHP bPF bWC bRi bBe bFi bWa dB dS dN tC tKi tEa tHa tPr tEx tSt tTo tBe kC kKi kEa kHa kPr kEx kSt kTo kBe aC aWh aTa aWa iRo iEa iLa cC nC nFo nQd nRo nBe nEa nMi nHa nER nMR nTh nPa nOu nFr nQu eM eL eC eS eB eE (va_up eF i f1_1) (va_up eG i f2_7)) H → va_D A (WC cI cJ cE cD ad bd dd bHK bHP bPF bWC bRi bBe bFi bWa dB dS dN tC tKi tEa tHa tPr tEx tSt tTo tBe kC kKi kEa kHa kPr kEx kSt kTo kBe aC aWh aTa aWa iRo iEa iLa cC nC nFo nQd nRo nBe nEa nMi nHa nER nMR nTh nPa nOu nFr nQu eM eL eC eS eB eE (va_up eF i f1_1) (va_up eG i f2_7)) → va_S A s.heap H locs → lv_has ls 5 [(0, .ref (ad 38)), (1, .ref (bd i 3)), (2, .ref (bd i 4)), (3, .int x3_5), (4, .int x4_6)] → W p l e (headSpec wsX4_riseFromEnd rm_X4_riseFromEnd).room s m args below meth c H locs 0 0 Q (F0 m 17 ls []) := by
    intro x17 hk17 n17
    induction n17 with
    | zero => intro x3_5 x4_6 f2_7 h; exact False.elim h
    | succ n17 ih17 =>
      intro x3_5 x4_6 f2_7 h H locs ls hP hD hS hl
      have B43 : ∀ (x3_10 : Int32) (x4_11 : Int32) (f2_12 : Nat → Int32), wp_X4_riseFromEnd_b43 (wp_X4_riseFromEnd_L17 nC nOu x17 n17) x3_10 x4_11 f2_12 → ∀ (H : Heap) (locs : List Loc) (ls : Array Slot), va_P D vwCl (WC cI cJ cE cD ad bd dd bHK bHP bPF bWC bRi bBe bFi bWa dB dS dN tC tKi tEa tHa tPr tEx tSt tTo tBe kC kKi kEa kHa kPr kEx kSt kTo kBe aC aWh aTa aWa iRo iEa iLa cC nC nFo nQd nRo nBe nEa nMi nHa nER nMR nTh nPa nOu nFr nQu eM eL eC eS eB eE (va_up eF i f1_1) (va_up eG i f2_12)) H → va_D A (WC cI cJ cE cD ad bd dd bHK bHP bPF bWC bRi bBe bFi bWa dB dS dN tC tKi tEa tHa tPr tEx tSt tTo tBe kC kKi kEa kHa kPr kEx kSt kTo kBe aC aWh aTa aWa iRo iEa iLa cC nC nFo nQd nRo nBe nEa nMi nHa nER nMR nTh nPa nOu nFr nQu eM eL eC eS eB eE (va_up eF i f1_1) (va_up eG i f2_12)) → va_S A s.heap H locs → lv_has ls 5 [(0, .ref (ad 38)), (1, .ref (bd i 3)), (2, .ref (bd i 4)), (3, .int x3_10), (4, .int x4_11)] → W p l e (headSpec wsX4_riseFromEnd rm_X4_riseFromEnd).room s m args below meth c H locs 0 0 Q (F0 m 43 ls []) := by
        intro x3_10 x4_11 f2_12 h H locs ls hP hD hS hl
        obtain ⟨x4_13, e_14⟩ : ∃ y : Int32, y = x4_11 + 1 := ⟨_, rfl⟩
        have h := h x4_13 e_14
        refine lv_iinc (v := x4_13) (lv' := [(4, .int x4_13), (0, .ref (ad 38)), (1, .ref (bd i 3)), (2, .ref (bd i 4)), (3, .int x3_10)]) hx hb dX4_riseFromEnd_43 hl (k := 4) rfl (by rw [e_14]; rfl) (by decide) rfl (fun ls hl => ?_)
        refine lv_goto (tgt := 17) hx hb dX4_riseFromEnd_46 (by decide) ?_
        exact ih17 x3_10 x4_13 f2_12 h H locs ls hP hD hS (lv_sub hl [1, 2, 3, 4, 0] rfl)
      refine lv_iload hx hb dX4_riseFromEnd_17 (lv_at hl 4 rfl) ?_
      refine lv_aload_n hx hb dX4_riseFromEnd_19 rfl (lv_at hl 0 rfl) ?_
      refine va_get (D := D) (ci := 4) (C := RX4) (T := TX4) (N := 15) hx hb hts inn_X4_riseFromEnd_4 hown hAB.1 hP 38 rfl rfl 0 (by decide) (hts (.fieldLink RX4 54 "BarnBench$Net" "count" "I") (by decide +kernel)) (fun _ h9 => h9) rfl dX4_riseFromEnd_20 ?_
      refine lv_icmp_ge (tgt := 49) hx hb dX4_riseFromEnd_23 (by decide) (fun c_15 => ?_) (fun c_15 => ?_)
      · have h := h.1 c_15
        exact hk17 x3_5 f2_7 h H locs ls hP hD hS (lv_sub hl [0, 1, 2, 3] rfl)
      · have h := h.2 c_15
        refine lv_aload_n hx hb dX4_riseFromEnd_26 rfl (lv_at hl 0 rfl) ?_
        refine va_get (D := D) (ci := 4) (C := RX4) (T := TX4) (N := 15) hx hb hts inn_X4_riseFromEnd_4 hown hAB.1 hP 38 rfl rfl 11 (by decide) (hts (.fieldLink RX4 39 "BarnBench$Net" "out" "[I") (by decide +kernel)) (fun _ h9 => h9) rfl dX4_riseFromEnd_27 ?_
        refine lv_iload hx hb dX4_riseFromEnd_30 (lv_at hl 4 rfl) ?_
        refine va_iald hx hb hAB.1 hP 48 0 rfl rfl h.1 dX4_riseFromEnd_32 ?_
        have h := h.2
        refine lv_if_le (tgt := 43) hx hb dX4_riseFromEnd_33 (by decide) (fun c_16 => ?_) (fun c_16 => ?_)
        · have h := h.1 c_16
          exact B43 x3_5 x4_6 f2_7 h H locs ls hP hD hS (lv_sub hl [0, 1, 2, 3, 4] rfl)
        · have h := h.2 c_16
          refine lv_aload_n hx hb dX4_riseFromEnd_36 rfl (lv_at hl 2 rfl) ?_
          refine lv_iload hx hb dX4_riseFromEnd_37 (lv_at hl 4 rfl) ?_
          refine lv_iconst (v := 0) hx hb dX4_riseFromEnd_39 (by decide) ?_
          refine sB_4 hx hb hAB hP hD hS hi2 h.1 dX4_riseFromEnd_40 (fun f2_17 H locs e_18 hP hD hS => ?_)
          have h := h.2
          have h := h f2_17 e_18
          refine lv_iconst (v := 1) hx hb dX4_riseFromEnd_41 (by decide) ?_
          refine lv_istore_n (lv' := [(3, .int 1), (0, .ref (ad 38)), (1, .ref (bd i 3)), (2, .ref (bd i 4)), (4, .int x4_6)]) hx hb dX4_riseFromEnd_42 rfl hl (by decide) rfl (fun ls hl => ?_)
          exact B43 1 x4_6 f2_17 h H locs ls hP hD hS (lv_sub hl [1, 2, 3, 0, 4] rfl)
  obtain ⟨n17, h⟩ := h
  refine L17 _ (fun x3_8 f2_9 h H locs ls hP hD hS hl => ?_) n17 0 0 f2_3 h H locs ls hP hD hS (lv_sub hl [2, 3, 4, 1, 0] rfl)
  refine lv_iload_n hx hb dX4_riseFromEnd_49 rfl (lv_at hl 3 rfl) ?_
  refine lv_if_eq (tgt := 59) hx hb dX4_riseFromEnd_50 (by decide) (fun c_19 => ?_) (fun c_19 => ?_)
  · have h := h.1 c_19
    exact rt_v (f1_1, f2_9) hQ hx hb hr hlk hP hD hS ⟨Nat.zero_le _, Nat.zero_le _⟩ dX4_riseFromEnd_59 h
  · have h := h.2 c_19
    refine lv_aload_n hx hb dX4_riseFromEnd_53 rfl (lv_at hl 0 rfl) ?_
    refine lv_aload_n hx hb dX4_riseFromEnd_54 rfl (lv_at hl 1 rfl) ?_
    refine lv_aload_n hx hb dX4_riseFromEnd_55 rfl (lv_at hl 2 rfl) ?_
    refine cl_v hD hS hA (va_runV (As := [.ref (bd i 3), .ref (bd i 4)]) (rest := []) ⟨hx, hb, hml, hown, hts⟩ (ct_X4_rise_2 hi1 hi2 h H.size) (cwV 2 hts gX4_riseFromEnd_X4_rise rfl rfl rfl (by decide +kernel) ⟨Nat.le_of_ble_eq_true rfl, Nat.le_of_ble_eq_true rfl⟩) ⟨CPre.blind, va_recv hAB.1 hP (ci := 4) (q0 := 38) rfl rfl, wd_pre hAB hP hD hS hA⟩ rfl rfl hl.1 rfl (lv_room (Nat.le_of_ble_eq_true rfl)) dX4_riseFromEnd_56 ⟨Nat.zero_le _, Nat.zero_le _⟩) (fun u H locs h hP hD hS => ?_)
    obtain ⟨f1_20, f2_21⟩ := u
    have hP : va_P D vwCl (WC cI cJ cE cD ad bd dd bHK bHP bPF bWC bRi bBe bFi bWa dB dS dN tC tKi tEa tHa tPr tEx tSt tTo tBe kC kKi kEa kHa kPr kEx kSt kTo kBe aC aWh aTa aWa iRo iEa iLa cC nC nFo nQd nRo nBe nEa nMi nHa nER nMR nTh nPa nOu nFr nQu eM eL eC eS eB eE (va_up eF i f1_20) (va_up eG i f2_21)) H := hP
    have hD : va_D A (WC cI cJ cE cD ad bd dd bHK bHP bPF bWC bRi bBe bFi bWa dB dS dN tC tKi tEa tHa tPr tEx tSt tTo tBe kC kKi kEa kHa kPr kEx kSt kTo kBe aC aWh aTa aWa iRo iEa iLa cC nC nFo nQd nRo nBe nEa nMi nHa nER nMR nTh nPa nOu nFr nQu eM eL eC eS eB eE (va_up eF i f1_20) (va_up eG i f2_21)) := hD
    exact rt_v (f1_20, f2_21) hQ hx hb hr hlk hP hD hS ⟨Nat.zero_le _, Nat.zero_le _⟩ dX4_riseFromEnd_59 h
def wp_X4_leaveBegin_b77 (k30 : (Int32) → (Int32) → (Nat → Int32) → (Nat → Int32) → Prop) (x4_11 : Int32) (nQd_12 : Int32) (nFr_13 : Nat → Int32) (nQu_14 : Nat → Int32) : Prop :=
  ∀ x4_15 : Int32, x4_15 = x4_11 + 1 → k30 x4_15 nQd_12 nFr_13 nQu_14
def wp_X4_leaveBegin_L30 (a1 : Int32) (f2 : Nat → Int32) (f3 : Nat → Int32) (nC : Int32) (nPa : Nat → Int32) (x30 : (Int32) → (Nat → Int32) → (Nat → Int32) → Prop) : Nat → (Int32) → (Int32) → (Nat → Int32) → (Nat → Int32) → Prop
  | 0, _, _, _, _ => False
  | n30 + 1, x4_4, nQd_5, nFr_6, nQu_7 =>
  ((nC ≤ x4_4 → x30 nQd_5 nFr_6 nQu_7) ∧
   (¬ nC ≤ x4_4 → vp_in ((x4_4 * 12) + a1) 144 ∧ (((nPa (Int32.toNatClampNeg ((x4_4 * 12) + a1))) ≤ 0 → wp_X4_leaveBegin_b77 (wp_X4_leaveBegin_L30 a1 f2 f3 nC nPa x30 n30) x4_4 nQd_5 nFr_6 nQu_7) ∧
   (¬ (nPa (Int32.toNatClampNeg ((x4_4 * 12) + a1))) ≤ 0 → vp_in x4_4 12 ∧ vp_in a1 12 ∧ ((¬ (f3 (Int32.toNatClampNeg x4_4)) = (f2 (Int32.toNatClampNeg a1)) → wp_X4_leaveBegin_b77 (wp_X4_leaveBegin_L30 a1 f2 f3 nC nPa x30 n30) x4_4 nQd_5 nFr_6 nQu_7) ∧
   ((f3 (Int32.toNatClampNeg x4_4)) = (f2 (Int32.toNatClampNeg a1)) → wp_X4_reach nQd_5 nFr_6 nQu_7 ((2 * x4_4) + 1) (2 * a1) (fun (nQd_20 : Int32) (nFr_21 : Nat → Int32) (nQu_22 : Nat → Int32) => wp_X4_leaveBegin_b77 (wp_X4_leaveBegin_L30 a1 f2 f3 nC nPa x30 n30) x4_4 nQd_20 nFr_21 nQu_22)))))))
def wp_X4_leaveBegin_b27 (Qp : (Int32) → (Nat → Int32) → (Nat → Int32) → Prop) (a1 : Int32) (f2 : Nat → Int32) (f3 : Nat → Int32) (nC : Int32) (nPa : Nat → Int32) (nQd_1 : Int32) (nFr_2 : Nat → Int32) (nQu_3 : Nat → Int32) : Prop :=
  (∃ n30 : Nat, wp_X4_leaveBegin_L30 a1 f2 f3 nC nPa (fun (nQd_8 : Int32) (nFr_9 : Nat → Int32) (nQu_10 : Nat → Int32) => Qp nQd_8 nFr_9 nQu_10) n30 0 nQd_1 nFr_2 nQu_3)
def wp_X4_leaveBegin (f2 : Nat → Int32) (f3 : Nat → Int32) (nC : Int32) (nQd : Int32) (nEa : Nat → Int32) (nMi : Nat → Int32) (nHa : Nat → Int32) (nER : Nat → Int32) (nMR : Nat → Int32) (nTh : Nat → Int32) (nPa : Nat → Int32) (nFr : Nat → Int32) (nQu : Nat → Int32) (a1 : Int32) (Qp : (Int32) → (Nat → Int32) → (Nat → Int32) → Prop) : Prop :=
  vp_in a1 12 ∧ wp_X4_spanOn nEa nMi nHa nER nMR nTh a1 (fun (r_23 : Int32) => vp_in a1 12 ∧ ((¬ ((f2 (Int32.toNatClampNeg a1)) + r_23) = (f3 (Int32.toNatClampNeg a1)) → wp_X4_leaveBegin_b27 Qp a1 f2 f3 nC nPa nQd nFr nQu) ∧
   (((f2 (Int32.toNatClampNeg a1)) + r_23) = (f3 (Int32.toNatClampNeg a1)) → wp_X4_reach nQd nFr nQu ((2 * a1) + 1) (2 * a1) (fun (nQd_25 : Int32) (nFr_26 : Nat → Int32) (nQu_27 : Nat → Int32) => wp_X4_leaveBegin_b27 Qp a1 f2 f3 nC nPa nQd_25 nFr_26 nQu_27))))
theorem inn_X4_leaveBegin_4 : ∀ w ∈ u_ws RX4 TX4 15, w ∈ wsX4_leaveBegin := fun _ h => List.mem_cons_of_mem _ (List.mem_append_right _ h)
def rm_X4_leaveBegin : Room := { frames := 1, cells := 0, slots := 0, locals := 22 }
set_option maxHeartbeats 4000000 in
set_option maxRecDepth 100000 in
theorem ct_X4_leaveBegin {l : Launch} {D : va_G} {cI cJ cZ cE cD cK : ClassId} {ad : Nat → Nat} {bd dd : Nat → Nat → Nat} {bHK : Int32} {bHP : Int32} {bPF : Int32} {bWC : Int32} {bRi : Int32} {bBe : Int32} {bFi : Int32} {bWa : Nat → Int32} {dB : Nat → Int32} {dS : Nat → Int32} {dN : Nat → Nat → Int64} {tC : Int32} {tKi : Nat → Int32} {tEa : Nat → Int32} {tHa : Nat → Int32} {tPr : Nat → Int32} {tEx : Nat → Int32} {tSt : Nat → Int32} {tTo : Nat → Int32} {tBe : Nat → Int32} {kC : Int32} {kKi : Nat → Int32} {kEa : Nat → Int32} {kHa : Nat → Int32} {kPr : Nat → Int32} {kEx : Nat → Int32} {kSt : Nat → Int32} {kTo : Nat → Int32} {kBe : Nat → Int32} {aC : Int32} {aWh : Nat → Int32} {aTa : Nat → Int32} {aWa : Nat → Int32} {iRo : Nat → Int32} {iEa : Nat → Int32} {iLa : Nat → Int32} {cC : Int32} {nC : Int32} {nFo : Int32} {nQd : Int32} {nRo : Nat → Int32} {nBe : Nat → Int32} {nEa : Nat → Int32} {nMi : Nat → Int32} {nHa : Nat → Int32} {nER : Nat → Int32} {nMR : Nat → Int32} {nTh : Nat → Int32} {nPa : Nat → Int32} {nOu : Nat → Int32} {nFr : Nat → Int32} {nQu : Nat → Int32} {eM : Nat} {eL : Nat → Int32} {eC : Nat → Int64} {eS : Nat → Int64} {eB : Nat → Nat → Int32} {eE : Nat → Nat → Int32} {eF : Nat → Nat → Int32} {eG : Nat → Nat → Int32} {i : Nat} {f2 : Nat → Int32} {f3 : Nat → Int32} {a1 : Int32} {Qp : (Int32) → (Nat → Int32) → (Nat → Int32) → Prop} (hi2 : i < eM) (hi3 : i < eM) (q_f2 : eB i = f2) (q_f3 : eE i = f3) (h : wp_X4_leaveBegin f2 f3 nC nQd nEa nMi nHa nER nMR nTh nPa nFr nQu a1 Qp) : CTv l yX4_leaveBegin wsX4_leaveBegin rm_X4_leaveBegin D (tyL cI cJ cZ cE cD cK) [.ref (ad 38), .int a1, .ref (bd i 1), .ref (bd i 2)] (WC cI cJ cE cD ad bd dd bHK bHP bPF bWC bRi bBe bFi bWa dB dS dN tC tKi tEa tHa tPr tEx tSt tTo tBe kC kKi kEa kHa kPr kEx kSt kTo kBe aC aWh aTa aWa iRo iEa iLa cC nC nFo nQd nRo nBe nEa nMi nHa nER nMR nTh nPa nOu nFr nQu eM eL eC eS eB eE eF eG) (fun u : (Int32) × (Nat → Int32) × (Nat → Int32) => Qp u.1 u.2.1 u.2.2) (fun u : (Int32) × (Nat → Int32) × (Nat → Int32) => (WC cI cJ cE cD ad bd dd bHK bHP bPF bWC bRi bBe bFi bWa dB dS dN tC tKi tEa tHa tPr tEx tSt tTo tBe kC kKi kEa kHa kPr kEx kSt kTo kBe aC aWh aTa aWa iRo iEa iLa cC nC nFo u.1 nRo nBe nEa nMi nHa nER nMR nTh nPa nOu u.2.1 u.2.2 eM eL eC eS eB eE eF eG)) 0 0 := by
  subst q_f2
  subst q_f3
  refine ent_v (cc := cX4_leaveBegin) (maxL := 5) (ret := none) (by decide) rfl (Nat.le_of_ble_eq_true rfl) ?_
  intro p e s m args below meth c A Q hQ hx hb hr hml hown hts hlk hA hAB hP hD hS ls hl
  have hown : s.vm.findClass RX4 = some m.cls := hown
  have hl : lv_has ls 5 [(0, .ref (ad 38)), (1, .int a1), (2, .ref (bd i 1)), (3, .ref (bd i 2))] := hl
  generalize hH : s.heap = H at hP ⊢
  have hS : va_S A s.heap H [] := by rw [← hH]; exact hS
  clear hH
  generalize ([] : List Loc) = locs at hS ⊢
  have B27 : ∀ (nQd_1 : Int32) (nFr_2 : Nat → Int32) (nQu_3 : Nat → Int32), wp_X4_leaveBegin_b27 Qp a1 (eB i) (eE i) nC nPa nQd_1 nFr_2 nQu_3 → ∀ (H : Heap) (locs : List Loc) (ls : Array Slot), va_P D vwCl (WC cI cJ cE cD ad bd dd bHK bHP bPF bWC bRi bBe bFi bWa dB dS dN tC tKi tEa tHa tPr tEx tSt tTo tBe kC kKi kEa kHa kPr kEx kSt kTo kBe aC aWh aTa aWa iRo iEa iLa cC nC nFo nQd_1 nRo nBe nEa nMi nHa nER nMR nTh nPa nOu nFr_2 nQu_3 eM eL eC eS eB eE eF eG) H → va_D A (WC cI cJ cE cD ad bd dd bHK bHP bPF bWC bRi bBe bFi bWa dB dS dN tC tKi tEa tHa tPr tEx tSt tTo tBe kC kKi kEa kHa kPr kEx kSt kTo kBe aC aWh aTa aWa iRo iEa iLa cC nC nFo nQd_1 nRo nBe nEa nMi nHa nER nMR nTh nPa nOu nFr_2 nQu_3 eM eL eC eS eB eE eF eG) → va_S A s.heap H locs → lv_has ls 5 [(0, .ref (ad 38)), (1, .int a1), (2, .ref (bd i 1)), (3, .ref (bd i 2))] → W p l e (headSpec wsX4_leaveBegin rm_X4_leaveBegin).room s m args below meth c H locs 0 0 Q (F0 m 27 ls []) := by
    intro nQd_1 nFr_2 nQu_3 h H locs ls hP hD hS hl
    refine lv_iconst (v := 0) hx hb dX4_leaveBegin_27 (by decide) ?_
    refine lv_istore (lv' := [(4, .int 0), (0, .ref (ad 38)), (1, .int a1), (2, .ref (bd i 1)), (3, .ref (bd i 2))]) hx hb dX4_leaveBegin_28 hl (by decide) rfl (fun ls hl => ?_)
    have L30 : ∀ (x30 : (Int32) → (Nat → Int32) → (Nat → Int32) → Prop) (hk30 : ∀ (nQd_8 : Int32) (nFr_9 : Nat → Int32) (nQu_10 : Nat → Int32), x30 nQd_8 nFr_9 nQu_10 → ∀ (H : Heap) (locs : List Loc) (ls : Array Slot), va_P D vwCl (WC cI cJ cE cD ad bd dd bHK bHP bPF bWC bRi bBe bFi bWa dB dS dN tC tKi tEa tHa tPr tEx tSt tTo tBe kC kKi kEa kHa kPr kEx kSt kTo kBe aC aWh aTa aWa iRo iEa iLa cC nC nFo nQd_8 nRo nBe nEa nMi nHa nER nMR nTh nPa nOu nFr_9 nQu_10 eM eL eC eS eB eE eF eG) H → va_D A (WC cI cJ cE cD ad bd dd bHK bHP bPF bWC bRi bBe bFi bWa dB dS dN tC tKi tEa tHa tPr tEx tSt tTo tBe kC kKi kEa kHa kPr kEx kSt kTo kBe aC aWh aTa aWa iRo iEa iLa cC nC nFo nQd_8 nRo nBe nEa nMi nHa nER nMR nTh nPa nOu nFr_9 nQu_10 eM eL eC eS eB eE eF eG) → va_S A s.heap H locs → lv_has ls 5 [] → W p l e (headSpec wsX4_leaveBegin rm_X4_leaveBegin).room s m args below meth c H locs 0 0 Q (F0 m 83 ls [])) (n30 : Nat) (x4_4 : Int32) (nQd_5 : Int32) (nFr_6 : Nat → Int32) (nQu_7 : Nat → Int32), wp_X4_leaveBegin_L30 a1 (eB i) (eE i) nC nPa x30 n30 x4_4 nQd_5 nFr_6 nQu_7 → ∀ (H : Heap) (locs : List Loc) (ls : Array Slot), va_P D vwCl (WC cI cJ cE cD ad bd dd bHK bHP bPF bWC bRi bBe bFi bWa dB dS dN tC tKi tEa tHa tPr tEx tSt tTo tBe kC kKi kEa kHa kPr kEx kSt kTo kBe aC aWh aTa aWa iRo iEa iLa cC nC nFo nQd_5 nRo nBe nEa nMi nHa nER nMR nTh nPa nOu nFr_6 nQu_7 eM eL eC eS eB eE eF eG) H → va_D A (WC cI cJ cE cD ad bd dd bHK bHP bPF bWC bRi bBe bFi bWa dB dS dN tC tKi tEa tHa tPr tEx tSt tTo tBe kC kKi kEa kHa kPr kEx kSt kTo kBe aC aWh aTa aWa iRo iEa iLa cC nC nFo nQd_5 nRo nBe nEa nMi nHa nER nMR nTh nPa nOu nFr_6 nQu_7 eM eL eC eS eB eE eF eG) → va_S A s.heap H locs → lv_has ls 5 [(0, .ref (ad 38)), (1, .int a1), (2, .ref (bd i 1)), (3, .ref (bd i 2)), (4, .int x4_4)] → W p l e (headSpec wsX4_leaveBegin rm_X4_leaveBegin).room s m args below meth c H locs 0 0 Q (F0 m 30 ls []) := by
      intro x30 hk30 n30
      induction n30 with
      | zero => intro x4_4 nQd_5 nFr_6 nQu_7 h; exact False.elim h
      | succ n30 ih30 =>
        intro x4_4 nQd_5 nFr_6 nQu_7 h H locs ls hP hD hS hl
        have B77 : ∀ (x4_11 : Int32) (nQd_12 : Int32) (nFr_13 : Nat → Int32) (nQu_14 : Nat → Int32), wp_X4_leaveBegin_b77 (wp_X4_leaveBegin_L30 a1 (eB i) (eE i) nC nPa x30 n30) x4_11 nQd_12 nFr_13 nQu_14 → ∀ (H : Heap) (locs : List Loc) (ls : Array Slot), va_P D vwCl (WC cI cJ cE cD ad bd dd bHK bHP bPF bWC bRi bBe bFi bWa dB dS dN tC tKi tEa tHa tPr tEx tSt tTo tBe kC kKi kEa kHa kPr kEx kSt kTo kBe aC aWh aTa aWa iRo iEa iLa cC nC nFo nQd_12 nRo nBe nEa nMi nHa nER nMR nTh nPa nOu nFr_13 nQu_14 eM eL eC eS eB eE eF eG) H → va_D A (WC cI cJ cE cD ad bd dd bHK bHP bPF bWC bRi bBe bFi bWa dB dS dN tC tKi tEa tHa tPr tEx tSt tTo tBe kC kKi kEa kHa kPr kEx kSt kTo kBe aC aWh aTa aWa iRo iEa iLa cC nC nFo nQd_12 nRo nBe nEa nMi nHa nER nMR nTh nPa nOu nFr_13 nQu_14 eM eL eC eS eB eE eF eG) → va_S A s.heap H locs → lv_has ls 5 [(0, .ref (ad 38)), (1, .int a1), (2, .ref (bd i 1)), (3, .ref (bd i 2)), (4, .int x4_11)] → W p l e (headSpec wsX4_leaveBegin rm_X4_leaveBegin).room s m args below meth c H locs 0 0 Q (F0 m 77 ls []) := by
          intro x4_11 nQd_12 nFr_13 nQu_14 h H locs ls hP hD hS hl
          obtain ⟨x4_15, e_16⟩ : ∃ y : Int32, y = x4_11 + 1 := ⟨_, rfl⟩
          have h := h x4_15 e_16
          refine lv_iinc (v := x4_15) (lv' := [(4, .int x4_15), (0, .ref (ad 38)), (1, .int a1), (2, .ref (bd i 1)), (3, .ref (bd i 2))]) hx hb dX4_leaveBegin_77 hl (k := 4) rfl (by rw [e_16]; rfl) (by decide) rfl (fun ls hl => ?_)
          refine lv_goto (tgt := 30) hx hb dX4_leaveBegin_80 (by decide) ?_
          exact ih30 x4_15 nQd_12 nFr_13 nQu_14 h H locs ls hP hD hS (lv_sub hl [1, 2, 3, 4, 0] rfl)
        refine lv_iload hx hb dX4_leaveBegin_30 (lv_at hl 4 rfl) ?_
        refine lv_aload_n hx hb dX4_leaveBegin_32 rfl (lv_at hl 0 rfl) ?_
        refine va_get (D := D) (ci := 4) (C := RX4) (T := TX4) (N := 15) hx hb hts inn_X4_leaveBegin_4 hown hAB.1 hP 38 rfl rfl 0 (by decide) (hts (.fieldLink RX4 54 "BarnBench$Net" "count" "I") (by decide +kernel)) (fun _ h9 => h9) rfl dX4_leaveBegin_33 ?_
        refine lv_icmp_ge (tgt := 83) hx hb dX4_leaveBegin_36 (by decide) (fun c_17 => ?_) (fun c_17 => ?_)
        · have h := h.1 c_17
          exact hk30 nQd_5 nFr_6 nQu_7 h H locs ls hP hD hS (lv_sub hl [] rfl)
        · have h := h.2 c_17
          refine lv_aload_n hx hb dX4_leaveBegin_39 rfl (lv_at hl 0 rfl) ?_
          refine va_get (D := D) (ci := 4) (C := RX4) (T := TX4) (N := 15) hx hb hts inn_X4_leaveBegin_4 hown hAB.1 hP 38 rfl rfl 10 (by decide) (hts (.fieldLink RX4 36 "BarnBench$Net" "passed" "[I") (by decide +kernel)) (fun _ h9 => h9) rfl dX4_leaveBegin_40 ?_
          refine lv_iload hx hb dX4_leaveBegin_43 (lv_at hl 4 rfl) ?_
          refine lv_bipush (v := 12) hx hb dX4_leaveBegin_45 (by decide) ?_
          refine lv_imul hx hb dX4_leaveBegin_47 ?_
          refine lv_iload_n hx hb dX4_leaveBegin_48 rfl (lv_at hl 1 rfl) ?_
          refine lv_iadd hx hb dX4_leaveBegin_49 ?_
          refine va_iald hx hb hAB.1 hP 47 0 rfl rfl h.1 dX4_leaveBegin_50 ?_
          have h := h.2
          refine lv_if_le (tgt := 77) hx hb dX4_leaveBegin_51 (by decide) (fun c_18 => ?_) (fun c_18 => ?_)
          · have h := h.1 c_18
            exact B77 x4_4 nQd_5 nFr_6 nQu_7 h H locs ls hP hD hS (lv_sub hl [0, 1, 2, 3, 4] rfl)
          · have h := h.2 c_18
            refine lv_aload_n hx hb dX4_leaveBegin_54 rfl (lv_at hl 3 rfl) ?_
            refine lv_iload hx hb dX4_leaveBegin_55 (lv_at hl 4 rfl) ?_
            refine va_iald hx hb hAB.1 hP (52 + (i * 5 + 2)) 0 (gB_2 hi3) rfl h.1 dX4_leaveBegin_57 ?_
            have h := h.2
            refine lv_aload_n hx hb dX4_leaveBegin_58 rfl (lv_at hl 2 rfl) ?_
            refine lv_iload_n hx hb dX4_leaveBegin_59 rfl (lv_at hl 1 rfl) ?_
            refine va_iald hx hb hAB.1 hP (52 + (i * 5 + 1)) 0 (gB_1 hi2) rfl h.1 dX4_leaveBegin_60 ?_
            have h := h.2
            refine lv_icmp_ne (tgt := 77) hx hb dX4_leaveBegin_61 (by decide) (fun c_19 => ?_) (fun c_19 => ?_)
            · have h := h.1 c_19
              exact B77 x4_4 nQd_5 nFr_6 nQu_7 h H locs ls hP hD hS (lv_sub hl [0, 1, 2, 3, 4] rfl)
            · have h := h.2 c_19
              refine lv_aload_n hx hb dX4_leaveBegin_64 rfl (lv_at hl 0 rfl) ?_
              refine lv_iconst (v := 2) hx hb dX4_leaveBegin_65 (by decide) ?_
              refine lv_iload hx hb dX4_leaveBegin_66 (lv_at hl 4 rfl) ?_
              refine lv_imul hx hb dX4_leaveBegin_68 ?_
              refine lv_iconst (v := 1) hx hb dX4_leaveBegin_69 (by decide) ?_
              refine lv_iadd hx hb dX4_leaveBegin_70 ?_
              refine lv_iconst (v := 2) hx hb dX4_leaveBegin_71 (by decide) ?_
              refine lv_iload_n hx hb dX4_leaveBegin_72 rfl (lv_at hl 1 rfl) ?_
              refine lv_imul hx hb dX4_leaveBegin_73 ?_
              refine cl_v hD hS hA (va_runV (As := [.int ((2 * x4_4) + 1), .int (2 * a1)]) (rest := []) ⟨hx, hb, hml, hown, hts⟩ (ct_X4_reach h H.size) (cwV 2 hts gX4_leaveBegin_X4_reach rfl rfl rfl (by decide +kernel) ⟨Nat.le_of_ble_eq_true rfl, Nat.le_of_ble_eq_true rfl⟩) ⟨CPre.blind, va_recv hAB.1 hP (ci := 4) (q0 := 38) rfl rfl, wd_pre hAB hP hD hS hA⟩ rfl rfl hl.1 rfl (lv_room (Nat.le_of_ble_eq_true rfl)) dX4_leaveBegin_74 ⟨Nat.zero_le _, Nat.zero_le _⟩) (fun u H locs h hP hD hS => ?_)
              obtain ⟨nQd_20, nFr_21, nQu_22⟩ := u
              have hP : va_P D vwCl (WC cI cJ cE cD ad bd dd bHK bHP bPF bWC bRi bBe bFi bWa dB dS dN tC tKi tEa tHa tPr tEx tSt tTo tBe kC kKi kEa kHa kPr kEx kSt kTo kBe aC aWh aTa aWa iRo iEa iLa cC nC nFo nQd_20 nRo nBe nEa nMi nHa nER nMR nTh nPa nOu nFr_21 nQu_22 eM eL eC eS eB eE eF eG) H := hP
              have hD : va_D A (WC cI cJ cE cD ad bd dd bHK bHP bPF bWC bRi bBe bFi bWa dB dS dN tC tKi tEa tHa tPr tEx tSt tTo tBe kC kKi kEa kHa kPr kEx kSt kTo kBe aC aWh aTa aWa iRo iEa iLa cC nC nFo nQd_20 nRo nBe nEa nMi nHa nER nMR nTh nPa nOu nFr_21 nQu_22 eM eL eC eS eB eE eF eG) := hD
              exact B77 x4_4 nQd_20 nFr_21 nQu_22 h H locs ls hP hD hS (lv_sub hl [0, 1, 2, 3, 4] rfl)
    obtain ⟨n30, h⟩ := h
    refine L30 _ (fun nQd_8 nFr_9 nQu_10 h H locs ls hP hD hS hl => ?_) n30 0 nQd_1 nFr_2 nQu_3 h H locs ls hP hD hS (lv_sub hl [1, 2, 3, 4, 0] rfl)
    exact rt_v (nQd_8, nFr_9, nQu_10) hQ hx hb hr hlk hP hD hS ⟨Nat.zero_le _, Nat.zero_le _⟩ dX4_leaveBegin_83 h
  refine lv_aload_n hx hb dX4_leaveBegin_0 rfl (lv_at hl 2 rfl) ?_
  refine lv_iload_n hx hb dX4_leaveBegin_1 rfl (lv_at hl 1 rfl) ?_
  refine va_iald hx hb hAB.1 hP (52 + (i * 5 + 1)) 0 (gB_1 hi2) rfl h.1 dX4_leaveBegin_2 ?_
  have h := h.2
  refine lv_aload_n hx hb dX4_leaveBegin_3 rfl (lv_at hl 0 rfl) ?_
  refine lv_iload_n hx hb dX4_leaveBegin_4 rfl (lv_at hl 1 rfl) ?_
  refine cl_i hD hS hA (va_runV (As := [.int a1]) (rest := [.int ((eB i) (Int32.toNatClampNeg a1))]) ⟨hx, hb, hml, hown, hts⟩ (ct_X4_spanOn h H.size) (cwV 1 hts gX4_leaveBegin_X4_spanOn rfl rfl rfl (by decide +kernel) ⟨Nat.le_of_ble_eq_true rfl, Nat.le_of_ble_eq_true rfl⟩) ⟨CPre.blind, va_recv hAB.1 hP (ci := 4) (q0 := 38) rfl rfl, wd_pre hAB hP hD hS hA⟩ rfl rfl hl.1 rfl (lv_room (Nat.le_of_ble_eq_true rfl)) dX4_leaveBegin_5 ⟨Nat.zero_le _, Nat.zero_le _⟩) (fun r_23 u H locs h hP hD hS => ?_)
  refine lv_iadd hx hb dX4_leaveBegin_8 ?_
  refine lv_aload_n hx hb dX4_leaveBegin_9 rfl (lv_at hl 3 rfl) ?_
  refine lv_iload_n hx hb dX4_leaveBegin_10 rfl (lv_at hl 1 rfl) ?_
  refine va_iald hx hb hAB.1 hP (52 + (i * 5 + 2)) 0 (gB_2 hi3) rfl h.1 dX4_leaveBegin_11 ?_
  have h := h.2
  refine lv_icmp_ne (tgt := 27) hx hb dX4_leaveBegin_12 (by decide) (fun c_24 => ?_) (fun c_24 => ?_)
  · have h := h.1 c_24
    exact B27 nQd nFr nQu h H locs ls hP hD hS (lv_sub hl [0, 1, 2, 3] rfl)
  · have h := h.2 c_24
    refine lv_aload_n hx hb dX4_leaveBegin_15 rfl (lv_at hl 0 rfl) ?_
    refine lv_iconst (v := 2) hx hb dX4_leaveBegin_16 (by decide) ?_
    refine lv_iload_n hx hb dX4_leaveBegin_17 rfl (lv_at hl 1 rfl) ?_
    refine lv_imul hx hb dX4_leaveBegin_18 ?_
    refine lv_iconst (v := 1) hx hb dX4_leaveBegin_19 (by decide) ?_
    refine lv_iadd hx hb dX4_leaveBegin_20 ?_
    refine lv_iconst (v := 2) hx hb dX4_leaveBegin_21 (by decide) ?_
    refine lv_iload_n hx hb dX4_leaveBegin_22 rfl (lv_at hl 1 rfl) ?_
    refine lv_imul hx hb dX4_leaveBegin_23 ?_
    refine cl_v hD hS hA (va_runV (As := [.int ((2 * a1) + 1), .int (2 * a1)]) (rest := []) ⟨hx, hb, hml, hown, hts⟩ (ct_X4_reach h H.size) (cwV 2 hts gX4_leaveBegin_X4_reach rfl rfl rfl (by decide +kernel) ⟨Nat.le_of_ble_eq_true rfl, Nat.le_of_ble_eq_true rfl⟩) ⟨CPre.blind, va_recv hAB.1 hP (ci := 4) (q0 := 38) rfl rfl, wd_pre hAB hP hD hS hA⟩ rfl rfl hl.1 rfl (lv_room (Nat.le_of_ble_eq_true rfl)) dX4_leaveBegin_24 ⟨Nat.zero_le _, Nat.zero_le _⟩) (fun u H locs h hP hD hS => ?_)
    obtain ⟨nQd_25, nFr_26, nQu_27⟩ := u
    have hP : va_P D vwCl (WC cI cJ cE cD ad bd dd bHK bHP bPF bWC bRi bBe bFi bWa dB dS dN tC tKi tEa tHa tPr tEx tSt tTo tBe kC kKi kEa kHa kPr kEx kSt kTo kBe aC aWh aTa aWa iRo iEa iLa cC nC nFo nQd_25 nRo nBe nEa nMi nHa nER nMR nTh nPa nOu nFr_26 nQu_27 eM eL eC eS eB eE eF eG) H := hP
    have hD : va_D A (WC cI cJ cE cD ad bd dd bHK bHP bPF bWC bRi bBe bFi bWa dB dS dN tC tKi tEa tHa tPr tEx tSt tTo tBe kC kKi kEa kHa kPr kEx kSt kTo kBe aC aWh aTa aWa iRo iEa iLa cC nC nFo nQd_25 nRo nBe nEa nMi nHa nER nMR nTh nPa nOu nFr_26 nQu_27 eM eL eC eS eB eE eF eG) := hD
    exact B27 nQd_25 nFr_26 nQu_27 h H locs ls hP hD hS (lv_sub hl [0, 1, 2, 3] rfl)
def wp_X4_leaveEnd_b85 (k39 : (Int32) → (Int32) → (Nat → Int32) → (Nat → Int32) → Prop) (x4_11 : Int32) (nQd_12 : Int32) (nFr_13 : Nat → Int32) (nQu_14 : Nat → Int32) : Prop :=
  ∀ x4_15 : Int32, x4_15 = x4_11 + 1 → k39 x4_15 nQd_12 nFr_13 nQu_14
def wp_X4_leaveEnd_L39 (a1 : Int32) (f2 : Nat → Int32) (f3 : Nat → Int32) (nBe : Nat → Int32) (nC : Int32) (x39 : (Int32) → (Nat → Int32) → (Nat → Int32) → Prop) : Nat → (Int32) → (Int32) → (Nat → Int32) → (Nat → Int32) → Prop
  | 0, _, _, _, _ => False
  | n39 + 1, x4_4, nQd_5, nFr_6, nQu_7 =>
  ((nC ≤ x4_4 → x39 nQd_5 nFr_6 nQu_7) ∧
   (¬ nC ≤ x4_4 → vp_in x4_4 12 ∧ wp_X7_hasBit (nBe (Int32.toNatClampNeg x4_4)) a1 (fun (r_18 : Int32) => ((r_18 = 0 → wp_X4_leaveEnd_b85 (wp_X4_leaveEnd_L39 a1 f2 f3 nBe nC x39 n39) x4_4 nQd_5 nFr_6 nQu_7) ∧
   (¬ r_18 = 0 → vp_in x4_4 12 ∧ vp_in a1 12 ∧ ((¬ (f2 (Int32.toNatClampNeg x4_4)) = (f3 (Int32.toNatClampNeg a1)) → wp_X4_leaveEnd_b85 (wp_X4_leaveEnd_L39 a1 f2 f3 nBe nC x39 n39) x4_4 nQd_5 nFr_6 nQu_7) ∧
   ((f2 (Int32.toNatClampNeg x4_4)) = (f3 (Int32.toNatClampNeg a1)) → wp_X4_reach nQd_5 nFr_6 nQu_7 (2 * x4_4) ((2 * a1) + 1) (fun (nQd_21 : Int32) (nFr_22 : Nat → Int32) (nQu_23 : Nat → Int32) => wp_X4_leaveEnd_b85 (wp_X4_leaveEnd_L39 a1 f2 f3 nBe nC x39 n39) x4_4 nQd_21 nFr_22 nQu_23))))))))
def wp_X4_leaveEnd_b36 (Qp : (Int32) → (Nat → Int32) → (Nat → Int32) → Prop) (a1 : Int32) (f2 : Nat → Int32) (f3 : Nat → Int32) (nBe : Nat → Int32) (nC : Int32) (nQd_1 : Int32) (nFr_2 : Nat → Int32) (nQu_3 : Nat → Int32) : Prop :=
  (∃ n39 : Nat, wp_X4_leaveEnd_L39 a1 f2 f3 nBe nC (fun (nQd_8 : Int32) (nFr_9 : Nat → Int32) (nQu_10 : Nat → Int32) => Qp nQd_8 nFr_9 nQu_10) n39 0 nQd_1 nFr_2 nQu_3)
def wp_X4_leaveEnd (f2 : Nat → Int32) (f3 : Nat → Int32) (nC : Int32) (nQd : Int32) (nBe : Nat → Int32) (nEa : Nat → Int32) (nMi : Nat → Int32) (nHa : Nat → Int32) (nER : Nat → Int32) (nMR : Nat → Int32) (nTh : Nat → Int32) (nFr : Nat → Int32) (nQu : Nat → Int32) (a1 : Int32) (Qp : (Int32) → (Nat → Int32) → (Nat → Int32) → Prop) : Prop :=
  vp_in a1 12 ∧ (((nTh (Int32.toNatClampNeg a1)) ≤ 0 → wp_X4_leaveEnd_b36 Qp a1 f2 f3 nBe nC nQd nFr nQu) ∧
   (¬ (nTh (Int32.toNatClampNeg a1)) ≤ 0 → vp_in a1 12 ∧ wp_X4_spanOff nEa nMi nHa nER nMR nTh a1 (fun (r_25 : Int32) => vp_in a1 12 ∧ ((¬ ((f2 (Int32.toNatClampNeg a1)) + r_25) = (f3 (Int32.toNatClampNeg a1)) → wp_X4_leaveEnd_b36 Qp a1 f2 f3 nBe nC nQd nFr nQu) ∧
   (((f2 (Int32.toNatClampNeg a1)) + r_25) = (f3 (Int32.toNatClampNeg a1)) → wp_X4_reach nQd nFr nQu (2 * a1) ((2 * a1) + 1) (fun (nQd_27 : Int32) (nFr_28 : Nat → Int32) (nQu_29 : Nat → Int32) => wp_X4_leaveEnd_b36 Qp a1 f2 f3 nBe nC nQd_27 nFr_28 nQu_29))))))
theorem inn_X4_leaveEnd_4 : ∀ w ∈ u_ws RX4 TX4 15, w ∈ wsX4_leaveEnd := fun _ h => List.mem_cons_of_mem _ (List.mem_append_right _ h)
def rm_X4_leaveEnd : Room := { frames := 1, cells := 0, slots := 0, locals := 22 }
set_option maxHeartbeats 4000000 in
set_option maxRecDepth 100000 in
theorem ct_X4_leaveEnd {l : Launch} {D : va_G} {cI cJ cZ cE cD cK : ClassId} {ad : Nat → Nat} {bd dd : Nat → Nat → Nat} {bHK : Int32} {bHP : Int32} {bPF : Int32} {bWC : Int32} {bRi : Int32} {bBe : Int32} {bFi : Int32} {bWa : Nat → Int32} {dB : Nat → Int32} {dS : Nat → Int32} {dN : Nat → Nat → Int64} {tC : Int32} {tKi : Nat → Int32} {tEa : Nat → Int32} {tHa : Nat → Int32} {tPr : Nat → Int32} {tEx : Nat → Int32} {tSt : Nat → Int32} {tTo : Nat → Int32} {tBe : Nat → Int32} {kC : Int32} {kKi : Nat → Int32} {kEa : Nat → Int32} {kHa : Nat → Int32} {kPr : Nat → Int32} {kEx : Nat → Int32} {kSt : Nat → Int32} {kTo : Nat → Int32} {kBe : Nat → Int32} {aC : Int32} {aWh : Nat → Int32} {aTa : Nat → Int32} {aWa : Nat → Int32} {iRo : Nat → Int32} {iEa : Nat → Int32} {iLa : Nat → Int32} {cC : Int32} {nC : Int32} {nFo : Int32} {nQd : Int32} {nRo : Nat → Int32} {nBe : Nat → Int32} {nEa : Nat → Int32} {nMi : Nat → Int32} {nHa : Nat → Int32} {nER : Nat → Int32} {nMR : Nat → Int32} {nTh : Nat → Int32} {nPa : Nat → Int32} {nOu : Nat → Int32} {nFr : Nat → Int32} {nQu : Nat → Int32} {eM : Nat} {eL : Nat → Int32} {eC : Nat → Int64} {eS : Nat → Int64} {eB : Nat → Nat → Int32} {eE : Nat → Nat → Int32} {eF : Nat → Nat → Int32} {eG : Nat → Nat → Int32} {i : Nat} {f2 : Nat → Int32} {f3 : Nat → Int32} {a1 : Int32} {Qp : (Int32) → (Nat → Int32) → (Nat → Int32) → Prop} (hi2 : i < eM) (hi3 : i < eM) (q_f2 : eB i = f2) (q_f3 : eE i = f3) (h : wp_X4_leaveEnd f2 f3 nC nQd nBe nEa nMi nHa nER nMR nTh nFr nQu a1 Qp) : CTv l yX4_leaveEnd wsX4_leaveEnd rm_X4_leaveEnd D (tyL cI cJ cZ cE cD cK) [.ref (ad 38), .int a1, .ref (bd i 1), .ref (bd i 2)] (WC cI cJ cE cD ad bd dd bHK bHP bPF bWC bRi bBe bFi bWa dB dS dN tC tKi tEa tHa tPr tEx tSt tTo tBe kC kKi kEa kHa kPr kEx kSt kTo kBe aC aWh aTa aWa iRo iEa iLa cC nC nFo nQd nRo nBe nEa nMi nHa nER nMR nTh nPa nOu nFr nQu eM eL eC eS eB eE eF eG) (fun u : (Int32) × (Nat → Int32) × (Nat → Int32) => Qp u.1 u.2.1 u.2.2) (fun u : (Int32) × (Nat → Int32) × (Nat → Int32) => (WC cI cJ cE cD ad bd dd bHK bHP bPF bWC bRi bBe bFi bWa dB dS dN tC tKi tEa tHa tPr tEx tSt tTo tBe kC kKi kEa kHa kPr kEx kSt kTo kBe aC aWh aTa aWa iRo iEa iLa cC nC nFo u.1 nRo nBe nEa nMi nHa nER nMR nTh nPa nOu u.2.1 u.2.2 eM eL eC eS eB eE eF eG)) 0 0 := by
  subst q_f2
  subst q_f3
  refine ent_v (cc := cX4_leaveEnd) (maxL := 5) (ret := none) (by decide) rfl (Nat.le_of_ble_eq_true rfl) ?_
  intro p e s m args below meth c A Q hQ hx hb hr hml hown hts hlk hA hAB hP hD hS ls hl
  have hown : s.vm.findClass RX4 = some m.cls := hown
  have hl : lv_has ls 5 [(0, .ref (ad 38)), (1, .int a1), (2, .ref (bd i 1)), (3, .ref (bd i 2))] := hl
  generalize hH : s.heap = H at hP ⊢
  have hS : va_S A s.heap H [] := by rw [← hH]; exact hS
  clear hH
  generalize ([] : List Loc) = locs at hS ⊢
  have B36 : ∀ (nQd_1 : Int32) (nFr_2 : Nat → Int32) (nQu_3 : Nat → Int32), wp_X4_leaveEnd_b36 Qp a1 (eB i) (eE i) nBe nC nQd_1 nFr_2 nQu_3 → ∀ (H : Heap) (locs : List Loc) (ls : Array Slot), va_P D vwCl (WC cI cJ cE cD ad bd dd bHK bHP bPF bWC bRi bBe bFi bWa dB dS dN tC tKi tEa tHa tPr tEx tSt tTo tBe kC kKi kEa kHa kPr kEx kSt kTo kBe aC aWh aTa aWa iRo iEa iLa cC nC nFo nQd_1 nRo nBe nEa nMi nHa nER nMR nTh nPa nOu nFr_2 nQu_3 eM eL eC eS eB eE eF eG) H → va_D A (WC cI cJ cE cD ad bd dd bHK bHP bPF bWC bRi bBe bFi bWa dB dS dN tC tKi tEa tHa tPr tEx tSt tTo tBe kC kKi kEa kHa kPr kEx kSt kTo kBe aC aWh aTa aWa iRo iEa iLa cC nC nFo nQd_1 nRo nBe nEa nMi nHa nER nMR nTh nPa nOu nFr_2 nQu_3 eM eL eC eS eB eE eF eG) → va_S A s.heap H locs → lv_has ls 5 [(0, .ref (ad 38)), (1, .int a1), (2, .ref (bd i 1)), (3, .ref (bd i 2))] → W p l e (headSpec wsX4_leaveEnd rm_X4_leaveEnd).room s m args below meth c H locs 0 0 Q (F0 m 36 ls []) := by
    intro nQd_1 nFr_2 nQu_3 h H locs ls hP hD hS hl
    refine lv_iconst (v := 0) hx hb dX4_leaveEnd_36 (by decide) ?_
    refine lv_istore (lv' := [(4, .int 0), (0, .ref (ad 38)), (1, .int a1), (2, .ref (bd i 1)), (3, .ref (bd i 2))]) hx hb dX4_leaveEnd_37 hl (by decide) rfl (fun ls hl => ?_)
    have L39 : ∀ (x39 : (Int32) → (Nat → Int32) → (Nat → Int32) → Prop) (hk39 : ∀ (nQd_8 : Int32) (nFr_9 : Nat → Int32) (nQu_10 : Nat → Int32), x39 nQd_8 nFr_9 nQu_10 → ∀ (H : Heap) (locs : List Loc) (ls : Array Slot), va_P D vwCl (WC cI cJ cE cD ad bd dd bHK bHP bPF bWC bRi bBe bFi bWa dB dS dN tC tKi tEa tHa tPr tEx tSt tTo tBe kC kKi kEa kHa kPr kEx kSt kTo kBe aC aWh aTa aWa iRo iEa iLa cC nC nFo nQd_8 nRo nBe nEa nMi nHa nER nMR nTh nPa nOu nFr_9 nQu_10 eM eL eC eS eB eE eF eG) H → va_D A (WC cI cJ cE cD ad bd dd bHK bHP bPF bWC bRi bBe bFi bWa dB dS dN tC tKi tEa tHa tPr tEx tSt tTo tBe kC kKi kEa kHa kPr kEx kSt kTo kBe aC aWh aTa aWa iRo iEa iLa cC nC nFo nQd_8 nRo nBe nEa nMi nHa nER nMR nTh nPa nOu nFr_9 nQu_10 eM eL eC eS eB eE eF eG) → va_S A s.heap H locs → lv_has ls 5 [] → W p l e (headSpec wsX4_leaveEnd rm_X4_leaveEnd).room s m args below meth c H locs 0 0 Q (F0 m 91 ls [])) (n39 : Nat) (x4_4 : Int32) (nQd_5 : Int32) (nFr_6 : Nat → Int32) (nQu_7 : Nat → Int32), wp_X4_leaveEnd_L39 a1 (eB i) (eE i) nBe nC x39 n39 x4_4 nQd_5 nFr_6 nQu_7 → ∀ (H : Heap) (locs : List Loc) (ls : Array Slot), va_P D vwCl (WC cI cJ cE cD ad bd dd bHK bHP bPF bWC bRi bBe bFi bWa dB dS dN tC tKi tEa tHa tPr tEx tSt tTo tBe kC kKi kEa kHa kPr kEx kSt kTo kBe aC aWh aTa aWa iRo iEa iLa cC nC nFo nQd_5 nRo nBe nEa nMi nHa nER nMR nTh nPa nOu nFr_6 nQu_7 eM eL eC eS eB eE eF eG) H → va_D A (WC cI cJ cE cD ad bd dd bHK bHP bPF bWC bRi bBe bFi bWa dB dS dN tC tKi tEa tHa tPr tEx tSt tTo tBe kC kKi kEa kHa kPr kEx kSt kTo kBe aC aWh aTa aWa iRo iEa iLa cC nC nFo nQd_5 nRo nBe nEa nMi nHa nER nMR nTh nPa nOu nFr_6 nQu_7 eM eL eC eS eB eE eF eG) → va_S A s.heap H locs → lv_has ls 5 [(0, .ref (ad 38)), (1, .int a1), (2, .ref (bd i 1)), (3, .ref (bd i 2)), (4, .int x4_4)] → W p l e (headSpec wsX4_leaveEnd rm_X4_leaveEnd).room s m args below meth c H locs 0 0 Q (F0 m 39 ls []) := by
      intro x39 hk39 n39
      induction n39 with
      | zero => intro x4_4 nQd_5 nFr_6 nQu_7 h; exact False.elim h
      | succ n39 ih39 =>
        intro x4_4 nQd_5 nFr_6 nQu_7 h H locs ls hP hD hS hl
        have B85 : ∀ (x4_11 : Int32) (nQd_12 : Int32) (nFr_13 : Nat → Int32) (nQu_14 : Nat → Int32), wp_X4_leaveEnd_b85 (wp_X4_leaveEnd_L39 a1 (eB i) (eE i) nBe nC x39 n39) x4_11 nQd_12 nFr_13 nQu_14 → ∀ (H : Heap) (locs : List Loc) (ls : Array Slot), va_P D vwCl (WC cI cJ cE cD ad bd dd bHK bHP bPF bWC bRi bBe bFi bWa dB dS dN tC tKi tEa tHa tPr tEx tSt tTo tBe kC kKi kEa kHa kPr kEx kSt kTo kBe aC aWh aTa aWa iRo iEa iLa cC nC nFo nQd_12 nRo nBe nEa nMi nHa nER nMR nTh nPa nOu nFr_13 nQu_14 eM eL eC eS eB eE eF eG) H → va_D A (WC cI cJ cE cD ad bd dd bHK bHP bPF bWC bRi bBe bFi bWa dB dS dN tC tKi tEa tHa tPr tEx tSt tTo tBe kC kKi kEa kHa kPr kEx kSt kTo kBe aC aWh aTa aWa iRo iEa iLa cC nC nFo nQd_12 nRo nBe nEa nMi nHa nER nMR nTh nPa nOu nFr_13 nQu_14 eM eL eC eS eB eE eF eG) → va_S A s.heap H locs → lv_has ls 5 [(0, .ref (ad 38)), (1, .int a1), (2, .ref (bd i 1)), (3, .ref (bd i 2)), (4, .int x4_11)] → W p l e (headSpec wsX4_leaveEnd rm_X4_leaveEnd).room s m args below meth c H locs 0 0 Q (F0 m 85 ls []) := by
          intro x4_11 nQd_12 nFr_13 nQu_14 h H locs ls hP hD hS hl
          obtain ⟨x4_15, e_16⟩ : ∃ y : Int32, y = x4_11 + 1 := ⟨_, rfl⟩
          have h := h x4_15 e_16
          refine lv_iinc (v := x4_15) (lv' := [(4, .int x4_15), (0, .ref (ad 38)), (1, .int a1), (2, .ref (bd i 1)), (3, .ref (bd i 2))]) hx hb dX4_leaveEnd_85 hl (k := 4) rfl (by rw [e_16]; rfl) (by decide) rfl (fun ls hl => ?_)
          refine lv_goto (tgt := 39) hx hb dX4_leaveEnd_88 (by decide) ?_
          exact ih39 x4_15 nQd_12 nFr_13 nQu_14 h H locs ls hP hD hS (lv_sub hl [1, 2, 3, 4, 0] rfl)
        refine lv_iload hx hb dX4_leaveEnd_39 (lv_at hl 4 rfl) ?_
        refine lv_aload_n hx hb dX4_leaveEnd_41 rfl (lv_at hl 0 rfl) ?_
        refine va_get (D := D) (ci := 4) (C := RX4) (T := TX4) (N := 15) hx hb hts inn_X4_leaveEnd_4 hown hAB.1 hP 38 rfl rfl 0 (by decide) (hts (.fieldLink RX4 54 "BarnBench$Net" "count" "I") (by decide +kernel)) (fun _ h9 => h9) rfl dX4_leaveEnd_42 ?_
        refine lv_icmp_ge (tgt := 91) hx hb dX4_leaveEnd_45 (by decide) (fun c_17 => ?_) (fun c_17 => ?_)
        · have h := h.1 c_17
          exact hk39 nQd_5 nFr_6 nQu_7 h H locs ls hP hD hS (lv_sub hl [] rfl)
        · have h := h.2 c_17
          refine lv_aload_n hx hb dX4_leaveEnd_48 rfl (lv_at hl 0 rfl) ?_
          refine va_get (D := D) (ci := 4) (C := RX4) (T := TX4) (N := 15) hx hb hts inn_X4_leaveEnd_4 hown hAB.1 hP 38 rfl rfl 2 (by decide) (hts (.fieldLink RX4 15 "BarnBench$Net" "before" "[I") (by decide +kernel)) (fun _ h9 => h9) rfl dX4_leaveEnd_49 ?_
          refine lv_iload hx hb dX4_leaveEnd_52 (lv_at hl 4 rfl) ?_
          refine va_iald hx hb hAB.1 hP 40 0 rfl rfl h.1 dX4_leaveEnd_54 ?_
          have h := h.2
          refine lv_iload_n hx hb dX4_leaveEnd_55 rfl (lv_at hl 1 rfl) ?_
          refine cl_i hD hS hA (va_runSN (As := [.int (nBe (Int32.toNatClampNeg x4_4)), .int a1]) (rest := []) ⟨hx, hb, hml, hown, hts⟩ (ct_X7_hasBit h H.size) ⟨va_cnB 2 hts gX4_leaveEnd_X7_hasBit_n76 rfl rfl rfl (hAB.2.1 (.methodLinkNest RX4 76 yX7_hasBit RX7) (by decide +kernel)) (hts (.initialized RX7) (by decide +kernel)) (by decide +kernel) ⟨Nat.le_of_ble_eq_true rfl, Nat.le_of_ble_eq_true rfl⟩, (hts (.static yX7_hasBit) (by decide +kernel)), trivial⟩ ⟨CPre.blind, wd_pre hAB hP hD hS hA⟩ rfl rfl hl.1 rfl (lv_room (Nat.le_of_ble_eq_true rfl)) dX4_leaveEnd_56 ⟨Nat.zero_le _, Nat.zero_le _⟩) (fun r_18 u H locs h hP hD hS => ?_)
          refine lv_if_eq (tgt := 85) hx hb dX4_leaveEnd_59 (by decide) (fun c_19 => ?_) (fun c_19 => ?_)
          · have h := h.1 c_19
            exact B85 x4_4 nQd_5 nFr_6 nQu_7 h H locs ls hP hD hS (lv_sub hl [0, 1, 2, 3, 4] rfl)
          · have h := h.2 c_19
            refine lv_aload_n hx hb dX4_leaveEnd_62 rfl (lv_at hl 2 rfl) ?_
            refine lv_iload hx hb dX4_leaveEnd_63 (lv_at hl 4 rfl) ?_
            refine va_iald hx hb hAB.1 hP (52 + (i * 5 + 1)) 0 (gB_1 hi2) rfl h.1 dX4_leaveEnd_65 ?_
            have h := h.2
            refine lv_aload_n hx hb dX4_leaveEnd_66 rfl (lv_at hl 3 rfl) ?_
            refine lv_iload_n hx hb dX4_leaveEnd_67 rfl (lv_at hl 1 rfl) ?_
            refine va_iald hx hb hAB.1 hP (52 + (i * 5 + 2)) 0 (gB_2 hi3) rfl h.1 dX4_leaveEnd_68 ?_
            have h := h.2
            refine lv_icmp_ne (tgt := 85) hx hb dX4_leaveEnd_69 (by decide) (fun c_20 => ?_) (fun c_20 => ?_)
            · have h := h.1 c_20
              exact B85 x4_4 nQd_5 nFr_6 nQu_7 h H locs ls hP hD hS (lv_sub hl [0, 1, 2, 3, 4] rfl)
            · have h := h.2 c_20
              refine lv_aload_n hx hb dX4_leaveEnd_72 rfl (lv_at hl 0 rfl) ?_
              refine lv_iconst (v := 2) hx hb dX4_leaveEnd_73 (by decide) ?_
              refine lv_iload hx hb dX4_leaveEnd_74 (lv_at hl 4 rfl) ?_
              refine lv_imul hx hb dX4_leaveEnd_76 ?_
              refine lv_iconst (v := 2) hx hb dX4_leaveEnd_77 (by decide) ?_
              refine lv_iload_n hx hb dX4_leaveEnd_78 rfl (lv_at hl 1 rfl) ?_
              refine lv_imul hx hb dX4_leaveEnd_79 ?_
              refine lv_iconst (v := 1) hx hb dX4_leaveEnd_80 (by decide) ?_
              refine lv_iadd hx hb dX4_leaveEnd_81 ?_
              refine cl_v hD hS hA (va_runV (As := [.int (2 * x4_4), .int ((2 * a1) + 1)]) (rest := []) ⟨hx, hb, hml, hown, hts⟩ (ct_X4_reach h H.size) (cwV 2 hts gX4_leaveEnd_X4_reach rfl rfl rfl (by decide +kernel) ⟨Nat.le_of_ble_eq_true rfl, Nat.le_of_ble_eq_true rfl⟩) ⟨CPre.blind, va_recv hAB.1 hP (ci := 4) (q0 := 38) rfl rfl, wd_pre hAB hP hD hS hA⟩ rfl rfl hl.1 rfl (lv_room (Nat.le_of_ble_eq_true rfl)) dX4_leaveEnd_82 ⟨Nat.zero_le _, Nat.zero_le _⟩) (fun u H locs h hP hD hS => ?_)
              obtain ⟨nQd_21, nFr_22, nQu_23⟩ := u
              have hP : va_P D vwCl (WC cI cJ cE cD ad bd dd bHK bHP bPF bWC bRi bBe bFi bWa dB dS dN tC tKi tEa tHa tPr tEx tSt tTo tBe kC kKi kEa kHa kPr kEx kSt kTo kBe aC aWh aTa aWa iRo iEa iLa cC nC nFo nQd_21 nRo nBe nEa nMi nHa nER nMR nTh nPa nOu nFr_22 nQu_23 eM eL eC eS eB eE eF eG) H := hP
              have hD : va_D A (WC cI cJ cE cD ad bd dd bHK bHP bPF bWC bRi bBe bFi bWa dB dS dN tC tKi tEa tHa tPr tEx tSt tTo tBe kC kKi kEa kHa kPr kEx kSt kTo kBe aC aWh aTa aWa iRo iEa iLa cC nC nFo nQd_21 nRo nBe nEa nMi nHa nER nMR nTh nPa nOu nFr_22 nQu_23 eM eL eC eS eB eE eF eG) := hD
              exact B85 x4_4 nQd_21 nFr_22 nQu_23 h H locs ls hP hD hS (lv_sub hl [0, 1, 2, 3, 4] rfl)
    obtain ⟨n39, h⟩ := h
    refine L39 _ (fun nQd_8 nFr_9 nQu_10 h H locs ls hP hD hS hl => ?_) n39 0 nQd_1 nFr_2 nQu_3 h H locs ls hP hD hS (lv_sub hl [1, 2, 3, 4, 0] rfl)
    exact rt_v (nQd_8, nFr_9, nQu_10) hQ hx hb hr hlk hP hD hS ⟨Nat.zero_le _, Nat.zero_le _⟩ dX4_leaveEnd_91 h
  refine lv_aload_n hx hb dX4_leaveEnd_0 rfl (lv_at hl 0 rfl) ?_
  refine va_get (D := D) (ci := 4) (C := RX4) (T := TX4) (N := 15) hx hb hts inn_X4_leaveEnd_4 hown hAB.1 hP 38 rfl rfl 9 (by decide) (hts (.fieldLink RX4 33 "BarnBench$Net" "through" "[I") (by decide +kernel)) (fun _ h9 => h9) rfl dX4_leaveEnd_1 ?_
  refine lv_iload_n hx hb dX4_leaveEnd_4 rfl (lv_at hl 1 rfl) ?_
  refine va_iald hx hb hAB.1 hP 46 0 rfl rfl h.1 dX4_leaveEnd_5 ?_
  have h := h.2
  refine lv_if_le (tgt := 36) hx hb dX4_leaveEnd_6 (by decide) (fun c_24 => ?_) (fun c_24 => ?_)
  · have h := h.1 c_24
    exact B36 nQd nFr nQu h H locs ls hP hD hS (lv_sub hl [0, 1, 2, 3] rfl)
  · have h := h.2 c_24
    refine lv_aload_n hx hb dX4_leaveEnd_9 rfl (lv_at hl 2 rfl) ?_
    refine lv_iload_n hx hb dX4_leaveEnd_10 rfl (lv_at hl 1 rfl) ?_
    refine va_iald hx hb hAB.1 hP (52 + (i * 5 + 1)) 0 (gB_1 hi2) rfl h.1 dX4_leaveEnd_11 ?_
    have h := h.2
    refine lv_aload_n hx hb dX4_leaveEnd_12 rfl (lv_at hl 0 rfl) ?_
    refine lv_iload_n hx hb dX4_leaveEnd_13 rfl (lv_at hl 1 rfl) ?_
    refine cl_i hD hS hA (va_runV (As := [.int a1]) (rest := [.int ((eB i) (Int32.toNatClampNeg a1))]) ⟨hx, hb, hml, hown, hts⟩ (ct_X4_spanOff h H.size) (cwV 1 hts gX4_leaveEnd_X4_spanOff rfl rfl rfl (by decide +kernel) ⟨Nat.le_of_ble_eq_true rfl, Nat.le_of_ble_eq_true rfl⟩) ⟨CPre.blind, va_recv hAB.1 hP (ci := 4) (q0 := 38) rfl rfl, wd_pre hAB hP hD hS hA⟩ rfl rfl hl.1 rfl (lv_room (Nat.le_of_ble_eq_true rfl)) dX4_leaveEnd_14 ⟨Nat.zero_le _, Nat.zero_le _⟩) (fun r_25 u H locs h hP hD hS => ?_)
    refine lv_iadd hx hb dX4_leaveEnd_17 ?_
    refine lv_aload_n hx hb dX4_leaveEnd_18 rfl (lv_at hl 3 rfl) ?_
    refine lv_iload_n hx hb dX4_leaveEnd_19 rfl (lv_at hl 1 rfl) ?_
    refine va_iald hx hb hAB.1 hP (52 + (i * 5 + 2)) 0 (gB_2 hi3) rfl h.1 dX4_leaveEnd_20 ?_
    have h := h.2
    refine lv_icmp_ne (tgt := 36) hx hb dX4_leaveEnd_21 (by decide) (fun c_26 => ?_) (fun c_26 => ?_)
    · have h := h.1 c_26
      exact B36 nQd nFr nQu h H locs ls hP hD hS (lv_sub hl [0, 1, 2, 3] rfl)
    · have h := h.2 c_26
      refine lv_aload_n hx hb dX4_leaveEnd_24 rfl (lv_at hl 0 rfl) ?_
      refine lv_iconst (v := 2) hx hb dX4_leaveEnd_25 (by decide) ?_
      refine lv_iload_n hx hb dX4_leaveEnd_26 rfl (lv_at hl 1 rfl) ?_
      refine lv_imul hx hb dX4_leaveEnd_27 ?_
      refine lv_iconst (v := 2) hx hb dX4_leaveEnd_28 (by decide) ?_
      refine lv_iload_n hx hb dX4_leaveEnd_29 rfl (lv_at hl 1 rfl) ?_
      refine lv_imul hx hb dX4_leaveEnd_30 ?_
      refine lv_iconst (v := 1) hx hb dX4_leaveEnd_31 (by decide) ?_
      refine lv_iadd hx hb dX4_leaveEnd_32 ?_
      refine cl_v hD hS hA (va_runV (As := [.int (2 * a1), .int ((2 * a1) + 1)]) (rest := []) ⟨hx, hb, hml, hown, hts⟩ (ct_X4_reach h H.size) (cwV 2 hts gX4_leaveEnd_X4_reach rfl rfl rfl (by decide +kernel) ⟨Nat.le_of_ble_eq_true rfl, Nat.le_of_ble_eq_true rfl⟩) ⟨CPre.blind, va_recv hAB.1 hP (ci := 4) (q0 := 38) rfl rfl, wd_pre hAB hP hD hS hA⟩ rfl rfl hl.1 rfl (lv_room (Nat.le_of_ble_eq_true rfl)) dX4_leaveEnd_33 ⟨Nat.zero_le _, Nat.zero_le _⟩) (fun u H locs h hP hD hS => ?_)
      obtain ⟨nQd_27, nFr_28, nQu_29⟩ := u
      have hP : va_P D vwCl (WC cI cJ cE cD ad bd dd bHK bHP bPF bWC bRi bBe bFi bWa dB dS dN tC tKi tEa tHa tPr tEx tSt tTo tBe kC kKi kEa kHa kPr kEx kSt kTo kBe aC aWh aTa aWa iRo iEa iLa cC nC nFo nQd_27 nRo nBe nEa nMi nHa nER nMR nTh nPa nOu nFr_28 nQu_29 eM eL eC eS eB eE eF eG) H := hP
      have hD : va_D A (WC cI cJ cE cD ad bd dd bHK bHP bPF bWC bRi bBe bFi bWa dB dS dN tC tKi tEa tHa tPr tEx tSt tTo tBe kC kKi kEa kHa kPr kEx kSt kTo kBe aC aWh aTa aWa iRo iEa iLa cC nC nFo nQd_27 nRo nBe nEa nMi nHa nER nMR nTh nPa nOu nFr_28 nQu_29 eM eL eC eS eB eE eF eG) := hD
      exact B36 nQd_27 nFr_28 nQu_29 h H locs ls hP hD hS (lv_sub hl [0, 1, 2, 3] rfl)
def wp_X4_findWay_b52 (k16 : (Int32) → (Int32) → (Nat → Int32) → (Nat → Int32) → Prop) (x4_12 : Int32) (nQd_13 : Int32) (nFr_14 : Nat → Int32) (nQu_15 : Nat → Int32) : Prop :=
  ∀ x4_16 : Int32, x4_16 = x4_12 + 1 → k16 x4_16 nQd_13 nFr_14 nQu_15
def wp_X4_findWay_L16 (f1 : Nat → Int32) (nBe : Nat → Int32) (nC : Int32) (x16 : (Int32) → (Nat → Int32) → (Nat → Int32) → Prop) : Nat → (Int32) → (Int32) → (Nat → Int32) → (Nat → Int32) → Prop
  | 0, _, _, _, _ => False
  | n16 + 1, x4_5, nQd_6, nFr_7, nQu_8 =>
  ((nC ≤ x4_5 → x16 nQd_6 nFr_7 nQu_8) ∧
   (¬ nC ≤ x4_5 → vp_in x4_5 12 ∧ ((¬ (nBe (Int32.toNatClampNeg x4_5)) = 0 → wp_X4_findWay_b52 (wp_X4_findWay_L16 f1 nBe nC x16 n16) x4_5 nQd_6 nFr_7 nQu_8) ∧
   ((nBe (Int32.toNatClampNeg x4_5)) = 0 → vp_in x4_5 12 ∧ ((¬ (f1 (Int32.toNatClampNeg x4_5)) = 0 → wp_X4_findWay_b52 (wp_X4_findWay_L16 f1 nBe nC x16 n16) x4_5 nQd_6 nFr_7 nQu_8) ∧
   ((f1 (Int32.toNatClampNeg x4_5)) = 0 → wp_X4_reach nQd_6 nFr_7 nQu_8 (2 * x4_5) (-2) (fun (nQd_21 : Int32) (nFr_22 : Nat → Int32) (nQu_23 : Nat → Int32) => wp_X4_findWay_b52 (wp_X4_findWay_L16 f1 nBe nC x16 n16) x4_5 nQd_21 nFr_22 nQu_23)))))))
def wp_X4_findWay_b135 (k61 : (Int32) → (Int32) → (Nat → Int32) → (Nat → Int32) → Prop) (x4_31 : Int32) (nQd_32 : Int32) (nFr_33 : Nat → Int32) (nQu_34 : Nat → Int32) : Prop :=
  ∀ x4_35 : Int32, x4_35 = x4_31 + 1 → k61 x4_35 nQd_32 nFr_33 nQu_34
def wp_X4_findWay_b127 (f1 : Nat → Int32) (f2 : Nat → Int32) (nBe : Nat → Int32) (nC : Int32) (nER : Nat → Int32) (nEa : Nat → Int32) (nHa : Nat → Int32) (nMR : Nat → Int32) (nMi : Nat → Int32) (nTh : Nat → Int32) (k61 : (Int32) → (Int32) → (Nat → Int32) → (Nat → Int32) → Prop) (x4_37 : Int32) (x5_38 : Int32) (nQd_39 : Int32) (nFr_40 : Nat → Int32) (nQu_41 : Nat → Int32) : Prop :=
  wp_X4_leaveEnd (f1) (f2) nC nQd_39 nBe nEa nMi nHa nER nMR nTh nFr_40 nQu_41 x5_38 (fun (nQd_42 : Int32) (nFr_43 : Nat → Int32) (nQu_44 : Nat → Int32) => wp_X4_findWay_b135 k61 x4_37 nQd_42 nFr_43 nQu_44)
def wp_X4_findWay_L61 (Qp : Int32 → (Int32) → (Nat → Int32) → (Nat → Int32) → Prop) (a3 : Int32) (f1 : Nat → Int32) (f2 : Nat → Int32) (nBe : Nat → Int32) (nC : Int32) (nER : Nat → Int32) (nEa : Nat → Int32) (nFo : Int32) (nHa : Nat → Int32) (nMR : Nat → Int32) (nMi : Nat → Int32) (nPa : Nat → Int32) (nTh : Nat → Int32) (x61 : (Int32) → (Nat → Int32) → (Nat → Int32) → Prop) : Nat → (Int32) → (Int32) → (Nat → Int32) → (Nat → Int32) → Prop
  | 0, _, _, _, _ => False
  | n61 + 1, x4_24, nQd_25, nFr_26, nQu_27 =>
  ((nQd_25 ≤ x4_24 → x61 nQd_25 nFr_26 nQu_27) ∧
   (¬ nQd_25 ≤ x4_24 → vp_in x4_24 24 ∧ ∀ x5_46 : Int32, x5_46 = ((nQu_27 (Int32.toNatClampNeg x4_24)) / 2) → vp_in x4_24 24 ∧ ((¬ ((nQu_27 (Int32.toNatClampNeg x4_24)) - (nQu_27 (Int32.toNatClampNeg x4_24)) / 2 * 2) = 0 → vp_in x5_46 12 ∧ ((¬ (f2 (Int32.toNatClampNeg x5_46)) = a3 → wp_X4_findWay_b127 f1 f2 nBe nC nER nEa nHa nMR nMi nTh (wp_X4_findWay_L61 Qp a3 f1 f2 nBe nC nER nEa nFo nHa nMR nMi nPa nTh x61 n61) x4_24 x5_46 nQd_25 nFr_26 nQu_27) ∧
   ((f2 (Int32.toNatClampNeg x5_46)) = a3 → wp_X7_hasBit nFo x5_46 (fun (r_50 : Int32) => ((¬ r_50 = 0 → wp_X4_findWay_b127 f1 f2 nBe nC nER nEa nHa nMR nMi nTh (wp_X4_findWay_L61 Qp a3 f1 f2 nBe nC nER nEa nFo nHa nMR nMi nPa nTh x61 n61) x4_24 x5_46 nQd_25 nFr_26 nQu_27) ∧
   (r_50 = 0 → Qp x5_46 nQd_25 nFr_26 nQu_27)))))) ∧
   (((nQu_27 (Int32.toNatClampNeg x4_24)) - (nQu_27 (Int32.toNatClampNeg x4_24)) / 2 * 2) = 0 → wp_X4_leaveBegin (f1) (f2) nC nQd_25 nEa nMi nHa nER nMR nTh nPa nFr_26 nQu_27 x5_46 (fun (nQd_52 : Int32) (nFr_53 : Nat → Int32) (nQu_54 : Nat → Int32) => wp_X4_findWay_b135 (wp_X4_findWay_L61 Qp a3 f1 f2 nBe nC nER nEa nFo nHa nMR nMi nPa nTh x61 n61) x4_24 nQd_52 nFr_53 nQu_54)))))
def wp_X4_findWay (f1 : Nat → Int32) (f2 : Nat → Int32) (nC : Int32) (nFo : Int32) (nQd : Int32) (nBe : Nat → Int32) (nEa : Nat → Int32) (nMi : Nat → Int32) (nHa : Nat → Int32) (nER : Nat → Int32) (nMR : Nat → Int32) (nTh : Nat → Int32) (nPa : Nat → Int32) (nFr : Nat → Int32) (nQu : Nat → Int32) (a3 : Int32) (Qp : Int32 → (Int32) → (Nat → Int32) → (Nat → Int32) → Prop) : Prop :=
  ∀ nFr_1 : Nat → Int32, nFr_1 = jFill nFr 24 (-1) → ∀ nQd_3 : Int32, nQd_3 = 0 → (∃ n16 : Nat, wp_X4_findWay_L16 f1 nBe nC (fun (nQd_9 : Int32) (nFr_10 : Nat → Int32) (nQu_11 : Nat → Int32) => (∃ n61 : Nat, wp_X4_findWay_L61 Qp a3 f1 f2 nBe nC nER nEa nFo nHa nMR nMi nPa nTh (fun (nQd_28 : Int32) (nFr_29 : Nat → Int32) (nQu_30 : Nat → Int32) => Qp (-1) nQd_28 nFr_29 nQu_30) n61 0 nQd_9 nFr_10 nQu_11)) n16 0 nQd_3 nFr_1 nQu)
theorem inn_X4_findWay_4 : ∀ w ∈ u_ws RX4 TX4 15, w ∈ wsX4_findWay := fun _ h => List.mem_cons_of_mem _ (List.mem_append_right _ h)
def rm_X4_findWay : Room := { frames := 2, cells := 0, slots := 0, locals := 46 }
set_option maxHeartbeats 4000000 in
set_option maxRecDepth 100000 in
theorem ct_X4_findWay {l : Launch} {D : va_G} {cI cJ cZ cE cD cK : ClassId} {ad : Nat → Nat} {bd dd : Nat → Nat → Nat} {bHK : Int32} {bHP : Int32} {bPF : Int32} {bWC : Int32} {bRi : Int32} {bBe : Int32} {bFi : Int32} {bWa : Nat → Int32} {dB : Nat → Int32} {dS : Nat → Int32} {dN : Nat → Nat → Int64} {tC : Int32} {tKi : Nat → Int32} {tEa : Nat → Int32} {tHa : Nat → Int32} {tPr : Nat → Int32} {tEx : Nat → Int32} {tSt : Nat → Int32} {tTo : Nat → Int32} {tBe : Nat → Int32} {kC : Int32} {kKi : Nat → Int32} {kEa : Nat → Int32} {kHa : Nat → Int32} {kPr : Nat → Int32} {kEx : Nat → Int32} {kSt : Nat → Int32} {kTo : Nat → Int32} {kBe : Nat → Int32} {aC : Int32} {aWh : Nat → Int32} {aTa : Nat → Int32} {aWa : Nat → Int32} {iRo : Nat → Int32} {iEa : Nat → Int32} {iLa : Nat → Int32} {cC : Int32} {nC : Int32} {nFo : Int32} {nQd : Int32} {nRo : Nat → Int32} {nBe : Nat → Int32} {nEa : Nat → Int32} {nMi : Nat → Int32} {nHa : Nat → Int32} {nER : Nat → Int32} {nMR : Nat → Int32} {nTh : Nat → Int32} {nPa : Nat → Int32} {nOu : Nat → Int32} {nFr : Nat → Int32} {nQu : Nat → Int32} {eM : Nat} {eL : Nat → Int32} {eC : Nat → Int64} {eS : Nat → Int64} {eB : Nat → Nat → Int32} {eE : Nat → Nat → Int32} {eF : Nat → Nat → Int32} {eG : Nat → Nat → Int32} {i : Nat} {f1 : Nat → Int32} {f2 : Nat → Int32} {a3 : Int32} {Qp : Int32 → (Int32) → (Nat → Int32) → (Nat → Int32) → Prop} (hi1 : i < eM) (hi2 : i < eM) (q_f1 : eB i = f1) (q_f2 : eE i = f2) (h : wp_X4_findWay f1 f2 nC nFo nQd nBe nEa nMi nHa nER nMR nTh nPa nFr nQu a3 Qp) : CTi l yX4_findWay wsX4_findWay rm_X4_findWay D (tyL cI cJ cZ cE cD cK) [.ref (ad 38), .ref (bd i 1), .ref (bd i 2), .int a3] (WC cI cJ cE cD ad bd dd bHK bHP bPF bWC bRi bBe bFi bWa dB dS dN tC tKi tEa tHa tPr tEx tSt tTo tBe kC kKi kEa kHa kPr kEx kSt kTo kBe aC aWh aTa aWa iRo iEa iLa cC nC nFo nQd nRo nBe nEa nMi nHa nER nMR nTh nPa nOu nFr nQu eM eL eC eS eB eE eF eG) (fun (r : Int32) (u : (Int32) × (Nat → Int32) × (Nat → Int32)) => Qp r u.1 u.2.1 u.2.2) (fun u : (Int32) × (Nat → Int32) × (Nat → Int32) => (WC cI cJ cE cD ad bd dd bHK bHP bPF bWC bRi bBe bFi bWa dB dS dN tC tKi tEa tHa tPr tEx tSt tTo tBe kC kKi kEa kHa kPr kEx kSt kTo kBe aC aWh aTa aWa iRo iEa iLa cC nC nFo u.1 nRo nBe nEa nMi nHa nER nMR nTh nPa nOu u.2.1 u.2.2 eM eL eC eS eB eE eF eG)) 0 0 := by
  subst q_f1
  subst q_f2
  refine ent_i (cc := cX4_findWay) (maxL := 6) (ret := (some .int)) (by decide) rfl (Nat.le_of_ble_eq_true rfl) ?_
  intro p e s m args below meth c A Q hQ hx hb hr hml hown hts hlk hA hAB hP hD hS ls hl
  have hown : s.vm.findClass RX4 = some m.cls := hown
  have hl : lv_has ls 6 [(0, .ref (ad 38)), (1, .ref (bd i 1)), (2, .ref (bd i 2)), (3, .int a3)] := hl
  generalize hH : s.heap = H at hP ⊢
  have hS : va_S A s.heap H [] := by rw [← hH]; exact hS
  clear hH
  generalize ([] : List Loc) = locs at hS ⊢
  refine lv_aload_n hx hb dX4_findWay_0 rfl (lv_at hl 0 rfl) ?_
  refine va_get (D := D) (ci := 4) (C := RX4) (T := TX4) (N := 15) hx hb hts inn_X4_findWay_4 hown hAB.1 hP 38 rfl rfl 12 (by decide) (hts (.fieldLink RX4 42 "BarnBench$Net" "from" "[I") (by decide +kernel)) (fun _ h9 => h9) rfl dX4_findWay_1 ?_
  refine lv_iconst (v := (-1)) hx hb dX4_findWay_4 (by decide) ?_
  refine cl_v hD hS hA (va_runS (As := [.ref (ad 49), .int (-1)]) (rest := []) ⟨hx, hb, hml, hown, hts⟩ (ct_J7_fill_53178 (q := 49) rfl (by decide) H.size) (va_cwS 2 hts gX4_findWay_J7_fill_53178 rfl rfl rfl (by decide +kernel) ⟨Nat.le_of_ble_eq_true rfl, Nat.le_of_ble_eq_true rfl⟩) ⟨CPre.blind, wd_pre hAB hP hD hS hA⟩ rfl rfl hl.1 rfl (lv_room (Nat.le_of_ble_eq_true rfl)) dX4_findWay_5 ⟨Nat.zero_le _, Nat.zero_le _⟩) (fun u H locs _ hP hD hS => ?_)
  obtain ⟨nFr_1, e_2⟩ : ∃ z, z = jFill nFr 24 (-1) := ⟨_, rfl⟩
  have hP : va_P D vwCl (WC cI cJ cE cD ad bd dd bHK bHP bPF bWC bRi bBe bFi bWa dB dS dN tC tKi tEa tHa tPr tEx tSt tTo tBe kC kKi kEa kHa kPr kEx kSt kTo kBe aC aWh aTa aWa iRo iEa iLa cC nC nFo nQd nRo nBe nEa nMi nHa nER nMR nTh nPa nOu nFr_1 nQu eM eL eC eS eB eE eF eG) H := by rw [e_2]; exact hP
  have hD : va_D A (WC cI cJ cE cD ad bd dd bHK bHP bPF bWC bRi bBe bFi bWa dB dS dN tC tKi tEa tHa tPr tEx tSt tTo tBe kC kKi kEa kHa kPr kEx kSt kTo kBe aC aWh aTa aWa iRo iEa iLa cC nC nFo nQd nRo nBe nEa nMi nHa nER nMR nTh nPa nOu nFr_1 nQu eM eL eC eS eB eE eF eG) := by rw [e_2]; exact hD
  have h := h nFr_1 e_2
  refine lv_aload_n hx hb dX4_findWay_8 rfl (lv_at hl 0 rfl) ?_
  refine lv_iconst (v := 0) hx hb dX4_findWay_9 (by decide) ?_
  refine fC_38_queued hx hb hAB hP hD hS hts inn_X4_findWay_4 hown (hts (.fieldLink RX4 135 "BarnBench$Net" "queued" "I") (by decide +kernel)) dX4_findWay_10 (fun nQd_3 H locs e_4 hP hD hS => ?_)
  have h := h nQd_3 e_4
  refine lv_iconst (v := 0) hx hb dX4_findWay_13 (by decide) ?_
  refine lv_istore (lv' := [(4, .int 0), (0, .ref (ad 38)), (1, .ref (bd i 1)), (2, .ref (bd i 2)), (3, .int a3)]) hx hb dX4_findWay_14 hl (by decide) rfl (fun ls hl => ?_)
  have L16 : ∀ (x16 : (Int32) → (Nat → Int32) → (Nat → Int32) → Prop) (hk16 : ∀ (nQd_9 : Int32) (nFr_10 : Nat → Int32) (nQu_11 : Nat → Int32), x16 nQd_9 nFr_10 nQu_11 → ∀ (H : Heap) (locs : List Loc) (ls : Array Slot), va_P D vwCl (WC cI cJ cE cD ad bd dd bHK bHP bPF bWC bRi bBe bFi bWa dB dS dN tC tKi tEa tHa tPr tEx tSt tTo tBe kC kKi kEa kHa kPr kEx kSt kTo kBe aC aWh aTa aWa iRo iEa iLa cC nC nFo nQd_9 nRo nBe nEa nMi nHa nER nMR nTh nPa nOu nFr_10 nQu_11 eM eL eC eS eB eE eF eG) H → va_D A (WC cI cJ cE cD ad bd dd bHK bHP bPF bWC bRi bBe bFi bWa dB dS dN tC tKi tEa tHa tPr tEx tSt tTo tBe kC kKi kEa kHa kPr kEx kSt kTo kBe aC aWh aTa aWa iRo iEa iLa cC nC nFo nQd_9 nRo nBe nEa nMi nHa nER nMR nTh nPa nOu nFr_10 nQu_11 eM eL eC eS eB eE eF eG) → va_S A s.heap H locs → lv_has ls 6 [(0, .ref (ad 38)), (1, .ref (bd i 1)), (2, .ref (bd i 2)), (3, .int a3)] → W p l e (headSpec wsX4_findWay rm_X4_findWay).room s m args below meth c H locs 0 0 Q (F0 m 58 ls [])) (n16 : Nat) (x4_5 : Int32) (nQd_6 : Int32) (nFr_7 : Nat → Int32) (nQu_8 : Nat → Int32), wp_X4_findWay_L16 (eB i) nBe nC x16 n16 x4_5 nQd_6 nFr_7 nQu_8 → ∀ (H : Heap) (locs : List Loc) (ls : Array Slot), va_P D vwCl (WC cI cJ cE cD ad bd dd bHK bHP bPF bWC bRi bBe bFi bWa dB dS dN tC tKi tEa tHa tPr tEx tSt tTo tBe kC kKi kEa kHa kPr kEx kSt kTo kBe aC aWh aTa aWa iRo iEa iLa cC nC nFo nQd_6 nRo nBe nEa nMi nHa nER nMR nTh nPa nOu nFr_7 nQu_8 eM eL eC eS eB eE eF eG) H → va_D A (WC cI cJ cE cD ad bd dd bHK bHP bPF bWC bRi bBe bFi bWa dB dS dN tC tKi tEa tHa tPr tEx tSt tTo tBe kC kKi kEa kHa kPr kEx kSt kTo kBe aC aWh aTa aWa iRo iEa iLa cC nC nFo nQd_6 nRo nBe nEa nMi nHa nER nMR nTh nPa nOu nFr_7 nQu_8 eM eL eC eS eB eE eF eG) → va_S A s.heap H locs → lv_has ls 6 [(0, .ref (ad 38)), (1, .ref (bd i 1)), (2, .ref (bd i 2)), (3, .int a3), (4, .int x4_5)] → W p l e (headSpec wsX4_findWay rm_X4_findWay).room s m args below meth c H locs 0 0 Q (F0 m 16 ls []) := by
    intro x16 hk16 n16
    induction n16 with
    | zero => intro x4_5 nQd_6 nFr_7 nQu_8 h; exact False.elim h
    | succ n16 ih16 =>
      intro x4_5 nQd_6 nFr_7 nQu_8 h H locs ls hP hD hS hl
      have B52 : ∀ (x4_12 : Int32) (nQd_13 : Int32) (nFr_14 : Nat → Int32) (nQu_15 : Nat → Int32), wp_X4_findWay_b52 (wp_X4_findWay_L16 (eB i) nBe nC x16 n16) x4_12 nQd_13 nFr_14 nQu_15 → ∀ (H : Heap) (locs : List Loc) (ls : Array Slot), va_P D vwCl (WC cI cJ cE cD ad bd dd bHK bHP bPF bWC bRi bBe bFi bWa dB dS dN tC tKi tEa tHa tPr tEx tSt tTo tBe kC kKi kEa kHa kPr kEx kSt kTo kBe aC aWh aTa aWa iRo iEa iLa cC nC nFo nQd_13 nRo nBe nEa nMi nHa nER nMR nTh nPa nOu nFr_14 nQu_15 eM eL eC eS eB eE eF eG) H → va_D A (WC cI cJ cE cD ad bd dd bHK bHP bPF bWC bRi bBe bFi bWa dB dS dN tC tKi tEa tHa tPr tEx tSt tTo tBe kC kKi kEa kHa kPr kEx kSt kTo kBe aC aWh aTa aWa iRo iEa iLa cC nC nFo nQd_13 nRo nBe nEa nMi nHa nER nMR nTh nPa nOu nFr_14 nQu_15 eM eL eC eS eB eE eF eG) → va_S A s.heap H locs → lv_has ls 6 [(0, .ref (ad 38)), (1, .ref (bd i 1)), (2, .ref (bd i 2)), (3, .int a3), (4, .int x4_12)] → W p l e (headSpec wsX4_findWay rm_X4_findWay).room s m args below meth c H locs 0 0 Q (F0 m 52 ls []) := by
        intro x4_12 nQd_13 nFr_14 nQu_15 h H locs ls hP hD hS hl
        obtain ⟨x4_16, e_17⟩ : ∃ y : Int32, y = x4_12 + 1 := ⟨_, rfl⟩
        have h := h x4_16 e_17
        refine lv_iinc (v := x4_16) (lv' := [(4, .int x4_16), (0, .ref (ad 38)), (1, .ref (bd i 1)), (2, .ref (bd i 2)), (3, .int a3)]) hx hb dX4_findWay_52 hl (k := 4) rfl (by rw [e_17]; rfl) (by decide) rfl (fun ls hl => ?_)
        refine lv_goto (tgt := 16) hx hb dX4_findWay_55 (by decide) ?_
        exact ih16 x4_16 nQd_13 nFr_14 nQu_15 h H locs ls hP hD hS (lv_sub hl [1, 2, 3, 4, 0] rfl)
      refine lv_iload hx hb dX4_findWay_16 (lv_at hl 4 rfl) ?_
      refine lv_aload_n hx hb dX4_findWay_18 rfl (lv_at hl 0 rfl) ?_
      refine va_get (D := D) (ci := 4) (C := RX4) (T := TX4) (N := 15) hx hb hts inn_X4_findWay_4 hown hAB.1 hP 38 rfl rfl 0 (by decide) (hts (.fieldLink RX4 54 "BarnBench$Net" "count" "I") (by decide +kernel)) (fun _ h9 => h9) rfl dX4_findWay_19 ?_
      refine lv_icmp_ge (tgt := 58) hx hb dX4_findWay_22 (by decide) (fun c_18 => ?_) (fun c_18 => ?_)
      · have h := h.1 c_18
        exact hk16 nQd_6 nFr_7 nQu_8 h H locs ls hP hD hS (lv_sub hl [0, 1, 2, 3] rfl)
      · have h := h.2 c_18
        refine lv_aload_n hx hb dX4_findWay_25 rfl (lv_at hl 0 rfl) ?_
        refine va_get (D := D) (ci := 4) (C := RX4) (T := TX4) (N := 15) hx hb hts inn_X4_findWay_4 hown hAB.1 hP 38 rfl rfl 2 (by decide) (hts (.fieldLink RX4 15 "BarnBench$Net" "before" "[I") (by decide +kernel)) (fun _ h9 => h9) rfl dX4_findWay_26 ?_
        refine lv_iload hx hb dX4_findWay_29 (lv_at hl 4 rfl) ?_
        refine va_iald hx hb hAB.1 hP 40 0 rfl rfl h.1 dX4_findWay_31 ?_
        have h := h.2
        refine lv_if_ne (tgt := 52) hx hb dX4_findWay_32 (by decide) (fun c_19 => ?_) (fun c_19 => ?_)
        · have h := h.1 c_19
          exact B52 x4_5 nQd_6 nFr_7 nQu_8 h H locs ls hP hD hS (lv_sub hl [0, 1, 2, 3, 4] rfl)
        · have h := h.2 c_19
          refine lv_aload_n hx hb dX4_findWay_35 rfl (lv_at hl 1 rfl) ?_
          refine lv_iload hx hb dX4_findWay_36 (lv_at hl 4 rfl) ?_
          refine va_iald hx hb hAB.1 hP (52 + (i * 5 + 1)) 0 (gB_1 hi1) rfl h.1 dX4_findWay_38 ?_
          have h := h.2
          refine lv_if_ne (tgt := 52) hx hb dX4_findWay_39 (by decide) (fun c_20 => ?_) (fun c_20 => ?_)
          · have h := h.1 c_20
            exact B52 x4_5 nQd_6 nFr_7 nQu_8 h H locs ls hP hD hS (lv_sub hl [0, 1, 2, 3, 4] rfl)
          · have h := h.2 c_20
            refine lv_aload_n hx hb dX4_findWay_42 rfl (lv_at hl 0 rfl) ?_
            refine lv_iconst (v := 2) hx hb dX4_findWay_43 (by decide) ?_
            refine lv_iload hx hb dX4_findWay_44 (lv_at hl 4 rfl) ?_
            refine lv_imul hx hb dX4_findWay_46 ?_
            refine lv_bipush (v := (-2)) hx hb dX4_findWay_47 (by decide) ?_
            refine cl_v hD hS hA (va_runV (As := [.int (2 * x4_5), .int (-2)]) (rest := []) ⟨hx, hb, hml, hown, hts⟩ (ct_X4_reach h H.size) (cwV 2 hts gX4_findWay_X4_reach rfl rfl rfl (by decide +kernel) ⟨Nat.le_of_ble_eq_true rfl, Nat.le_of_ble_eq_true rfl⟩) ⟨CPre.blind, va_recv hAB.1 hP (ci := 4) (q0 := 38) rfl rfl, wd_pre hAB hP hD hS hA⟩ rfl rfl hl.1 rfl (lv_room (Nat.le_of_ble_eq_true rfl)) dX4_findWay_49 ⟨Nat.zero_le _, Nat.zero_le _⟩) (fun u H locs h hP hD hS => ?_)
            obtain ⟨nQd_21, nFr_22, nQu_23⟩ := u
            have hP : va_P D vwCl (WC cI cJ cE cD ad bd dd bHK bHP bPF bWC bRi bBe bFi bWa dB dS dN tC tKi tEa tHa tPr tEx tSt tTo tBe kC kKi kEa kHa kPr kEx kSt kTo kBe aC aWh aTa aWa iRo iEa iLa cC nC nFo nQd_21 nRo nBe nEa nMi nHa nER nMR nTh nPa nOu nFr_22 nQu_23 eM eL eC eS eB eE eF eG) H := hP
            have hD : va_D A (WC cI cJ cE cD ad bd dd bHK bHP bPF bWC bRi bBe bFi bWa dB dS dN tC tKi tEa tHa tPr tEx tSt tTo tBe kC kKi kEa kHa kPr kEx kSt kTo kBe aC aWh aTa aWa iRo iEa iLa cC nC nFo nQd_21 nRo nBe nEa nMi nHa nER nMR nTh nPa nOu nFr_22 nQu_23 eM eL eC eS eB eE eF eG) := hD
            exact B52 x4_5 nQd_21 nFr_22 nQu_23 h H locs ls hP hD hS (lv_sub hl [0, 1, 2, 3, 4] rfl)
  obtain ⟨n16, h⟩ := h
  refine L16 _ (fun nQd_9 nFr_10 nQu_11 h H locs ls hP hD hS hl => ?_) n16 0 nQd_3 nFr_1 nQu h H locs ls hP hD hS (lv_sub hl [1, 2, 3, 4, 0] rfl)
  refine lv_iconst (v := 0) hx hb dX4_findWay_58 (by decide) ?_
  refine lv_istore (lv' := [(4, .int 0), (0, .ref (ad 38)), (1, .ref (bd i 1)), (2, .ref (bd i 2)), (3, .int a3)]) hx hb dX4_findWay_59 hl (by decide) rfl (fun ls hl => ?_)
  have L61 : ∀ (x61 : (Int32) → (Nat → Int32) → (Nat → Int32) → Prop) (hk61 : ∀ (nQd_28 : Int32) (nFr_29 : Nat → Int32) (nQu_30 : Nat → Int32), x61 nQd_28 nFr_29 nQu_30 → ∀ (H : Heap) (locs : List Loc) (ls : Array Slot), va_P D vwCl (WC cI cJ cE cD ad bd dd bHK bHP bPF bWC bRi bBe bFi bWa dB dS dN tC tKi tEa tHa tPr tEx tSt tTo tBe kC kKi kEa kHa kPr kEx kSt kTo kBe aC aWh aTa aWa iRo iEa iLa cC nC nFo nQd_28 nRo nBe nEa nMi nHa nER nMR nTh nPa nOu nFr_29 nQu_30 eM eL eC eS eB eE eF eG) H → va_D A (WC cI cJ cE cD ad bd dd bHK bHP bPF bWC bRi bBe bFi bWa dB dS dN tC tKi tEa tHa tPr tEx tSt tTo tBe kC kKi kEa kHa kPr kEx kSt kTo kBe aC aWh aTa aWa iRo iEa iLa cC nC nFo nQd_28 nRo nBe nEa nMi nHa nER nMR nTh nPa nOu nFr_29 nQu_30 eM eL eC eS eB eE eF eG) → va_S A s.heap H locs → lv_has ls 6 [] → W p l e (headSpec wsX4_findWay rm_X4_findWay).room s m args below meth c H locs 0 0 Q (F0 m 141 ls [])) (n61 : Nat) (x4_24 : Int32) (nQd_25 : Int32) (nFr_26 : Nat → Int32) (nQu_27 : Nat → Int32), wp_X4_findWay_L61 Qp a3 (eB i) (eE i) nBe nC nER nEa nFo nHa nMR nMi nPa nTh x61 n61 x4_24 nQd_25 nFr_26 nQu_27 → ∀ (H : Heap) (locs : List Loc) (ls : Array Slot), va_P D vwCl (WC cI cJ cE cD ad bd dd bHK bHP bPF bWC bRi bBe bFi bWa dB dS dN tC tKi tEa tHa tPr tEx tSt tTo tBe kC kKi kEa kHa kPr kEx kSt kTo kBe aC aWh aTa aWa iRo iEa iLa cC nC nFo nQd_25 nRo nBe nEa nMi nHa nER nMR nTh nPa nOu nFr_26 nQu_27 eM eL eC eS eB eE eF eG) H → va_D A (WC cI cJ cE cD ad bd dd bHK bHP bPF bWC bRi bBe bFi bWa dB dS dN tC tKi tEa tHa tPr tEx tSt tTo tBe kC kKi kEa kHa kPr kEx kSt kTo kBe aC aWh aTa aWa iRo iEa iLa cC nC nFo nQd_25 nRo nBe nEa nMi nHa nER nMR nTh nPa nOu nFr_26 nQu_27 eM eL eC eS eB eE eF eG) → va_S A s.heap H locs → lv_has ls 6 [(0, .ref (ad 38)), (1, .ref (bd i 1)), (2, .ref (bd i 2)), (3, .int a3), (4, .int x4_24)] → W p l e (headSpec wsX4_findWay rm_X4_findWay).room s m args below meth c H locs 0 0 Q (F0 m 61 ls []) := by
    intro x61 hk61 n61
    induction n61 with
    | zero => intro x4_24 nQd_25 nFr_26 nQu_27 h; exact False.elim h
    | succ n61 ih61 =>
      intro x4_24 nQd_25 nFr_26 nQu_27 h H locs ls hP hD hS hl
      have B135 : ∀ (x4_31 : Int32) (nQd_32 : Int32) (nFr_33 : Nat → Int32) (nQu_34 : Nat → Int32), wp_X4_findWay_b135 (wp_X4_findWay_L61 Qp a3 (eB i) (eE i) nBe nC nER nEa nFo nHa nMR nMi nPa nTh x61 n61) x4_31 nQd_32 nFr_33 nQu_34 → ∀ (H : Heap) (locs : List Loc) (ls : Array Slot), va_P D vwCl (WC cI cJ cE cD ad bd dd bHK bHP bPF bWC bRi bBe bFi bWa dB dS dN tC tKi tEa tHa tPr tEx tSt tTo tBe kC kKi kEa kHa kPr kEx kSt kTo kBe aC aWh aTa aWa iRo iEa iLa cC nC nFo nQd_32 nRo nBe nEa nMi nHa nER nMR nTh nPa nOu nFr_33 nQu_34 eM eL eC eS eB eE eF eG) H → va_D A (WC cI cJ cE cD ad bd dd bHK bHP bPF bWC bRi bBe bFi bWa dB dS dN tC tKi tEa tHa tPr tEx tSt tTo tBe kC kKi kEa kHa kPr kEx kSt kTo kBe aC aWh aTa aWa iRo iEa iLa cC nC nFo nQd_32 nRo nBe nEa nMi nHa nER nMR nTh nPa nOu nFr_33 nQu_34 eM eL eC eS eB eE eF eG) → va_S A s.heap H locs → lv_has ls 6 [(0, .ref (ad 38)), (1, .ref (bd i 1)), (2, .ref (bd i 2)), (3, .int a3), (4, .int x4_31)] → W p l e (headSpec wsX4_findWay rm_X4_findWay).room s m args below meth c H locs 0 0 Q (F0 m 135 ls []) := by
        intro x4_31 nQd_32 nFr_33 nQu_34 h H locs ls hP hD hS hl
        obtain ⟨x4_35, e_36⟩ : ∃ y : Int32, y = x4_31 + 1 := ⟨_, rfl⟩
        have h := h x4_35 e_36
        refine lv_iinc (v := x4_35) (lv' := [(4, .int x4_35), (0, .ref (ad 38)), (1, .ref (bd i 1)), (2, .ref (bd i 2)), (3, .int a3)]) hx hb dX4_findWay_135 hl (k := 4) rfl (by rw [e_36]; rfl) (by decide) rfl (fun ls hl => ?_)
        refine lv_goto (tgt := 61) hx hb dX4_findWay_138 (by decide) ?_
        exact ih61 x4_35 nQd_32 nFr_33 nQu_34 h H locs ls hP hD hS (lv_sub hl [1, 2, 3, 4, 0] rfl)
      have B127 : ∀ (x4_37 : Int32) (x5_38 : Int32) (nQd_39 : Int32) (nFr_40 : Nat → Int32) (nQu_41 : Nat → Int32), wp_X4_findWay_b127 (eB i) (eE i) nBe nC nER nEa nHa nMR nMi nTh (wp_X4_findWay_L61 Qp a3 (eB i) (eE i) nBe nC nER nEa nFo nHa nMR nMi nPa nTh x61 n61) x4_37 x5_38 nQd_39 nFr_40 nQu_41 → ∀ (H : Heap) (locs : List Loc) (ls : Array Slot), va_P D vwCl (WC cI cJ cE cD ad bd dd bHK bHP bPF bWC bRi bBe bFi bWa dB dS dN tC tKi tEa tHa tPr tEx tSt tTo tBe kC kKi kEa kHa kPr kEx kSt kTo kBe aC aWh aTa aWa iRo iEa iLa cC nC nFo nQd_39 nRo nBe nEa nMi nHa nER nMR nTh nPa nOu nFr_40 nQu_41 eM eL eC eS eB eE eF eG) H → va_D A (WC cI cJ cE cD ad bd dd bHK bHP bPF bWC bRi bBe bFi bWa dB dS dN tC tKi tEa tHa tPr tEx tSt tTo tBe kC kKi kEa kHa kPr kEx kSt kTo kBe aC aWh aTa aWa iRo iEa iLa cC nC nFo nQd_39 nRo nBe nEa nMi nHa nER nMR nTh nPa nOu nFr_40 nQu_41 eM eL eC eS eB eE eF eG) → va_S A s.heap H locs → lv_has ls 6 [(0, .ref (ad 38)), (1, .ref (bd i 1)), (2, .ref (bd i 2)), (3, .int a3), (4, .int x4_37), (5, .int x5_38)] → W p l e (headSpec wsX4_findWay rm_X4_findWay).room s m args below meth c H locs 0 0 Q (F0 m 127 ls []) := by
        intro x4_37 x5_38 nQd_39 nFr_40 nQu_41 h H locs ls hP hD hS hl
        refine lv_aload_n hx hb dX4_findWay_127 rfl (lv_at hl 0 rfl) ?_
        refine lv_iload hx hb dX4_findWay_128 (lv_at hl 5 rfl) ?_
        refine lv_aload_n hx hb dX4_findWay_130 rfl (lv_at hl 1 rfl) ?_
        refine lv_aload_n hx hb dX4_findWay_131 rfl (lv_at hl 2 rfl) ?_
        refine cl_v hD hS hA (va_runV (As := [.int x5_38, .ref (bd i 1), .ref (bd i 2)]) (rest := []) ⟨hx, hb, hml, hown, hts⟩ (ct_X4_leaveEnd hi1 hi2 rfl rfl h H.size) (cwV 3 hts gX4_findWay_X4_leaveEnd rfl rfl rfl (by decide +kernel) ⟨Nat.le_of_ble_eq_true rfl, Nat.le_of_ble_eq_true rfl⟩) ⟨CPre.blind, va_recv hAB.1 hP (ci := 4) (q0 := 38) rfl rfl, wd_pre hAB hP hD hS hA⟩ rfl rfl hl.1 rfl (lv_room (Nat.le_of_ble_eq_true rfl)) dX4_findWay_132 ⟨Nat.zero_le _, Nat.zero_le _⟩) (fun u H locs h hP hD hS => ?_)
        obtain ⟨nQd_42, nFr_43, nQu_44⟩ := u
        have hP : va_P D vwCl (WC cI cJ cE cD ad bd dd bHK bHP bPF bWC bRi bBe bFi bWa dB dS dN tC tKi tEa tHa tPr tEx tSt tTo tBe kC kKi kEa kHa kPr kEx kSt kTo kBe aC aWh aTa aWa iRo iEa iLa cC nC nFo nQd_42 nRo nBe nEa nMi nHa nER nMR nTh nPa nOu nFr_43 nQu_44 eM eL eC eS eB eE eF eG) H := hP
        have hD : va_D A (WC cI cJ cE cD ad bd dd bHK bHP bPF bWC bRi bBe bFi bWa dB dS dN tC tKi tEa tHa tPr tEx tSt tTo tBe kC kKi kEa kHa kPr kEx kSt kTo kBe aC aWh aTa aWa iRo iEa iLa cC nC nFo nQd_42 nRo nBe nEa nMi nHa nER nMR nTh nPa nOu nFr_43 nQu_44 eM eL eC eS eB eE eF eG) := hD
        exact B135 x4_37 nQd_42 nFr_43 nQu_44 h H locs ls hP hD hS (lv_sub hl [0, 1, 2, 3, 4] rfl)
      refine lv_iload hx hb dX4_findWay_61 (lv_at hl 4 rfl) ?_
      refine lv_aload_n hx hb dX4_findWay_63 rfl (lv_at hl 0 rfl) ?_
      refine va_get (D := D) (ci := 4) (C := RX4) (T := TX4) (N := 15) hx hb hts inn_X4_findWay_4 hown hAB.1 hP 38 rfl rfl 14 (by decide) (hts (.fieldLink RX4 135 "BarnBench$Net" "queued" "I") (by decide +kernel)) (fun _ h9 => h9) rfl dX4_findWay_64 ?_
      refine lv_icmp_ge (tgt := 141) hx hb dX4_findWay_67 (by decide) (fun c_45 => ?_) (fun c_45 => ?_)
      · have h := h.1 c_45
        exact hk61 nQd_25 nFr_26 nQu_27 h H locs ls hP hD hS (lv_sub hl [] rfl)
      · have h := h.2 c_45
        refine lv_aload_n hx hb dX4_findWay_70 rfl (lv_at hl 0 rfl) ?_
        refine va_get (D := D) (ci := 4) (C := RX4) (T := TX4) (N := 15) hx hb hts inn_X4_findWay_4 hown hAB.1 hP 38 rfl rfl 13 (by decide) (hts (.fieldLink RX4 45 "BarnBench$Net" "queue" "[I") (by decide +kernel)) (fun _ h9 => h9) rfl dX4_findWay_71 ?_
        refine lv_iload hx hb dX4_findWay_74 (lv_at hl 4 rfl) ?_
        refine va_iald hx hb hAB.1 hP 50 0 rfl rfl h.1 dX4_findWay_76 ?_
        have h := h.2
        refine lv_iconst (v := 2) hx hb dX4_findWay_77 (by decide) ?_
        refine lv_idiv hx hb dX4_findWay_78 (by decide) ?_
        refine lv_topi (fun x5_46 e_47 => ?_)
        have h := h x5_46 e_47
        refine lv_istore (lv' := [(5, .int x5_46), (0, .ref (ad 38)), (1, .ref (bd i 1)), (2, .ref (bd i 2)), (3, .int a3), (4, .int x4_24)]) hx hb dX4_findWay_79 hl (by decide) rfl (fun ls hl => ?_)
        refine lv_aload_n hx hb dX4_findWay_81 rfl (lv_at hl 1 rfl) ?_
        refine va_get (D := D) (ci := 4) (C := RX4) (T := TX4) (N := 15) hx hb hts inn_X4_findWay_4 hown hAB.1 hP 38 rfl rfl 13 (by decide) (hts (.fieldLink RX4 45 "BarnBench$Net" "queue" "[I") (by decide +kernel)) (fun _ h9 => h9) rfl dX4_findWay_82 ?_
        refine lv_iload hx hb dX4_findWay_85 (lv_at hl 5 rfl) ?_
        refine va_iald hx hb hAB.1 hP 50 0 rfl rfl h.1 dX4_findWay_87 ?_
        have h := h.2
        refine lv_iconst (v := 2) hx hb dX4_findWay_88 (by decide) ?_
        refine lv_irem hx hb dX4_findWay_89 (by decide) ?_
        refine lv_if_ne (tgt := 104) hx hb dX4_findWay_90 (by decide) (fun c_48 => ?_) (fun c_48 => ?_)
        · have h := h.1 c_48
          refine lv_aload_n hx hb dX4_findWay_104 rfl (lv_at hl 3 rfl) ?_
          refine lv_iload hx hb dX4_findWay_105 (lv_at hl 0 rfl) ?_
          refine va_iald hx hb hAB.1 hP (52 + (i * 5 + 2)) 0 (gB_2 hi2) rfl h.1 dX4_findWay_107 ?_
          have h := h.2
          refine lv_iload_n hx hb dX4_findWay_108 rfl (lv_at hl 4 rfl) ?_
          refine lv_icmp_ne (tgt := 127) hx hb dX4_findWay_109 (by decide) (fun c_49 => ?_) (fun c_49 => ?_)
          · have h := h.1 c_49
            exact B127 x4_24 x5_46 nQd_25 nFr_26 nQu_27 h H locs ls hP hD hS (lv_sub hl [1, 2, 3, 4, 5, 0] rfl)
          · have h := h.2 c_49
            refine lv_aload_n hx hb dX4_findWay_112 rfl (lv_at hl 1 rfl) ?_
            refine va_get (D := D) (ci := 4) (C := RX4) (T := TX4) (N := 15) hx hb hts inn_X4_findWay_4 hown hAB.1 hP 38 rfl rfl 3 (by decide) (hts (.fieldLink RX4 65 "BarnBench$Net" "followed" "I") (by decide +kernel)) (fun _ h9 => h9) rfl dX4_findWay_113 ?_
            refine lv_iload hx hb dX4_findWay_116 (lv_at hl 0 rfl) ?_
            refine cl_i hD hS hA (va_runSN (As := [.int nFo, .int x5_46]) (rest := []) ⟨hx, hb, hml, hown, hts⟩ (ct_X7_hasBit h H.size) ⟨va_cnB 2 hts gX4_findWay_X7_hasBit_n76 rfl rfl rfl (hAB.2.1 (.methodLinkNest RX4 76 yX7_hasBit RX7) (by decide +kernel)) (hts (.initialized RX7) (by decide +kernel)) (by decide +kernel) ⟨Nat.le_of_ble_eq_true rfl, Nat.le_of_ble_eq_true rfl⟩, (hts (.static yX7_hasBit) (by decide +kernel)), trivial⟩ ⟨CPre.blind, wd_pre hAB hP hD hS hA⟩ rfl rfl hl.1 rfl (lv_room (Nat.le_of_ble_eq_true rfl)) dX4_findWay_118 ⟨Nat.zero_le _, Nat.zero_le _⟩) (fun r_50 u H locs h hP hD hS => ?_)
            refine lv_if_ne (tgt := 127) hx hb dX4_findWay_121 (by decide) (fun c_51 => ?_) (fun c_51 => ?_)
            · have h := h.1 c_51
              exact B127 x4_24 x5_46 nQd_25 nFr_26 nQu_27 h H locs ls hP hD hS (lv_sub hl [1, 2, 3, 4, 5, 0] rfl)
            · have h := h.2 c_51
              refine lv_iload hx hb dX4_findWay_124 (lv_at hl 0 rfl) ?_
              exact rt_i (nQd_25, nFr_26, nQu_27) hQ hx hb hr hlk hP hD hS ⟨Nat.zero_le _, Nat.zero_le _⟩ dX4_findWay_126 h
        · have h := h.2 c_48
          refine lv_aload_n hx hb dX4_findWay_93 rfl (lv_at hl 1 rfl) ?_
          refine lv_iload hx hb dX4_findWay_94 (lv_at hl 0 rfl) ?_
          refine lv_aload_n hx hb dX4_findWay_96 rfl (lv_at hl 2 rfl) ?_
          refine lv_aload_n hx hb dX4_findWay_97 rfl (lv_at hl 3 rfl) ?_
          refine cl_v hD hS hA (va_runV (As := [.int x5_46, .ref (bd i 1), .ref (bd i 2)]) (rest := []) ⟨hx, hb, hml, hown, hts⟩ (ct_X4_leaveBegin hi1 hi2 rfl rfl h H.size) (cwV 3 hts gX4_findWay_X4_leaveBegin rfl rfl rfl (by decide +kernel) ⟨Nat.le_of_ble_eq_true rfl, Nat.le_of_ble_eq_true rfl⟩) ⟨CPre.blind, va_recv hAB.1 hP (ci := 4) (q0 := 38) rfl rfl, wd_pre hAB hP hD hS hA⟩ rfl rfl hl.1 rfl (lv_room (Nat.le_of_ble_eq_true rfl)) dX4_findWay_98 ⟨Nat.zero_le _, Nat.zero_le _⟩) (fun u H locs h hP hD hS => ?_)
          obtain ⟨nQd_52, nFr_53, nQu_54⟩ := u
          have hP : va_P D vwCl (WC cI cJ cE cD ad bd dd bHK bHP bPF bWC bRi bBe bFi bWa dB dS dN tC tKi tEa tHa tPr tEx tSt tTo tBe kC kKi kEa kHa kPr kEx kSt kTo kBe aC aWh aTa aWa iRo iEa iLa cC nC nFo nQd_52 nRo nBe nEa nMi nHa nER nMR nTh nPa nOu nFr_53 nQu_54 eM eL eC eS eB eE eF eG) H := hP
          have hD : va_D A (WC cI cJ cE cD ad bd dd bHK bHP bPF bWC bRi bBe bFi bWa dB dS dN tC tKi tEa tHa tPr tEx tSt tTo tBe kC kKi kEa kHa kPr kEx kSt kTo kBe aC aWh aTa aWa iRo iEa iLa cC nC nFo nQd_52 nRo nBe nEa nMi nHa nER nMR nTh nPa nOu nFr_53 nQu_54 eM eL eC eS eB eE eF eG) := hD
          refine lv_goto (tgt := 135) hx hb dX4_findWay_101 (by decide) ?_
          exact B135 x4_24 nQd_52 nFr_53 nQu_54 h H locs ls hP hD hS (lv_sub hl [1, 2, 3, 4, 5] rfl)
  obtain ⟨n61, h⟩ := h
  refine L61 _ (fun nQd_28 nFr_29 nQu_30 h H locs ls hP hD hS hl => ?_) n61 0 nQd_9 nFr_10 nQu_11 h H locs ls hP hD hS (lv_sub hl [1, 2, 3, 4, 0] rfl)
  refine lv_iconst (v := (-1)) hx hb dX4_findWay_141 (by decide) ?_
  exact rt_i (nQd_28, nFr_29, nQu_30) hQ hx hb hr hlk hP hD hS ⟨Nat.zero_le _, Nat.zero_le _⟩ dX4_findWay_142 h
def wp_X4_push_L15 (a3 : Int32) (f1 : Nat → Int32) (f2 : Nat → Int32) (nBe : Nat → Int32) (nC : Int32) (nER : Nat → Int32) (nEa : Nat → Int32) (nFo : Int32) (nHa : Nat → Int32) (nMR : Nat → Int32) (nMi : Nat → Int32) (x15 : (Int32) → (Int32) → (Nat → Int32) → (Nat → Int32) → (Nat → Int32) → (Nat → Int32) → (Nat → Int32) → Prop) : Nat → (Int32) → (Int32) → (Int32) → (Int32) → (Nat → Int32) → (Nat → Int32) → (Nat → Int32) → (Nat → Int32) → (Nat → Int32) → Prop
  | 0, _, _, _, _, _, _, _, _, _ => False
  | n15 + 1, x4_5, x5_6, x6_7, nQd_8, nTh_9, nPa_10, nOu_11, nFr_12, nQu_13 =>
  ((100000 ≤ x6_7 → x15 x4_5 nQd_8 nTh_9 nPa_10 nOu_11 nFr_12 nQu_13) ∧
   (¬ 100000 ≤ x6_7 → ((x5_6 < 0 → x15 x4_5 nQd_8 nTh_9 nPa_10 nOu_11 nFr_12 nQu_13) ∧
   (¬ x5_6 < 0 → wp_X4_roomOfWay nER nMR nTh_9 nPa_10 nFr_12 x5_6 (fun (r_23 : Int32) => wp_X4_flowAlong nTh_9 nPa_10 nOu_11 nFr_12 x5_6 r_23 (fun (nTh_24 : Nat → Int32) (nPa_25 : Nat → Int32) (nOu_26 : Nat → Int32) => ∀ x4_27 : Int32, x4_27 = (x4_5 + r_23) → wp_X4_findWay (f1) (f2) nC nFo nQd_8 nBe nEa nMi nHa nER nMR nTh_24 nPa_25 nFr_12 nQu_13 a3 (fun (r_29 : Int32) (nQd_30 : Int32) (nFr_31 : Nat → Int32) (nQu_32 : Nat → Int32) => ∀ x6_33 : Int32, x6_33 = x6_7 + 1 → (wp_X4_push_L15 a3 f1 f2 nBe nC nER nEa nFo nHa nMR nMi x15 n15) x4_27 r_29 x6_33 nQd_30 nTh_24 nPa_25 nOu_26 nFr_31 nQu_32)))))))
def wp_X4_push (f1 : Nat → Int32) (f2 : Nat → Int32) (nC : Int32) (nFo : Int32) (nQd : Int32) (nBe : Nat → Int32) (nEa : Nat → Int32) (nMi : Nat → Int32) (nHa : Nat → Int32) (nER : Nat → Int32) (nMR : Nat → Int32) (nTh : Nat → Int32) (nPa : Nat → Int32) (nOu : Nat → Int32) (nFr : Nat → Int32) (nQu : Nat → Int32) (a3 : Int32) (Qp : Int32 → (Int32) → (Nat → Int32) → (Nat → Int32) → (Nat → Int32) → (Nat → Int32) → (Nat → Int32) → Prop) : Prop :=
  wp_X4_findWay (f1) (f2) nC nFo nQd nBe nEa nMi nHa nER nMR nTh nPa nFr nQu a3 (fun (r_1 : Int32) (nQd_2 : Int32) (nFr_3 : Nat → Int32) (nQu_4 : Nat → Int32) => (∃ n15 : Nat, wp_X4_push_L15 a3 f1 f2 nBe nC nER nEa nFo nHa nMR nMi (fun (x4_14 : Int32) (nQd_15 : Int32) (nTh_16 : Nat → Int32) (nPa_17 : Nat → Int32) (nOu_18 : Nat → Int32) (nFr_19 : Nat → Int32) (nQu_20 : Nat → Int32) => Qp x4_14 nQd_15 nTh_16 nPa_17 nOu_18 nFr_19 nQu_20) n15 0 r_1 0 nQd_2 nTh nPa nOu nFr_3 nQu_4))
def rm_X4_push : Room := { frames := 3, cells := 0, slots := 0, locals := 71 }
set_option maxHeartbeats 4000000 in
set_option maxRecDepth 100000 in
theorem ct_X4_push {l : Launch} {D : va_G} {cI cJ cZ cE cD cK : ClassId} {ad : Nat → Nat} {bd dd : Nat → Nat → Nat} {bHK : Int32} {bHP : Int32} {bPF : Int32} {bWC : Int32} {bRi : Int32} {bBe : Int32} {bFi : Int32} {bWa : Nat → Int32} {dB : Nat → Int32} {dS : Nat → Int32} {dN : Nat → Nat → Int64} {tC : Int32} {tKi : Nat → Int32} {tEa : Nat → Int32} {tHa : Nat → Int32} {tPr : Nat → Int32} {tEx : Nat → Int32} {tSt : Nat → Int32} {tTo : Nat → Int32} {tBe : Nat → Int32} {kC : Int32} {kKi : Nat → Int32} {kEa : Nat → Int32} {kHa : Nat → Int32} {kPr : Nat → Int32} {kEx : Nat → Int32} {kSt : Nat → Int32} {kTo : Nat → Int32} {kBe : Nat → Int32} {aC : Int32} {aWh : Nat → Int32} {aTa : Nat → Int32} {aWa : Nat → Int32} {iRo : Nat → Int32} {iEa : Nat → Int32} {iLa : Nat → Int32} {cC : Int32} {nC : Int32} {nFo : Int32} {nQd : Int32} {nRo : Nat → Int32} {nBe : Nat → Int32} {nEa : Nat → Int32} {nMi : Nat → Int32} {nHa : Nat → Int32} {nER : Nat → Int32} {nMR : Nat → Int32} {nTh : Nat → Int32} {nPa : Nat → Int32} {nOu : Nat → Int32} {nFr : Nat → Int32} {nQu : Nat → Int32} {eM : Nat} {eL : Nat → Int32} {eC : Nat → Int64} {eS : Nat → Int64} {eB : Nat → Nat → Int32} {eE : Nat → Nat → Int32} {eF : Nat → Nat → Int32} {eG : Nat → Nat → Int32} {i : Nat} {f1 : Nat → Int32} {f2 : Nat → Int32} {a3 : Int32} {Qp : Int32 → (Int32) → (Nat → Int32) → (Nat → Int32) → (Nat → Int32) → (Nat → Int32) → (Nat → Int32) → Prop} (hi1 : i < eM) (hi2 : i < eM) (q_f1 : eB i = f1) (q_f2 : eE i = f2) (h : wp_X4_push f1 f2 nC nFo nQd nBe nEa nMi nHa nER nMR nTh nPa nOu nFr nQu a3 Qp) : CTi l yX4_push wsX4_push rm_X4_push D (tyL cI cJ cZ cE cD cK) [.ref (ad 38), .ref (bd i 1), .ref (bd i 2), .int a3] (WC cI cJ cE cD ad bd dd bHK bHP bPF bWC bRi bBe bFi bWa dB dS dN tC tKi tEa tHa tPr tEx tSt tTo tBe kC kKi kEa kHa kPr kEx kSt kTo kBe aC aWh aTa aWa iRo iEa iLa cC nC nFo nQd nRo nBe nEa nMi nHa nER nMR nTh nPa nOu nFr nQu eM eL eC eS eB eE eF eG) (fun (r : Int32) (u : (Int32) × (Nat → Int32) × (Nat → Int32) × (Nat → Int32) × (Nat → Int32) × (Nat → Int32)) => Qp r u.1 u.2.1 u.2.2.1 u.2.2.2.1 u.2.2.2.2.1 u.2.2.2.2.2) (fun u : (Int32) × (Nat → Int32) × (Nat → Int32) × (Nat → Int32) × (Nat → Int32) × (Nat → Int32) => (WC cI cJ cE cD ad bd dd bHK bHP bPF bWC bRi bBe bFi bWa dB dS dN tC tKi tEa tHa tPr tEx tSt tTo tBe kC kKi kEa kHa kPr kEx kSt kTo kBe aC aWh aTa aWa iRo iEa iLa cC nC nFo u.1 nRo nBe nEa nMi nHa nER nMR u.2.1 u.2.2.1 u.2.2.2.1 u.2.2.2.2.1 u.2.2.2.2.2 eM eL eC eS eB eE eF eG)) 0 0 := by
  subst q_f1
  subst q_f2
  refine ent_i (cc := cX4_push) (maxL := 8) (ret := (some .int)) (by decide) rfl (Nat.le_of_ble_eq_true rfl) ?_
  intro p e s m args below meth c A Q hQ hx hb hr hml hown hts hlk hA hAB hP hD hS ls hl
  have hown : s.vm.findClass RX4 = some m.cls := hown
  have hl : lv_has ls 8 [(0, .ref (ad 38)), (1, .ref (bd i 1)), (2, .ref (bd i 2)), (3, .int a3)] := hl
  generalize hH : s.heap = H at hP ⊢
  have hS : va_S A s.heap H [] := by rw [← hH]; exact hS
  clear hH
  generalize ([] : List Loc) = locs at hS ⊢
  refine lv_iconst (v := 0) hx hb dX4_push_0 (by decide) ?_
  refine lv_istore (lv' := [(4, .int 0), (0, .ref (ad 38)), (1, .ref (bd i 1)), (2, .ref (bd i 2)), (3, .int a3)]) hx hb dX4_push_1 hl (by decide) rfl (fun ls hl => ?_)
  refine lv_aload_n hx hb dX4_push_3 rfl (lv_at hl 1 rfl) ?_
  refine lv_aload_n hx hb dX4_push_4 rfl (lv_at hl 2 rfl) ?_
  refine lv_aload_n hx hb dX4_push_5 rfl (lv_at hl 3 rfl) ?_
  refine lv_iload_n hx hb dX4_push_6 rfl (lv_at hl 4 rfl) ?_
  refine cl_i hD hS hA (va_runV (As := [.ref (bd i 1), .ref (bd i 2), .int a3]) (rest := []) ⟨hx, hb, hml, hown, hts⟩ (ct_X4_findWay hi1 hi2 rfl rfl h H.size) (cwV 3 hts gX4_push_X4_findWay rfl rfl rfl (by decide +kernel) ⟨Nat.le_of_ble_eq_true rfl, Nat.le_of_ble_eq_true rfl⟩) ⟨CPre.blind, va_recv hAB.1 hP (ci := 4) (q0 := 38) rfl rfl, wd_pre hAB hP hD hS hA⟩ rfl rfl hl.1 rfl (lv_room (Nat.le_of_ble_eq_true rfl)) dX4_push_7 ⟨Nat.zero_le _, Nat.zero_le _⟩) (fun r_1 u H locs h hP hD hS => ?_)
  obtain ⟨nQd_2, nFr_3, nQu_4⟩ := u
  have hP : va_P D vwCl (WC cI cJ cE cD ad bd dd bHK bHP bPF bWC bRi bBe bFi bWa dB dS dN tC tKi tEa tHa tPr tEx tSt tTo tBe kC kKi kEa kHa kPr kEx kSt kTo kBe aC aWh aTa aWa iRo iEa iLa cC nC nFo nQd_2 nRo nBe nEa nMi nHa nER nMR nTh nPa nOu nFr_3 nQu_4 eM eL eC eS eB eE eF eG) H := hP
  have hD : va_D A (WC cI cJ cE cD ad bd dd bHK bHP bPF bWC bRi bBe bFi bWa dB dS dN tC tKi tEa tHa tPr tEx tSt tTo tBe kC kKi kEa kHa kPr kEx kSt kTo kBe aC aWh aTa aWa iRo iEa iLa cC nC nFo nQd_2 nRo nBe nEa nMi nHa nER nMR nTh nPa nOu nFr_3 nQu_4 eM eL eC eS eB eE eF eG) := hD
  refine lv_istore (lv' := [(5, .int r_1), (4, .int 0), (0, .ref (ad 38)), (1, .ref (bd i 1)), (2, .ref (bd i 2)), (3, .int a3)]) hx hb dX4_push_10 hl (by decide) rfl (fun ls hl => ?_)
  refine lv_iconst (v := 0) hx hb dX4_push_12 (by decide) ?_
  refine lv_istore (lv' := [(6, .int 0), (5, .int r_1), (4, .int 0), (0, .ref (ad 38)), (1, .ref (bd i 1)), (2, .ref (bd i 2)), (3, .int a3)]) hx hb dX4_push_13 hl (by decide) rfl (fun ls hl => ?_)
  have L15 : ∀ (x15 : (Int32) → (Int32) → (Nat → Int32) → (Nat → Int32) → (Nat → Int32) → (Nat → Int32) → (Nat → Int32) → Prop) (hk15 : ∀ (x4_14 : Int32) (nQd_15 : Int32) (nTh_16 : Nat → Int32) (nPa_17 : Nat → Int32) (nOu_18 : Nat → Int32) (nFr_19 : Nat → Int32) (nQu_20 : Nat → Int32), x15 x4_14 nQd_15 nTh_16 nPa_17 nOu_18 nFr_19 nQu_20 → ∀ (H : Heap) (locs : List Loc) (ls : Array Slot), va_P D vwCl (WC cI cJ cE cD ad bd dd bHK bHP bPF bWC bRi bBe bFi bWa dB dS dN tC tKi tEa tHa tPr tEx tSt tTo tBe kC kKi kEa kHa kPr kEx kSt kTo kBe aC aWh aTa aWa iRo iEa iLa cC nC nFo nQd_15 nRo nBe nEa nMi nHa nER nMR nTh_16 nPa_17 nOu_18 nFr_19 nQu_20 eM eL eC eS eB eE eF eG) H → va_D A (WC cI cJ cE cD ad bd dd bHK bHP bPF bWC bRi bBe bFi bWa dB dS dN tC tKi tEa tHa tPr tEx tSt tTo tBe kC kKi kEa kHa kPr kEx kSt kTo kBe aC aWh aTa aWa iRo iEa iLa cC nC nFo nQd_15 nRo nBe nEa nMi nHa nER nMR nTh_16 nPa_17 nOu_18 nFr_19 nQu_20 eM eL eC eS eB eE eF eG) → va_S A s.heap H locs → lv_has ls 8 [(4, .int x4_14)] → W p l e (headSpec wsX4_push rm_X4_push).room s m args below meth c H locs 0 0 Q (F0 m 65 ls [])) (n15 : Nat) (x4_5 : Int32) (x5_6 : Int32) (x6_7 : Int32) (nQd_8 : Int32) (nTh_9 : Nat → Int32) (nPa_10 : Nat → Int32) (nOu_11 : Nat → Int32) (nFr_12 : Nat → Int32) (nQu_13 : Nat → Int32), wp_X4_push_L15 a3 (eB i) (eE i) nBe nC nER nEa nFo nHa nMR nMi x15 n15 x4_5 x5_6 x6_7 nQd_8 nTh_9 nPa_10 nOu_11 nFr_12 nQu_13 → ∀ (H : Heap) (locs : List Loc) (ls : Array Slot), va_P D vwCl (WC cI cJ cE cD ad bd dd bHK bHP bPF bWC bRi bBe bFi bWa dB dS dN tC tKi tEa tHa tPr tEx tSt tTo tBe kC kKi kEa kHa kPr kEx kSt kTo kBe aC aWh aTa aWa iRo iEa iLa cC nC nFo nQd_8 nRo nBe nEa nMi nHa nER nMR nTh_9 nPa_10 nOu_11 nFr_12 nQu_13 eM eL eC eS eB eE eF eG) H → va_D A (WC cI cJ cE cD ad bd dd bHK bHP bPF bWC bRi bBe bFi bWa dB dS dN tC tKi tEa tHa tPr tEx tSt tTo tBe kC kKi kEa kHa kPr kEx kSt kTo kBe aC aWh aTa aWa iRo iEa iLa cC nC nFo nQd_8 nRo nBe nEa nMi nHa nER nMR nTh_9 nPa_10 nOu_11 nFr_12 nQu_13 eM eL eC eS eB eE eF eG) → va_S A s.heap H locs → lv_has ls 8 [(0, .ref (ad 38)), (1, .ref (bd i 1)), (2, .ref (bd i 2)), (3, .int a3), (4, .int x4_5), (5, .int x5_6), (6, .int x6_7)] → W p l e (headSpec wsX4_push rm_X4_push).room s m args below meth c H locs 0 0 Q (F0 m 15 ls []) := by
    intro x15 hk15 n15
    induction n15 with
    | zero => intro x4_5 x5_6 x6_7 nQd_8 nTh_9 nPa_10 nOu_11 nFr_12 nQu_13 h; exact False.elim h
    | succ n15 ih15 =>
      intro x4_5 x5_6 x6_7 nQd_8 nTh_9 nPa_10 nOu_11 nFr_12 nQu_13 h H locs ls hP hD hS hl
      refine lv_iload hx hb dX4_push_15 (lv_at hl 6 rfl) ?_
      refine lv_ldc (v := 100000) hx hb hown (hts (.constant RX4 127 100000) (by decide +kernel)) dX4_push_17 ?_
      refine lv_icmp_ge (tgt := 65) hx hb dX4_push_19 (by decide) (fun c_21 => ?_) (fun c_21 => ?_)
      · have h := h.1 c_21
        exact hk15 x4_5 nQd_8 nTh_9 nPa_10 nOu_11 nFr_12 nQu_13 h H locs ls hP hD hS (lv_sub hl [4] rfl)
      · have h := h.2 c_21
        refine lv_iload hx hb dX4_push_22 (lv_at hl 5 rfl) ?_
        refine lv_if_lt (tgt := 65) hx hb dX4_push_24 (by decide) (fun c_22 => ?_) (fun c_22 => ?_)
        · have h := h.1 c_22
          exact hk15 x4_5 nQd_8 nTh_9 nPa_10 nOu_11 nFr_12 nQu_13 h H locs ls hP hD hS (lv_sub hl [4] rfl)
        · have h := h.2 c_22
          refine lv_aload_n hx hb dX4_push_27 rfl (lv_at hl 0 rfl) ?_
          refine lv_iload hx hb dX4_push_28 (lv_at hl 5 rfl) ?_
          refine cl_i hD hS hA (va_runV (As := [.int x5_6]) (rest := []) ⟨hx, hb, hml, hown, hts⟩ (ct_X4_roomOfWay h H.size) (cwV 1 hts gX4_push_X4_roomOfWay rfl rfl rfl (by decide +kernel) ⟨Nat.le_of_ble_eq_true rfl, Nat.le_of_ble_eq_true rfl⟩) ⟨CPre.blind, va_recv hAB.1 hP (ci := 4) (q0 := 38) rfl rfl, wd_pre hAB hP hD hS hA⟩ rfl rfl hl.1 rfl (lv_room (Nat.le_of_ble_eq_true rfl)) dX4_push_30 ⟨Nat.zero_le _, Nat.zero_le _⟩) (fun r_23 u H locs h hP hD hS => ?_)
          refine lv_istore (lv' := [(7, .int r_23), (0, .ref (ad 38)), (1, .ref (bd i 1)), (2, .ref (bd i 2)), (3, .int a3), (4, .int x4_5), (5, .int x5_6), (6, .int x6_7)]) hx hb dX4_push_33 hl (by decide) rfl (fun ls hl => ?_)
          refine lv_aload_n hx hb dX4_push_35 rfl (lv_at hl 1 rfl) ?_
          refine lv_iload hx hb dX4_push_36 (lv_at hl 6 rfl) ?_
          refine lv_iload hx hb dX4_push_38 (lv_at hl 0 rfl) ?_
          refine cl_v hD hS hA (va_runV (As := [.int x5_6, .int r_23]) (rest := []) ⟨hx, hb, hml, hown, hts⟩ (ct_X4_flowAlong h H.size) (cwV 2 hts gX4_push_X4_flowAlong rfl rfl rfl (by decide +kernel) ⟨Nat.le_of_ble_eq_true rfl, Nat.le_of_ble_eq_true rfl⟩) ⟨CPre.blind, va_recv hAB.1 hP (ci := 4) (q0 := 38) rfl rfl, wd_pre hAB hP hD hS hA⟩ rfl rfl hl.1 rfl (lv_room (Nat.le_of_ble_eq_true rfl)) dX4_push_40 ⟨Nat.zero_le _, Nat.zero_le _⟩) (fun u H locs h hP hD hS => ?_)
          obtain ⟨nTh_24, nPa_25, nOu_26⟩ := u
          have hP : va_P D vwCl (WC cI cJ cE cD ad bd dd bHK bHP bPF bWC bRi bBe bFi bWa dB dS dN tC tKi tEa tHa tPr tEx tSt tTo tBe kC kKi kEa kHa kPr kEx kSt kTo kBe aC aWh aTa aWa iRo iEa iLa cC nC nFo nQd_8 nRo nBe nEa nMi nHa nER nMR nTh_24 nPa_25 nOu_26 nFr_12 nQu_13 eM eL eC eS eB eE eF eG) H := hP
          have hD : va_D A (WC cI cJ cE cD ad bd dd bHK bHP bPF bWC bRi bBe bFi bWa dB dS dN tC tKi tEa tHa tPr tEx tSt tTo tBe kC kKi kEa kHa kPr kEx kSt kTo kBe aC aWh aTa aWa iRo iEa iLa cC nC nFo nQd_8 nRo nBe nEa nMi nHa nER nMR nTh_24 nPa_25 nOu_26 nFr_12 nQu_13 eM eL eC eS eB eE eF eG) := hD
          refine lv_iload hx hb dX4_push_43 (lv_at hl 5 rfl) ?_
          refine lv_iload hx hb dX4_push_45 (lv_at hl 0 rfl) ?_
          refine lv_iadd hx hb dX4_push_47 ?_
          refine lv_topi (fun x4_27 e_28 => ?_)
          have h := h x4_27 e_28
          refine lv_istore (lv' := [(4, .int x4_27), (7, .int r_23), (0, .ref (ad 38)), (1, .ref (bd i 1)), (2, .ref (bd i 2)), (3, .int a3), (5, .int x5_6), (6, .int x6_7)]) hx hb dX4_push_48 hl (by decide) rfl (fun ls hl => ?_)
          refine lv_aload_n hx hb dX4_push_50 rfl (lv_at hl 2 rfl) ?_
          refine lv_aload_n hx hb dX4_push_51 rfl (lv_at hl 3 rfl) ?_
          refine lv_aload_n hx hb dX4_push_52 rfl (lv_at hl 4 rfl) ?_
          refine lv_iload_n hx hb dX4_push_53 rfl (lv_at hl 5 rfl) ?_
          refine cl_i hD hS hA (va_runV (As := [.ref (bd i 1), .ref (bd i 2), .int a3]) (rest := []) ⟨hx, hb, hml, hown, hts⟩ (ct_X4_findWay hi1 hi2 rfl rfl h H.size) (cwV 3 hts gX4_push_X4_findWay rfl rfl rfl (by decide +kernel) ⟨Nat.le_of_ble_eq_true rfl, Nat.le_of_ble_eq_true rfl⟩) ⟨CPre.blind, va_recv hAB.1 hP (ci := 4) (q0 := 38) rfl rfl, wd_pre hAB hP hD hS hA⟩ rfl rfl hl.1 rfl (lv_room (Nat.le_of_ble_eq_true rfl)) dX4_push_54 ⟨Nat.zero_le _, Nat.zero_le _⟩) (fun r_29 u H locs h hP hD hS => ?_)
          obtain ⟨nQd_30, nFr_31, nQu_32⟩ := u
          have hP : va_P D vwCl (WC cI cJ cE cD ad bd dd bHK bHP bPF bWC bRi bBe bFi bWa dB dS dN tC tKi tEa tHa tPr tEx tSt tTo tBe kC kKi kEa kHa kPr kEx kSt kTo kBe aC aWh aTa aWa iRo iEa iLa cC nC nFo nQd_30 nRo nBe nEa nMi nHa nER nMR nTh_24 nPa_25 nOu_26 nFr_31 nQu_32 eM eL eC eS eB eE eF eG) H := hP
          have hD : va_D A (WC cI cJ cE cD ad bd dd bHK bHP bPF bWC bRi bBe bFi bWa dB dS dN tC tKi tEa tHa tPr tEx tSt tTo tBe kC kKi kEa kHa kPr kEx kSt kTo kBe aC aWh aTa aWa iRo iEa iLa cC nC nFo nQd_30 nRo nBe nEa nMi nHa nER nMR nTh_24 nPa_25 nOu_26 nFr_31 nQu_32 eM eL eC eS eB eE eF eG) := hD
          refine lv_istore (lv' := [(5, .int r_29), (4, .int x4_27), (7, .int r_23), (0, .ref (ad 38)), (1, .ref (bd i 1)), (2, .ref (bd i 2)), (3, .int a3), (6, .int x6_7)]) hx hb dX4_push_57 hl (by decide) rfl (fun ls hl => ?_)
          obtain ⟨x6_33, e_34⟩ : ∃ y : Int32, y = x6_7 + 1 := ⟨_, rfl⟩
          have h := h x6_33 e_34
          refine lv_iinc (v := x6_33) (lv' := [(6, .int x6_33), (5, .int r_29), (4, .int x4_27), (7, .int r_23), (0, .ref (ad 38)), (1, .ref (bd i 1)), (2, .ref (bd i 2)), (3, .int a3)]) hx hb dX4_push_59 hl (k := 7) rfl (by rw [e_34]; rfl) (by decide) rfl (fun ls hl => ?_)
          refine lv_goto (tgt := 15) hx hb dX4_push_62 (by decide) ?_
          exact ih15 x4_27 r_29 x6_33 nQd_30 nTh_24 nPa_25 nOu_26 nFr_31 nQu_32 h H locs ls hP hD hS (lv_sub hl [4, 5, 6, 7, 2, 1, 0] rfl)
  obtain ⟨n15, h⟩ := h
  refine L15 _ (fun x4_14 nQd_15 nTh_16 nPa_17 nOu_18 nFr_19 nQu_20 h H locs ls hP hD hS hl => ?_) n15 0 r_1 0 nQd_2 nTh nPa nOu nFr_3 nQu_4 h H locs ls hP hD hS (lv_sub hl [3, 4, 5, 6, 2, 1, 0] rfl)
  refine lv_iload hx hb dX4_push_65 (lv_at hl 0 rfl) ?_
  exact rt_i (nQd_15, nTh_16, nPa_17, nOu_18, nFr_19, nQu_20) hQ hx hb hr hlk hP hD hS ⟨Nat.zero_le _, Nat.zero_le _⟩ dX4_push_67 h
