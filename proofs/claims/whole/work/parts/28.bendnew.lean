/-- a new bend behind the others: the world's list -/
theorem WC_grow {cI cJ cE cD : ClassId} {ad : Nat → Nat} {bd dd : Nat → Nat → Nat} {bHK : Int32} {bHP : Int32} {bPF : Int32} {bWC : Int32} {bRi : Int32} {bBe : Int32} {bFi : Int32} {bWa : Nat → Int32} {dB : Nat → Int32} {dS : Nat → Int32} {dN : Nat → Nat → Int64} {tC : Int32} {tKi : Nat → Int32} {tEa : Nat → Int32} {tHa : Nat → Int32} {tPr : Nat → Int32} {tEx : Nat → Int32} {tSt : Nat → Int32} {tTo : Nat → Int32} {tBe : Nat → Int32} {kC : Int32} {kKi : Nat → Int32} {kEa : Nat → Int32} {kHa : Nat → Int32} {kPr : Nat → Int32} {kEx : Nat → Int32} {kSt : Nat → Int32} {kTo : Nat → Int32} {kBe : Nat → Int32} {aC : Int32} {aWh : Nat → Int32} {aTa : Nat → Int32} {aWa : Nat → Int32} {iRo : Nat → Int32} {iEa : Nat → Int32} {iLa : Nat → Int32} {cC : Int32} {nC : Int32} {nFo : Int32} {nQd : Int32} {nRo : Nat → Int32} {nBe : Nat → Int32} {nEa : Nat → Int32} {nMi : Nat → Int32} {nHa : Nat → Int32} {nER : Nat → Int32} {nMR : Nat → Int32} {nTh : Nat → Int32} {nPa : Nat → Int32} {nOu : Nat → Int32} {nFr : Nat → Int32} {nQu : Nat → Int32} {eM : Nat} {eL : Nat → Int32} {eC : Nat → Int64} {eS : Nat → Int64} {eB : Nat → Nat → Int32} {eE : Nat → Nat → Int32} {eF : Nat → Nat → Int32} {eG : Nat → Nat → Int32} {q : Nat} {u : Nat → Nat} : ((WC cI cJ cE cD ad bd dd bHK bHP bPF bWC bRi bBe bFi bWa dB dS dN tC tKi tEa tHa tPr tEx tSt tTo tBe kC kKi kEa kHa kPr kEx kSt kTo kBe aC aWh aTa aWa iRo iEa iLa cC nC nFo nQd nRo nBe nEa nMi nHa nER nMR nTh nPa nOu nFr nQu eM eL eC eS eB eE eF eG) ++ ([(q, .inr (1, [.int 0, .long 0, .long 0, .ref (u 1), .ref (u 2), .ref (u 3), .ref (u 4)])), (u 1, .inl (cI, 12, .inl (fun _ => 0))), (u 2, .inl (cI, 12, .inl (fun _ => 0))), (u 3, .inl (cI, 12, .inl (fun _ => 0))), (u 4, .inl (cI, 12, .inl (fun _ => 0)))] : va_W)).set 37 ((ad 37, .inl (cE, 721, .inr (.inr (.inr (.inr (va_up (fun k => if k < eM then some (bd k 0) else none) eM (some q))))))) : Nat × va_E) = (WC cI cJ cE cD ad (va_up bd eM (fun k => if k = 0 then q else u k)) dd bHK bHP bPF bWC bRi bBe bFi bWa dB dS dN tC tKi tEa tHa tPr tEx tSt tTo tBe kC kKi kEa kHa kPr kEx kSt kTo kBe aC aWh aTa aWa iRo iEa iLa cC nC nFo nQd nRo nBe nEa nMi nHa nER nMR nTh nPa nOu nFr nQu (eM + 1) (va_up eL eM 0) (va_up eC eM 0) (va_up eS eM 0) (va_up eB eM (fun _ => 0)) (va_up eE eM (fun _ => 0)) (va_up eF eM (fun _ => 0)) (va_up eG eM (fun _ => 0))) := by
  have h1 : (va_up (fun k => if k < eM then some (bd k 0) else none) eM (some q) : Nat → Option Nat) = (fun k => if k < eM + 1 then some ((va_up bd eM (fun k => if k = 0 then q else u k)) k 0) else none) := by
    funext k
    rcases Nat.lt_trichotomy k eM with h | h | h
    · rw [va_up_of _ _ _ (by omega), if_pos h, if_pos (by omega), va_up_of _ _ _ (by omega)]
    · subst h; rw [va_up_at, if_pos (by omega), va_up_at]; rfl
    · rw [va_up_of _ _ _ (by omega), if_neg (by omega), if_neg (by omega)]
  have h2 : fam (fmB cI bd eL eC eS eB eE eF eG) eM ++ ([(q, .inr (1, [.int 0, .long 0, .long 0, .ref (u 1), .ref (u 2), .ref (u 3), .ref (u 4)])), (u 1, .inl (cI, 12, .inl (fun _ => 0))), (u 2, .inl (cI, 12, .inl (fun _ => 0))), (u 3, .inl (cI, 12, .inl (fun _ => 0))), (u 4, .inl (cI, 12, .inl (fun _ => 0)))] : va_W) = fam (fmB cI (va_up bd eM (fun k => if k = 0 then q else u k)) (va_up eL eM 0) (va_up eC eM 0) (va_up eS eM 0) (va_up eB eM (fun _ => 0)) (va_up eE eM (fun _ => 0)) (va_up eF eM (fun _ => 0)) (va_up eG eM (fun _ => 0))) (eM + 1) := by
    rw [fam_succ]
    congr 1
    · apply fam_congr
      intro j hj
      have hne : j ≠ eM := by omega
      simp [fmB, va_up_of _ _ _ hne]
    · simp [fmB, va_up_at]
  unfold WC
  rw [List.append_assoc, h2, h1]
  rfl
def rm_X3_bendAt_n : Room := { frames := 2, cells := 5, slots := 55, locals := 40 }
theorem inn_X3_bendAt_1 : ∀ w ∈ u_ws RX1 TX1 7, w ∈ wsX3_bendAt := fun _ h => List.mem_cons_of_mem _ (List.mem_append_right _ h)
set_option maxHeartbeats 4000000 in
set_option maxRecDepth 100000 in
/-- the next bend's row is made -/
theorem ct_X3_bendAt_new {l : Launch} {D : va_G} {cI cJ cZ cE cD cK : ClassId} {ad : Nat → Nat} {bd dd : Nat → Nat → Nat} {bHK : Int32} {bHP : Int32} {bPF : Int32} {bWC : Int32} {bRi : Int32} {bBe : Int32} {bFi : Int32} {bWa : Nat → Int32} {dB : Nat → Int32} {dS : Nat → Int32} {dN : Nat → Nat → Int64} {tC : Int32} {tKi : Nat → Int32} {tEa : Nat → Int32} {tHa : Nat → Int32} {tPr : Nat → Int32} {tEx : Nat → Int32} {tSt : Nat → Int32} {tTo : Nat → Int32} {tBe : Nat → Int32} {kC : Int32} {kKi : Nat → Int32} {kEa : Nat → Int32} {kHa : Nat → Int32} {kPr : Nat → Int32} {kEx : Nat → Int32} {kSt : Nat → Int32} {kTo : Nat → Int32} {kBe : Nat → Int32} {aC : Int32} {aWh : Nat → Int32} {aTa : Nat → Int32} {aWa : Nat → Int32} {iRo : Nat → Int32} {iEa : Nat → Int32} {iLa : Nat → Int32} {cC : Int32} {nC : Int32} {nFo : Int32} {nQd : Int32} {nRo : Nat → Int32} {nBe : Nat → Int32} {nEa : Nat → Int32} {nMi : Nat → Int32} {nHa : Nat → Int32} {nER : Nat → Int32} {nMR : Nat → Int32} {nTh : Nat → Int32} {nPa : Nat → Int32} {nOu : Nat → Int32} {nFr : Nat → Int32} {nQu : Nat → Int32} {eM : Nat} {eL : Nat → Int32} {eC : Nat → Int64} {eS : Nat → Int64} {eB : Nat → Nat → Int32} {eE : Nat → Nat → Int32} {eF : Nat → Nat → Int32} {eG : Nat → Nat → Int32} {a1 : Int32} (hin : vp_in a1 721) (hidx : a1.toNatClampNeg = eM) : CTr l yX3_bendAt wsX3_bendAt rm_X3_bendAt_n D (tyL cI cJ cZ cE cD cK) [.ref (ad 36), .int a1] (WC cI cJ cE cD ad bd dd bHK bHP bPF bWC bRi bBe bFi bWa dB dS dN tC tKi tEa tHa tPr tEx tSt tTo tBe kC kKi kEa kHa kPr kEx kSt kTo kBe aC aWh aTa aWa iRo iEa iLa cC nC nFo nQd nRo nBe nEa nMi nHa nER nMR nTh nPa nOu nFr nQu eM eL eC eS eB eE eF eG) (fun _ : Nat → Nat → Nat => True) (fun u : Nat → Nat → Nat => (WC cI cJ cE cD ad u dd bHK bHP bPF bWC bRi bBe bFi bWa dB dS dN tC tKi tEa tHa tPr tEx tSt tTo tBe kC kKi kEa kHa kPr kEx kSt kTo kBe aC aWh aTa aWa iRo iEa iLa cC nC nFo nQd nRo nBe nEa nMi nHa nER nMR nTh nPa nOu nFr nQu (eM + 1) (va_up eL eM 0) (va_up eC eM 0) (va_up eS eM 0) (va_up eB eM (fun _ => 0)) (va_up eE eM (fun _ => 0)) (va_up eF eM (fun _ => 0)) (va_up eG eM (fun _ => 0)))) (fun u : Nat → Nat → Nat => u eM 0) 5 55 := by
  refine ent_r (cc := cX3_bendAt) (maxL := 2) (ret := (some (.object "BarnBench$Bend"))) (by decide) rfl (Nat.le_of_ble_eq_true rfl) ?_
  intro p e s m args below meth c A Q hQ hx hb hr hml hown hts hlk hA hAB hP hD hS ls hl
  have hown : s.vm.findClass RX3 = some m.cls := hown
  have hl : lv_has ls 2 [(0, .ref (ad 36)), (1, .int a1)] := hl
  generalize hH : s.heap = H at hP ⊢
  have hS : va_S A s.heap H [] := by rw [← hH]; exact hS
  clear hH
  generalize ([] : List Loc) = locs at hS ⊢
  refine lv_aload_n hx hb dX3_bendAt_0 rfl (lv_at hl 0 rfl) ?_
  refine va_get (D := D) (ci := 3) (C := RX3) (T := TX3) (N := 3) hx hb hts inn_X3_bendAt_3 hown hAB.1 hP 36 rfl rfl 1 (by decide) (hts (.fieldLink RX3 11 "BarnBench$Curve" "rows" "[LBarnBench$Bend;") (by decide +kernel)) (fun _ h9 => h9) rfl dX3_bendAt_1 ?_
  refine lv_iload_n hx hb dX3_bendAt_4 rfl (lv_at hl 1 rfl) ?_
  refine va_aldq hx hb hAB.1 hP 37 3 rfl rfl hin dX3_bendAt_5 ?_
  rw [if_neg (by omega)]
  show W _ _ _ _ _ _ _ _ _ _ _ _ _ _ _ (F0 _ _ _ (.null :: _))
  refine lv_ifnonnullN hx hb dX3_bendAt_6 ?_
  refine lv_aload_n hx hb dX3_bendAt_9 rfl (lv_at hl 0 rfl) ?_
  refine va_get (D := D) (ci := 3) (C := RX3) (T := TX3) (N := 3) hx hb hts inn_X3_bendAt_3 hown hAB.1 hP 36 rfl rfl 1 (by decide) (hts (.fieldLink RX3 11 "BarnBench$Curve" "rows" "[LBarnBench$Bend;") (by decide +kernel)) (fun _ h9 => h9) rfl dX3_bendAt_10 ?_
  refine lv_iload_n hx hb dX3_bendAt_13 rfl (lv_at hl 1 rfl) ?_
  refine va_new (ci := 1) (fs := [.int 0, .long 0, .long 0, .null, .null, .null, .null]) (C := RX1) (T := TX1) (N := 7) hx hb hts inn_X3_bendAt_1 tyX1 tyX1_ok hown (hts (.classLink RX3 9 RX1) (by decide +kernel)) (hts (.instantiable RX1 7) (by decide +kernel)) (hts (.initialized RX1) (by decide +kernel)) hAB.1 hP hD hS hA rfl (fun j hj => by rcases (show j = 0 ∨ j = 1 ∨ j = 2 ∨ j = 3 ∨ j = 4 ∨ j = 5 ∨ j = 6 by omega) with rfl | rfl | rfl | rfl | rfl | rfl | rfl <;> rfl) (Nat.le_of_ble_eq_true rfl) (Nat.le_of_ble_eq_true rfl) dX3_bendAt_14 (fun q H hP hD hS => ?_)
  refine lv_dup hx hb dX3_bendAt_17 rfl ?_
  refine cl_v hD hS hA (va_runIN (As := []) (rest := [.ref q, .int a1, .ref (ad 37)]) ⟨hx, hb, hml, hown, hts⟩ (ct_X1_init H.size) ⟨va_cnB 0 hts gX3_bendAt_X1_init_n24 rfl rfl rfl (hAB.2.1 (.methodLinkNest RX3 24 yX1_init RX7) (by decide +kernel)) (hts (.initialized RX1) (by decide +kernel)) (by decide +kernel) ⟨Nat.le_of_ble_eq_true rfl, Nat.le_of_ble_eq_true rfl⟩, rfl, hts (.instanceMethod yX1_init) (by decide +kernel)⟩ ⟨CPre.blind, wd_pre hAB hP hD hS hA⟩ rfl rfl hl.1 rfl (lv_room (Nat.le_of_ble_eq_true rfl)) dX3_bendAt_18 ⟨Nat.le_of_ble_eq_true rfl, Nat.le_of_ble_eq_true rfl⟩) (fun u H locs _ hP hD hS => ?_)
  refine va_astq hx hb hAB.1 hP hD hS 37 3 (WC cI cJ cE cD ad bd dd bHK bHP bPF bWC bRi bBe bFi bWa dB dS dN tC tKi tEa tHa tPr tEx tSt tTo tBe kC kKi kEa kHa kPr kEx kSt kTo kBe aC aWh aTa aWa iRo iEa iLa cC nC nFo nQd nRo nBe nEa nMi nHa nER nMR nTh nPa nOu nFr nQu eM eL eC eS eB eE eF eG).length 1 (r := (RX1, TX1, 7)) rfl rfl (ap_at _ _ _) rfl hin dX3_bendAt_21 (fun H locs hP hD hS => ?_)
  rw [hidx] at hP hD
  rw [WC_grow] at hP hD
  generalize (va_up bd eM (fun k => if k = 0 then q else u k)) = bd2 at hP hD
  refine lv_aload_n hx hb dX3_bendAt_22 rfl (lv_at hl 0 rfl) ?_
  refine va_get (D := D) (ci := 3) (C := RX3) (T := TX3) (N := 3) hx hb hts inn_X3_bendAt_3 hown hAB.1 hP 36 rfl rfl 1 (by decide) (hts (.fieldLink RX3 11 "BarnBench$Curve" "rows" "[LBarnBench$Bend;") (by decide +kernel)) (fun _ h9 => h9) rfl dX3_bendAt_23 ?_
  refine lv_iload_n hx hb dX3_bendAt_26 rfl (lv_at hl 1 rfl) ?_
  refine va_aldq hx hb hAB.1 hP 37 3 rfl rfl hin dX3_bendAt_27 ?_
  rw [if_pos (by omega), hidx]
  exact rt_r (Rf := _) bd2 hQ hx hb hr hlk hP hD hS ⟨Nat.le_refl _, Nat.le_refl _⟩ dX3_bendAt_28 trivial
