def wp_X9_found (mFi : Int32) (a1 : Int32) (Qp : Int32 → (Int32) → Prop) : Prop :=
  ((0 ≤ a1 → Qp a1 mFi) ∧
   (¬ 0 ≤ a1 → ∀ mFi_2 : Int32, mFi_2 = (mFi + 1) → Qp a1 mFi_2))
theorem inn_X9_found_9 : ∀ w ∈ u_ws RX9 TX9 32, w ∈ wsX9_found := fun _ h => List.mem_cons_of_mem _ (List.mem_append_right _ h)
def rm_X9_found : Room := { frames := 0, cells := 0, slots := 0, locals := 0 }
set_option maxHeartbeats 4000000 in
set_option maxRecDepth 100000 in
theorem ct_X9_found {l : Launch} {D : va_G} {cI cJ cZ cE cD cK : ClassId} {ad : Nat → Nat} {ud : Nat → Nat → Nat} {pT : Int32} {pK : Nat → Int32} {pN : Nat → Int32} {pF : Nat → Int32} {pS : Nat → Int32} {qT : Int32} {qK : Nat → Int32} {qN : Nat → Int32} {qF : Nat → Int32} {qS : Nat → Int32} {mKe : Int32} {mUn : Int32} {mFi : Int32} {mRi : Int32} {mBe : Int64} {mWc : Int32} {mAK : Int32} {mSh : Int32} {mIP : Int32} {mUS : Nat → Int32} {mWa : Nat → Int32} {mWi : Nat → Int32} {mSi : Nat → Int32} {mRo : Nat → Int64} {mSp : Nat → Int64} {mRw : Nat → Int32} {mSn : Nat → Int32} {mBg : Nat → Int32} {mLa : Nat → Int32} {mMo : Nat → Int32} {mRm : Nat → Int64} {mOw : Nat → Int64} {mGo : Nat → Int32} {mFr : Nat → Int32} {mQu : Nat → Int32} {mCh : Nat → Int64} {mPB : Nat → Int32} {mPS : Nat → Int32} {mFs : Nat → Int32} {ub : Nat → Nat} {uT : Nat → Int32} {uK : Nat → Nat → Int32} {uN : Nat → Nat → Int32} {uF : Nat → Nat → Int32} {uS : Nat → Nat → Int32}   {a1 : Int32} {Qp : Int32 → (Int32) → Prop}   (h : wp_X9_found mFi a1 Qp) : CTi l yX9_found wsX9_found rm_X9_found D (tyL cI cJ cZ cE cD cK) [.ref (ad 0), .int a1] (WM cI cJ cZ cK ad ud pT pK pN pF pS qT qK qN qF qS mKe mUn mFi mRi mBe mWc mAK mSh mIP mUS mWa mWi mSi mRo mSp mRw mSn mBg mLa mMo mRm mOw mGo mFr mQu mCh mPB mPS mFs ub uT uK uN uF uS) (fun (r : Int32) (u : (Int32)) => Qp r u) (fun u : (Int32) => (WM cI cJ cZ cK ad ud pT pK pN pF pS qT qK qN qF qS mKe mUn u mRi mBe mWc mAK mSh mIP mUS mWa mWi mSi mRo mSp mRw mSn mBg mLa mMo mRm mOw mGo mFr mQu mCh mPB mPS mFs ub uT uK uN uF uS)) 0 0 := by
  refine ent_i (cc := cX9_found) (maxL := 2) (ret := (some .int)) (by decide) rfl (Nat.le_of_ble_eq_true rfl) ?_
  intro p e s m args below meth c A Q hQ hx hb hr hml hown hts hlk hA hAB hP hD hS ls hl
  have hown : s.vm.findClass RX9 = some m.cls := hown
  have hl : lv_has ls 2 [(0, .ref (ad 0)), (1, .int a1)] := hl
  generalize hH : s.heap = H at hP ⊢
  have hS : va_S A s.heap H [] := by rw [← hH]; exact hS
  clear hH
  generalize ([] : List Loc) = locs at hS ⊢
  refine lv_iload_n hx hb dX9_found_0 rfl (lv_at hl 1 rfl) ?_
  refine lv_if_ge (tgt := 14) hx hb dX9_found_1 (by decide) (fun c_1 => ?_) (fun c_1 => ?_)
  · have h := h.1 c_1
    refine lv_iload_n hx hb dX9_found_14 rfl (lv_at hl 1 rfl) ?_
    exact rt_i (mFi) hQ hx hb hr hlk hP hD hS ⟨Nat.zero_le _, Nat.zero_le _⟩ dX9_found_15 h
  · have h := h.2 c_1
    refine lv_aload_n hx hb dX9_found_4 rfl (lv_at hl 0 rfl) ?_
    refine lv_dup hx hb dX9_found_5 rfl ?_
    refine va_get (D := D) (ci := 9) (C := RX9) (T := TX9) (N := 32) hx hb hts inn_X9_found_9 hown hAB.1 hP 0 rfl rfl 6 (by decide) (hts (.fieldLink RX9 90 "BarnBenchModel" "findings" "I") (by decide +kernel)) (fun _ h9 => h9) rfl dX9_found_6 ?_
    refine lv_iconst (v := 1) hx hb dX9_found_9 (by decide) ?_
    refine lv_iadd hx hb dX9_found_10 ?_
    refine fM_0_findings hx hb hAB hP hD hS hts inn_X9_found_9 hown (hts (.fieldLink RX9 90 "BarnBenchModel" "findings" "I") (by decide +kernel)) dX9_found_11 (fun mFi_2 H locs e_3 hP hD hS => ?_)
    have h := h mFi_2 e_3
    refine lv_iload_n hx hb dX9_found_14 rfl (lv_at hl 1 rfl) ?_
    exact rt_i (mFi_2) hQ hx hb hr hlk hP hD hS ⟨Nat.zero_le _, Nat.zero_le _⟩ dX9_found_15 h
def wp_X9_isTask (pT : Int32) (a1 : Int32) (Qp : Int32 → Prop) : Prop :=
  wp_X9_in (Int32.toInt64 a1) 0 (Int32.toInt64 (pT - 1)) (fun (r_1 : Int32) => (r_1 = 0 ∨ r_1 = 1) ∧ Qp r_1)
theorem inn_X9_isTask_8 : ∀ w ∈ u_ws RX8 TX8 5, w ∈ wsX9_isTask := fun _ h => List.mem_cons_of_mem _ (List.mem_append_right _ h)
theorem inn_X9_isTask_9 : ∀ w ∈ u_ws RX9 TX9 32, w ∈ wsX9_isTask := fun _ h => List.mem_cons_of_mem _ (List.mem_append_left _ (List.mem_append_right _ h))
def rm_X9_isTask : Room := { frames := 1, cells := 0, slots := 0, locals := 25 }
set_option maxHeartbeats 4000000 in
set_option maxRecDepth 100000 in
theorem ct_X9_isTask {l : Launch} {D : va_G} {cI cJ cZ cE cD cK : ClassId} {ad : Nat → Nat} {ud : Nat → Nat → Nat} {pT : Int32} {pK : Nat → Int32} {pN : Nat → Int32} {pF : Nat → Int32} {pS : Nat → Int32} {qT : Int32} {qK : Nat → Int32} {qN : Nat → Int32} {qF : Nat → Int32} {qS : Nat → Int32} {mKe : Int32} {mUn : Int32} {mFi : Int32} {mRi : Int32} {mBe : Int64} {mWc : Int32} {mAK : Int32} {mSh : Int32} {mIP : Int32} {mUS : Nat → Int32} {mWa : Nat → Int32} {mWi : Nat → Int32} {mSi : Nat → Int32} {mRo : Nat → Int64} {mSp : Nat → Int64} {mRw : Nat → Int32} {mSn : Nat → Int32} {mBg : Nat → Int32} {mLa : Nat → Int32} {mMo : Nat → Int32} {mRm : Nat → Int64} {mOw : Nat → Int64} {mGo : Nat → Int32} {mFr : Nat → Int32} {mQu : Nat → Int32} {mCh : Nat → Int64} {mPB : Nat → Int32} {mPS : Nat → Int32} {mFs : Nat → Int32} {ub : Nat → Nat} {uT : Nat → Int32} {uK : Nat → Nat → Int32} {uN : Nat → Nat → Int32} {uF : Nat → Nat → Int32} {uS : Nat → Nat → Int32}   {a1 : Int32} {Qp : Int32 → Prop}   (h : wp_X9_isTask pT a1 Qp) : CTi l yX9_isTask wsX9_isTask rm_X9_isTask D (tyL cI cJ cZ cE cD cK) [.ref (ad 0), .int a1] (WM cI cJ cZ cK ad ud pT pK pN pF pS qT qK qN qF qS mKe mUn mFi mRi mBe mWc mAK mSh mIP mUS mWa mWi mSi mRo mSp mRw mSn mBg mLa mMo mRm mOw mGo mFr mQu mCh mPB mPS mFs ub uT uK uN uF uS) (fun (r : Int32) (u : Unit) => Qp r ) (fun u : Unit => (WM cI cJ cZ cK ad ud pT pK pN pF pS qT qK qN qF qS mKe mUn mFi mRi mBe mWc mAK mSh mIP mUS mWa mWi mSi mRo mSp mRw mSn mBg mLa mMo mRm mOw mGo mFr mQu mCh mPB mPS mFs ub uT uK uN uF uS)) 0 0 := by
  refine ent_i (cc := cX9_isTask) (maxL := 2) (ret := (some .boolean)) (by decide) rfl (Nat.le_of_ble_eq_true rfl) ?_
  intro p e s m args below meth c A Q hQ hx hb hr hml hown hts hlk hA hAB hP hD hS ls hl
  have hown : s.vm.findClass RX9 = some m.cls := hown
  have hl : lv_has ls 2 [(0, .ref (ad 0)), (1, .int a1)] := hl
  generalize hH : s.heap = H at hP ⊢
  have hS : va_S A s.heap H [] := by rw [← hH]; exact hS
  clear hH
  generalize ([] : List Loc) = locs at hS ⊢
  refine lv_iload_n hx hb dX9_isTask_0 rfl (lv_at hl 1 rfl) ?_
  refine lv_i2l hx hb dX9_isTask_1 rfl ?_
  refine lv_lconst (v := 0) hx hb dX9_isTask_2 (by decide) ?_
  refine lv_aload_n hx hb dX9_isTask_3 rfl (lv_at hl 0 rfl) ?_
  refine va_get (D := D) (ci := 9) (C := RX9) (T := TX9) (N := 32) hx hb hts inn_X9_isTask_9 hown hAB.1 hP 0 rfl rfl 0 (by decide) (hts (.fieldLink RX9 10 "BarnBenchModel" "b" "LBarnBenchModel$Book;") (by decide +kernel)) (fun _ h9 => h9) rfl dX9_isTask_4 ?_
  refine va_get (D := D) (ci := 8) (C := RX8) (T := TX8) (N := 5) hx hb hts inn_X9_isTask_8 hown hAB.1 hP 1 rfl rfl 0 (by decide) (hts (.fieldLink RX9 94 "BarnBenchModel$Book" "tasks" "I") (by decide +kernel)) (fun _ h9 => h9) rfl dX9_isTask_7 ?_
  refine lv_iconst (v := 1) hx hb dX9_isTask_10 (by decide) ?_
  refine lv_isub hx hb dX9_isTask_11 ?_
  refine lv_i2l hx hb dX9_isTask_12 rfl ?_
  refine cl_i hD hS hA (va_runS (As := [.long (Int32.toInt64 a1), .long 0, .long (Int32.toInt64 (pT - 1))]) (rest := []) ⟨hx, hb, hml, hown, hts⟩ (ct_X9_in h H.size) (va_cwS 3 hts gX9_isTask_X9_in rfl rfl rfl (by decide +kernel) ⟨Nat.le_of_ble_eq_true rfl, Nat.le_of_ble_eq_true rfl⟩) ⟨CPre.blind, wd_pre hAB hP hD hS hA⟩ rfl rfl hl.1 rfl (lv_room (Nat.le_of_ble_eq_true rfl)) dX9_isTask_13 ⟨Nat.zero_le _, Nat.zero_le _⟩) (fun r_1 u H locs h hP hD hS => ?_)
  exact rt_z () hQ hx hb hr hlk hP hD hS ⟨Nat.zero_le _, Nat.zero_le _⟩ h.1 dX9_isTask_16 h.2
def wp_X9_changes (mAK : Int32) (mIP : Int32)  (Qp : (Int32) → (Int32) → Prop) : Prop :=
  ∀ mIP_1 : Int32, mIP_1 = 0 → ∀ mAK_3 : Int32, mAK_3 = 0 → Qp mAK_3 mIP_1
theorem inn_X9_changes_9 : ∀ w ∈ u_ws RX9 TX9 32, w ∈ wsX9_changes := fun _ h => List.mem_cons_of_mem _ (List.mem_append_right _ h)
def rm_X9_changes : Room := { frames := 0, cells := 0, slots := 0, locals := 0 }
set_option maxHeartbeats 4000000 in
set_option maxRecDepth 100000 in
theorem ct_X9_changes {l : Launch} {D : va_G} {cI cJ cZ cE cD cK : ClassId} {ad : Nat → Nat} {ud : Nat → Nat → Nat} {pT : Int32} {pK : Nat → Int32} {pN : Nat → Int32} {pF : Nat → Int32} {pS : Nat → Int32} {qT : Int32} {qK : Nat → Int32} {qN : Nat → Int32} {qF : Nat → Int32} {qS : Nat → Int32} {mKe : Int32} {mUn : Int32} {mFi : Int32} {mRi : Int32} {mBe : Int64} {mWc : Int32} {mAK : Int32} {mSh : Int32} {mIP : Int32} {mUS : Nat → Int32} {mWa : Nat → Int32} {mWi : Nat → Int32} {mSi : Nat → Int32} {mRo : Nat → Int64} {mSp : Nat → Int64} {mRw : Nat → Int32} {mSn : Nat → Int32} {mBg : Nat → Int32} {mLa : Nat → Int32} {mMo : Nat → Int32} {mRm : Nat → Int64} {mOw : Nat → Int64} {mGo : Nat → Int32} {mFr : Nat → Int32} {mQu : Nat → Int32} {mCh : Nat → Int64} {mPB : Nat → Int32} {mPS : Nat → Int32} {mFs : Nat → Int32} {ub : Nat → Nat} {uT : Nat → Int32} {uK : Nat → Nat → Int32} {uN : Nat → Nat → Int32} {uF : Nat → Nat → Int32} {uS : Nat → Nat → Int32}    {Qp : (Int32) → (Int32) → Prop}   (h : wp_X9_changes mAK mIP Qp) : CTv l yX9_changes wsX9_changes rm_X9_changes D (tyL cI cJ cZ cE cD cK) [.ref (ad 0)] (WM cI cJ cZ cK ad ud pT pK pN pF pS qT qK qN qF qS mKe mUn mFi mRi mBe mWc mAK mSh mIP mUS mWa mWi mSi mRo mSp mRw mSn mBg mLa mMo mRm mOw mGo mFr mQu mCh mPB mPS mFs ub uT uK uN uF uS) (fun u : (Int32) × (Int32) => Qp u.1 u.2) (fun u : (Int32) × (Int32) => (WM cI cJ cZ cK ad ud pT pK pN pF pS qT qK qN qF qS mKe mUn mFi mRi mBe mWc u.1 mSh u.2 mUS mWa mWi mSi mRo mSp mRw mSn mBg mLa mMo mRm mOw mGo mFr mQu mCh mPB mPS mFs ub uT uK uN uF uS)) 0 0 := by
  refine ent_v (cc := cX9_changes) (maxL := 1) (ret := none) (by decide) rfl (Nat.le_of_ble_eq_true rfl) ?_
  intro p e s m args below meth c A Q hQ hx hb hr hml hown hts hlk hA hAB hP hD hS ls hl
  have hown : s.vm.findClass RX9 = some m.cls := hown
  have hl : lv_has ls 1 [(0, .ref (ad 0))] := hl
  generalize hH : s.heap = H at hP ⊢
  have hS : va_S A s.heap H [] := by rw [← hH]; exact hS
  clear hH
  generalize ([] : List Loc) = locs at hS ⊢
  refine lv_aload_n hx hb dX9_changes_0 rfl (lv_at hl 0 rfl) ?_
  refine lv_iconst (v := 0) hx hb dX9_changes_1 (by decide) ?_
  refine fM_0_isPlanned hx hb hAB hP hD hS hts inn_X9_changes_9 hown (hts (.fieldLink RX9 121 "BarnBenchModel" "isPlanned" "Z") (by decide +kernel)) (by decide) dX9_changes_2 (fun mIP_1 H locs e_2 hP hD hS => ?_)
  have h := h mIP_1 e_2
  refine lv_aload_n hx hb dX9_changes_5 rfl (lv_at hl 0 rfl) ?_
  refine lv_iconst (v := 0) hx hb dX9_changes_6 (by decide) ?_
  refine fM_0_areKnown hx hb hAB hP hD hS hts inn_X9_changes_9 hown (hts (.fieldLink RX9 125 "BarnBenchModel" "areKnown" "Z") (by decide +kernel)) (by decide) dX9_changes_7 (fun mAK_3 H locs e_4 hP hD hS => ?_)
  have h := h mAK_3 e_4
  exact rt_v (mAK_3, mIP_1) hQ hx hb hr hlk hP hD hS ⟨Nat.zero_le _, Nat.zero_le _⟩ dX9_changes_10 h
def wp_X9_number (pN : Nat → Int32) (a1 : Int32) (a2 : Int32) (Qp : Int32 → Prop) : Prop :=
  vp_in ((5 * a1) + a2) 60 ∧ Qp (pN (Int32.toNatClampNeg ((5 * a1) + a2)))
theorem inn_X9_number_8 : ∀ w ∈ u_ws RX8 TX8 5, w ∈ wsX9_number := fun _ h => List.mem_cons_of_mem _ (List.mem_append_right _ h)
theorem inn_X9_number_9 : ∀ w ∈ u_ws RX9 TX9 32, w ∈ wsX9_number := fun _ h => List.mem_cons_of_mem _ (List.mem_append_left _ (List.mem_append_right _ h))
def rm_X9_number : Room := { frames := 0, cells := 0, slots := 0, locals := 0 }
set_option maxHeartbeats 4000000 in
set_option maxRecDepth 100000 in
theorem ct_X9_number {l : Launch} {D : va_G} {cI cJ cZ cE cD cK : ClassId} {ad : Nat → Nat} {ud : Nat → Nat → Nat} {pT : Int32} {pK : Nat → Int32} {pN : Nat → Int32} {pF : Nat → Int32} {pS : Nat → Int32} {qT : Int32} {qK : Nat → Int32} {qN : Nat → Int32} {qF : Nat → Int32} {qS : Nat → Int32} {mKe : Int32} {mUn : Int32} {mFi : Int32} {mRi : Int32} {mBe : Int64} {mWc : Int32} {mAK : Int32} {mSh : Int32} {mIP : Int32} {mUS : Nat → Int32} {mWa : Nat → Int32} {mWi : Nat → Int32} {mSi : Nat → Int32} {mRo : Nat → Int64} {mSp : Nat → Int64} {mRw : Nat → Int32} {mSn : Nat → Int32} {mBg : Nat → Int32} {mLa : Nat → Int32} {mMo : Nat → Int32} {mRm : Nat → Int64} {mOw : Nat → Int64} {mGo : Nat → Int32} {mFr : Nat → Int32} {mQu : Nat → Int32} {mCh : Nat → Int64} {mPB : Nat → Int32} {mPS : Nat → Int32} {mFs : Nat → Int32} {ub : Nat → Nat} {uT : Nat → Int32} {uK : Nat → Nat → Int32} {uN : Nat → Nat → Int32} {uF : Nat → Nat → Int32} {uS : Nat → Nat → Int32}   {a1 : Int32} {a2 : Int32} {Qp : Int32 → Prop}   (h : wp_X9_number pN a1 a2 Qp) : CTi l yX9_number wsX9_number rm_X9_number D (tyL cI cJ cZ cE cD cK) [.ref (ad 0), .int a1, .int a2] (WM cI cJ cZ cK ad ud pT pK pN pF pS qT qK qN qF qS mKe mUn mFi mRi mBe mWc mAK mSh mIP mUS mWa mWi mSi mRo mSp mRw mSn mBg mLa mMo mRm mOw mGo mFr mQu mCh mPB mPS mFs ub uT uK uN uF uS) (fun (r : Int32) (u : Unit) => Qp r ) (fun u : Unit => (WM cI cJ cZ cK ad ud pT pK pN pF pS qT qK qN qF qS mKe mUn mFi mRi mBe mWc mAK mSh mIP mUS mWa mWi mSi mRo mSp mRw mSn mBg mLa mMo mRm mOw mGo mFr mQu mCh mPB mPS mFs ub uT uK uN uF uS)) 0 0 := by
  refine ent_i (cc := cX9_number) (maxL := 3) (ret := (some .int)) (by decide) rfl (Nat.le_of_ble_eq_true rfl) ?_
  intro p e s m args below meth c A Q hQ hx hb hr hml hown hts hlk hA hAB hP hD hS ls hl
  have hown : s.vm.findClass RX9 = some m.cls := hown
  have hl : lv_has ls 3 [(0, .ref (ad 0)), (1, .int a1), (2, .int a2)] := hl
  generalize hH : s.heap = H at hP ⊢
  have hS : va_S A s.heap H [] := by rw [← hH]; exact hS
  clear hH
  generalize ([] : List Loc) = locs at hS ⊢
  refine lv_aload_n hx hb dX9_number_0 rfl (lv_at hl 0 rfl) ?_
  refine va_get (D := D) (ci := 9) (C := RX9) (T := TX9) (N := 32) hx hb hts inn_X9_number_9 hown hAB.1 hP 0 rfl rfl 0 (by decide) (hts (.fieldLink RX9 10 "BarnBenchModel" "b" "LBarnBenchModel$Book;") (by decide +kernel)) (fun _ h9 => h9) rfl dX9_number_1 ?_
  refine va_get (D := D) (ci := 8) (C := RX8) (T := TX8) (N := 5) hx hb hts inn_X9_number_8 hown hAB.1 hP 1 rfl rfl 2 (by decide) (hts (.fieldLink RX9 144 "BarnBenchModel$Book" "numbers" "[I") (by decide +kernel)) (fun _ h9 => h9) rfl dX9_number_4 ?_
  refine lv_iconst (v := 5) hx hb dX9_number_7 (by decide) ?_
  refine lv_iload_n hx hb dX9_number_8 rfl (lv_at hl 1 rfl) ?_
  refine lv_imul hx hb dX9_number_9 ?_
  refine lv_iload_n hx hb dX9_number_10 rfl (lv_at hl 2 rfl) ?_
  refine lv_iadd hx hb dX9_number_11 ?_
  refine va_iald hx hb hAB.1 hP 3 0 rfl rfl h.1 dX9_number_12 ?_
  have h := h.2
  exact rt_i () hQ hx hb hr hlk hP hD hS ⟨Nat.zero_le _, Nat.zero_le _⟩ dX9_number_13 h
def wp_X9_remember_b76 (Qp : (Int32) → (Int32) → (Int32) → (Nat → Int32) → (Nat → Nat) → (Nat → Int32) → (Nat → Nat → Int32) → (Nat → Nat → Int32) → (Nat → Nat → Int32) → (Nat → Nat → Int32) → Prop) (a1 : Int32) (pF : Nat → Int32) (pK : Nat → Int32) (pN : Nat → Int32) (pS : Nat → Int32) (pT : Int32) (mUn_1 : Int32) (mAK_2 : Int32) (mIP_3 : Int32) (mUS_4 : Nat → Int32) (ub_5 : Nat → Nat) (uT_6 : Nat → Int32) (uK_7 : Nat → Nat → Int32) (uN_8 : Nat → Nat → Int32) (uF_9 : Nat → Nat → Int32) (uS_10 : Nat → Nat → Int32) : Prop :=
  vp_in mUn_1 30 ∧ (ub_5 (Int32.toNatClampNeg mUn_1)) < 30 ∧ wp_X8_be_3 (uF_9 (ub_5 (Int32.toNatClampNeg mUn_1))) (uK_7 (ub_5 (Int32.toNatClampNeg mUn_1))) (uN_8 (ub_5 (Int32.toNatClampNeg mUn_1))) (uS_10 (ub_5 (Int32.toNatClampNeg mUn_1))) (uT_6 (ub_5 (Int32.toNatClampNeg mUn_1))) pT pK pN pF pS (fun (uF_12 : Nat → Int32) (uK_13 : Nat → Int32) (uN_14 : Nat → Int32) (uS_15 : Nat → Int32) (uT_16 : Int32) => vp_in mUn_1 30 ∧ ∀ mUS_17 : Nat → Int32, mUS_17 = upd mUS_4 (Int32.toNatClampNeg mUn_1) (vp_nar .boolean a1) → ∀ mUn_19 : Int32, mUn_19 = (mUn_1 + 1) → ((¬ a1 = 0 → Qp mUn_19 mAK_2 mIP_3 mUS_17 ub_5 (va_up uT_6 (ub_5 (Int32.toNatClampNeg mUn_1)) uT_16) (va_up uK_7 (ub_5 (Int32.toNatClampNeg mUn_1)) uK_13) (va_up uN_8 (ub_5 (Int32.toNatClampNeg mUn_1)) uN_14) (va_up uF_9 (ub_5 (Int32.toNatClampNeg mUn_1)) uF_12) (va_up uS_10 (ub_5 (Int32.toNatClampNeg mUn_1)) uS_15)) ∧
   (a1 = 0 → wp_X9_changes mAK_2 mIP_3 (fun (mAK_22 : Int32) (mIP_23 : Int32) => Qp mUn_19 mAK_22 mIP_23 mUS_17 ub_5 (va_up uT_6 (ub_5 (Int32.toNatClampNeg mUn_1)) uT_16) (va_up uK_7 (ub_5 (Int32.toNatClampNeg mUn_1)) uK_13) (va_up uN_8 (ub_5 (Int32.toNatClampNeg mUn_1)) uN_14) (va_up uF_9 (ub_5 (Int32.toNatClampNeg mUn_1)) uF_12) (va_up uS_10 (ub_5 (Int32.toNatClampNeg mUn_1)) uS_15)))))
def wp_X9_remember_L18  (x18 : (Nat → Int32) → (Nat → Nat) → Prop) : Nat → (Int32) → (Nat → Int32) → (Nat → Nat) → Prop
  | 0, _, _, _ => False
  | n18 + 1, x3_26, mUS_27, ub_28 =>
  ((30 ≤ x3_26 → x18 mUS_27 ub_28) ∧
   (¬ 30 ≤ x3_26 → vp_in x3_26 30 ∧ (ub_28 (Int32.toNatClampNeg x3_26)) < 30 ∧ vp_in (x3_26 - 1) 30 ∧ ∀ ub_33 : Nat → Nat, ub_33 = va_up ub_28 (Int32.toNatClampNeg (x3_26 - 1)) (ub_28 (Int32.toNatClampNeg x3_26)) → vp_in x3_26 30 ∧ vp_in (x3_26 - 1) 30 ∧ ∀ mUS_35 : Nat → Int32, mUS_35 = upd mUS_27 (Int32.toNatClampNeg (x3_26 - 1)) (vp_nar .boolean (mUS_27 (Int32.toNatClampNeg x3_26))) → ∀ x3_37 : Int32, x3_37 = x3_26 + 1 → (wp_X9_remember_L18  x18 n18) x3_37 mUS_35 ub_33))
def wp_X9_remember (pT : Int32) (pK : Nat → Int32) (pN : Nat → Int32) (pF : Nat → Int32) (pS : Nat → Int32) (mUn : Int32) (mAK : Int32) (mIP : Int32) (mUS : Nat → Int32) (ub : Nat → Nat) (uT : Nat → Int32) (uK : Nat → Nat → Int32) (uN : Nat → Nat → Int32) (uF : Nat → Nat → Int32) (uS : Nat → Nat → Int32) (a1 : Int32) (Qp : (Int32) → (Int32) → (Int32) → (Nat → Int32) → (Nat → Nat) → (Nat → Int32) → (Nat → Nat → Int32) → (Nat → Nat → Int32) → (Nat → Nat → Int32) → (Nat → Nat → Int32) → Prop) : Prop :=
  ((¬ mUn = 30 → wp_X9_remember_b76 Qp a1 pF pK pN pS pT mUn mAK mIP mUS ub uT uK uN uF uS) ∧
   (mUn = 30 → vp_in 0 30 ∧ (ub (Int32.toNatClampNeg 0)) < 30 ∧ (∃ n18 : Nat, wp_X9_remember_L18 (fun (mUS_29 : Nat → Int32) (ub_30 : Nat → Nat) => vp_in 29 30 ∧ ∀ ub_39 : Nat → Nat, ub_39 = va_up ub_30 (Int32.toNatClampNeg 29) (ub (Int32.toNatClampNeg 0)) → ∀ mUn_41 : Int32, mUn_41 = (mUn - 1) → wp_X9_remember_b76 Qp a1 pF pK pN pS pT mUn_41 mAK mIP mUS_29 ub_39 uT uK uN uF uS) n18 1 mUS ub)))
theorem inn_X9_remember_9 : ∀ w ∈ u_ws RX9 TX9 32, w ∈ wsX9_remember := fun _ h => List.mem_cons_of_mem _ (List.mem_append_left _ (List.mem_append_right _ h))
def rm_X9_remember : Room := { frames := 1, cells := 0, slots := 0, locals := 22 }
set_option maxHeartbeats 4000000 in
set_option maxRecDepth 100000 in
theorem ct_X9_remember {l : Launch} {D : va_G} {cI cJ cZ cE cD cK : ClassId} {ad : Nat → Nat} {ud : Nat → Nat → Nat} {pT : Int32} {pK : Nat → Int32} {pN : Nat → Int32} {pF : Nat → Int32} {pS : Nat → Int32} {qT : Int32} {qK : Nat → Int32} {qN : Nat → Int32} {qF : Nat → Int32} {qS : Nat → Int32} {mKe : Int32} {mUn : Int32} {mFi : Int32} {mRi : Int32} {mBe : Int64} {mWc : Int32} {mAK : Int32} {mSh : Int32} {mIP : Int32} {mUS : Nat → Int32} {mWa : Nat → Int32} {mWi : Nat → Int32} {mSi : Nat → Int32} {mRo : Nat → Int64} {mSp : Nat → Int64} {mRw : Nat → Int32} {mSn : Nat → Int32} {mBg : Nat → Int32} {mLa : Nat → Int32} {mMo : Nat → Int32} {mRm : Nat → Int64} {mOw : Nat → Int64} {mGo : Nat → Int32} {mFr : Nat → Int32} {mQu : Nat → Int32} {mCh : Nat → Int64} {mPB : Nat → Int32} {mPS : Nat → Int32} {mFs : Nat → Int32} {ub : Nat → Nat} {uT : Nat → Int32} {uK : Nat → Nat → Int32} {uN : Nat → Nat → Int32} {uF : Nat → Nat → Int32} {uS : Nat → Nat → Int32}   {a1 : Int32} {Qp : (Int32) → (Int32) → (Int32) → (Nat → Int32) → (Nat → Nat) → (Nat → Int32) → (Nat → Nat → Int32) → (Nat → Nat → Int32) → (Nat → Nat → Int32) → (Nat → Nat → Int32) → Prop}   (h : wp_X9_remember pT pK pN pF pS mUn mAK mIP mUS ub uT uK uN uF uS a1 Qp) : CTv l yX9_remember wsX9_remember rm_X9_remember D (tyL cI cJ cZ cE cD cK) [.ref (ad 0), .int a1] (WM cI cJ cZ cK ad ud pT pK pN pF pS qT qK qN qF qS mKe mUn mFi mRi mBe mWc mAK mSh mIP mUS mWa mWi mSi mRo mSp mRw mSn mBg mLa mMo mRm mOw mGo mFr mQu mCh mPB mPS mFs ub uT uK uN uF uS) (fun u : (Int32) × (Int32) × (Int32) × (Nat → Int32) × (Nat → Nat) × (Nat → Int32) × (Nat → Nat → Int32) × (Nat → Nat → Int32) × (Nat → Nat → Int32) × (Nat → Nat → Int32) => Qp u.1 u.2.1 u.2.2.1 u.2.2.2.1 u.2.2.2.2.1 u.2.2.2.2.2.1 u.2.2.2.2.2.2.1 u.2.2.2.2.2.2.2.1 u.2.2.2.2.2.2.2.2.1 u.2.2.2.2.2.2.2.2.2) (fun u : (Int32) × (Int32) × (Int32) × (Nat → Int32) × (Nat → Nat) × (Nat → Int32) × (Nat → Nat → Int32) × (Nat → Nat → Int32) × (Nat → Nat → Int32) × (Nat → Nat → Int32) => (WM cI cJ cZ cK ad ud pT pK pN pF pS qT qK qN qF qS mKe u.1 mFi mRi mBe mWc u.2.1 mSh u.2.2.1 u.2.2.2.1 mWa mWi mSi mRo mSp mRw mSn mBg mLa mMo mRm mOw mGo mFr mQu mCh mPB mPS mFs u.2.2.2.2.1 u.2.2.2.2.2.1 u.2.2.2.2.2.2.1 u.2.2.2.2.2.2.2.1 u.2.2.2.2.2.2.2.2.1 u.2.2.2.2.2.2.2.2.2)) 0 0 := by
  refine ent_v (cc := cX9_remember) (maxL := 4) (ret := none) (by decide) rfl (Nat.le_of_ble_eq_true rfl) ?_
  intro p e s m args below meth c A Q hQ hx hb hr hml hown hts hlk hA hAB hP hD hS ls hl
  have hown : s.vm.findClass RX9 = some m.cls := hown
  have hl : lv_has ls 4 [(0, .ref (ad 0)), (1, .int a1)] := hl
  generalize hH : s.heap = H at hP ⊢
  have hS : va_S A s.heap H [] := by rw [← hH]; exact hS
  clear hH
  generalize ([] : List Loc) = locs at hS ⊢
  have B76 : ∀ (mUn_1 : Int32) (mAK_2 : Int32) (mIP_3 : Int32) (mUS_4 : Nat → Int32) (ub_5 : Nat → Nat) (uT_6 : Nat → Int32) (uK_7 : Nat → Nat → Int32) (uN_8 : Nat → Nat → Int32) (uF_9 : Nat → Nat → Int32) (uS_10 : Nat → Nat → Int32), wp_X9_remember_b76 Qp a1 pF pK pN pS pT mUn_1 mAK_2 mIP_3 mUS_4 ub_5 uT_6 uK_7 uN_8 uF_9 uS_10 → ∀ (H : Heap) (locs : List Loc) (ls : Array Slot), va_P D vwCl (WM cI cJ cZ cK ad ud pT pK pN pF pS qT qK qN qF qS mKe mUn_1 mFi mRi mBe mWc mAK_2 mSh mIP_3 mUS_4 mWa mWi mSi mRo mSp mRw mSn mBg mLa mMo mRm mOw mGo mFr mQu mCh mPB mPS mFs ub_5 uT_6 uK_7 uN_8 uF_9 uS_10) H → va_D A (WM cI cJ cZ cK ad ud pT pK pN pF pS qT qK qN qF qS mKe mUn_1 mFi mRi mBe mWc mAK_2 mSh mIP_3 mUS_4 mWa mWi mSi mRo mSp mRw mSn mBg mLa mMo mRm mOw mGo mFr mQu mCh mPB mPS mFs ub_5 uT_6 uK_7 uN_8 uF_9 uS_10) → va_S A s.heap H locs → lv_has ls 4 [(0, .ref (ad 0)), (1, .int a1)] → W p l e (headSpec wsX9_remember rm_X9_remember).room s m args below meth c H locs 0 0 Q (F0 m 76 ls []) := by
    intro mUn_1 mAK_2 mIP_3 mUS_4 ub_5 uT_6 uK_7 uN_8 uF_9 uS_10 h H locs ls hP hD hS hl
    refine lv_aload_n hx hb dX9_remember_76 rfl (lv_at hl 0 rfl) ?_
    refine va_get (D := D) (ci := 9) (C := RX9) (T := TX9) (N := 32) hx hb hts inn_X9_remember_9 hown hAB.1 hP 0 rfl rfl 4 (by decide) (hts (.fieldLink RX9 19 "BarnBenchModel" "undoBooks" "[LBarnBenchModel$Book;") (by decide +kernel)) (fun _ h9 => h9) rfl dX9_remember_77 ?_
    refine lv_aload_n hx hb dX9_remember_80 rfl (lv_at hl 0 rfl) ?_
    refine va_get (D := D) (ci := 9) (C := RX9) (T := TX9) (N := 32) hx hb hts inn_X9_remember_9 hown hAB.1 hP 0 rfl rfl 3 (by decide) (hts (.fieldLink RX9 111 "BarnBenchModel" "undos" "I") (by decide +kernel)) (fun _ h9 => h9) rfl dX9_remember_81 ?_
    have hi_11 := h.2.1
    refine va_aldq hx hb hAB.1 hP 11 5 rfl rfl h.1 dX9_remember_84 ?_
    rw [if_pos (vp_lt h.1)]
    have h := h.2.2
    show W _ _ _ _ _ _ _ _ _ _ _ _ _ _ _ (F0 _ _ _ (.ref (ud (ub_5 (Int32.toNatClampNeg mUn_1)) 0) :: _))
    refine lv_aload_n hx hb dX9_remember_85 rfl (lv_at hl 0 rfl) ?_
    refine va_get (D := D) (ci := 9) (C := RX9) (T := TX9) (N := 32) hx hb hts inn_X9_remember_9 hown hAB.1 hP 0 rfl rfl 0 (by decide) (hts (.fieldLink RX9 10 "BarnBenchModel" "b" "LBarnBenchModel$Book;") (by decide +kernel)) (fun _ h9 => h9) rfl dX9_remember_86 ?_
    have hP : va_P D vwCl (WM cI cJ cZ cK ad ud pT pK pN pF pS qT qK qN qF qS mKe mUn_1 mFi mRi mBe mWc mAK_2 mSh mIP_3 mUS_4 mWa mWi mSi mRo mSp mRw mSn mBg mLa mMo mRm mOw mGo mFr mQu mCh mPB mPS mFs ub_5 (va_up uT_6 (ub_5 (Int32.toNatClampNeg mUn_1)) (uT_6 (ub_5 (Int32.toNatClampNeg mUn_1)))) (va_up uK_7 (ub_5 (Int32.toNatClampNeg mUn_1)) (uK_7 (ub_5 (Int32.toNatClampNeg mUn_1)))) (va_up uN_8 (ub_5 (Int32.toNatClampNeg mUn_1)) (uN_8 (ub_5 (Int32.toNatClampNeg mUn_1)))) (va_up uF_9 (ub_5 (Int32.toNatClampNeg mUn_1)) (uF_9 (ub_5 (Int32.toNatClampNeg mUn_1)))) (va_up uS_10 (ub_5 (Int32.toNatClampNeg mUn_1)) (uS_10 (ub_5 (Int32.toNatClampNeg mUn_1))))) H := by simp only [vx_self]; exact hP
    have hD : va_D A (WM cI cJ cZ cK ad ud pT pK pN pF pS qT qK qN qF qS mKe mUn_1 mFi mRi mBe mWc mAK_2 mSh mIP_3 mUS_4 mWa mWi mSi mRo mSp mRw mSn mBg mLa mMo mRm mOw mGo mFr mQu mCh mPB mPS mFs ub_5 (va_up uT_6 (ub_5 (Int32.toNatClampNeg mUn_1)) (uT_6 (ub_5 (Int32.toNatClampNeg mUn_1)))) (va_up uK_7 (ub_5 (Int32.toNatClampNeg mUn_1)) (uK_7 (ub_5 (Int32.toNatClampNeg mUn_1)))) (va_up uN_8 (ub_5 (Int32.toNatClampNeg mUn_1)) (uN_8 (ub_5 (Int32.toNatClampNeg mUn_1)))) (va_up uF_9 (ub_5 (Int32.toNatClampNeg mUn_1)) (uF_9 (ub_5 (Int32.toNatClampNeg mUn_1)))) (va_up uS_10 (ub_5 (Int32.toNatClampNeg mUn_1)) (uS_10 (ub_5 (Int32.toNatClampNeg mUn_1))))) := by simp only [vx_self]; exact hD
    refine cl_v hD hS hA (va_runV (As := [.ref (ad 1)]) (rest := []) ⟨hx, hb, hml, hown, hts⟩ (ct_X8_be_3 hi_11 h H.size) (cwV 1 hts gX9_remember_X8_be rfl rfl rfl (by decide +kernel) ⟨Nat.le_of_ble_eq_true rfl, Nat.le_of_ble_eq_true rfl⟩) ⟨CPre.blind, va_recv hAB.1 hP (ci := 8) (q0 := (32 + ((ub_5 (Int32.toNatClampNeg mUn_1)) * 5 + 0))) rfl (gU_0 hi_11), wd_pre hAB hP hD hS hA⟩ rfl rfl hl.1 rfl (lv_room (Nat.le_of_ble_eq_true rfl)) dX9_remember_89 ⟨Nat.zero_le _, Nat.zero_le _⟩) (fun u H locs h hP hD hS => ?_)
    obtain ⟨uF_12, uK_13, uN_14, uS_15, uT_16⟩ := u
    have hP : va_P D vwCl (WM cI cJ cZ cK ad ud pT pK pN pF pS qT qK qN qF qS mKe mUn_1 mFi mRi mBe mWc mAK_2 mSh mIP_3 mUS_4 mWa mWi mSi mRo mSp mRw mSn mBg mLa mMo mRm mOw mGo mFr mQu mCh mPB mPS mFs ub_5 (va_up uT_6 (ub_5 (Int32.toNatClampNeg mUn_1)) uT_16) (va_up uK_7 (ub_5 (Int32.toNatClampNeg mUn_1)) uK_13) (va_up uN_8 (ub_5 (Int32.toNatClampNeg mUn_1)) uN_14) (va_up uF_9 (ub_5 (Int32.toNatClampNeg mUn_1)) uF_12) (va_up uS_10 (ub_5 (Int32.toNatClampNeg mUn_1)) uS_15)) H := hP
    have hD : va_D A (WM cI cJ cZ cK ad ud pT pK pN pF pS qT qK qN qF qS mKe mUn_1 mFi mRi mBe mWc mAK_2 mSh mIP_3 mUS_4 mWa mWi mSi mRo mSp mRw mSn mBg mLa mMo mRm mOw mGo mFr mQu mCh mPB mPS mFs ub_5 (va_up uT_6 (ub_5 (Int32.toNatClampNeg mUn_1)) uT_16) (va_up uK_7 (ub_5 (Int32.toNatClampNeg mUn_1)) uK_13) (va_up uN_8 (ub_5 (Int32.toNatClampNeg mUn_1)) uN_14) (va_up uF_9 (ub_5 (Int32.toNatClampNeg mUn_1)) uF_12) (va_up uS_10 (ub_5 (Int32.toNatClampNeg mUn_1)) uS_15)) := hD
    refine lv_aload_n hx hb dX9_remember_92 rfl (lv_at hl 0 rfl) ?_
    refine va_get (D := D) (ci := 9) (C := RX9) (T := TX9) (N := 32) hx hb hts inn_X9_remember_9 hown hAB.1 hP 0 rfl rfl 5 (by decide) (hts (.fieldLink RX9 23 "BarnBenchModel" "undoSpan" "[Z") (by decide +kernel)) (fun _ h9 => h9) rfl dX9_remember_93 ?_
    refine lv_aload_n hx hb dX9_remember_96 rfl (lv_at hl 0 rfl) ?_
    refine va_get (D := D) (ci := 9) (C := RX9) (T := TX9) (N := 32) hx hb hts inn_X9_remember_9 hown hAB.1 hP 0 rfl rfl 3 (by decide) (hts (.fieldLink RX9 111 "BarnBenchModel" "undos" "I") (by decide +kernel)) (fun _ h9 => h9) rfl dX9_remember_97 ?_
    refine lv_iload_n hx hb dX9_remember_100 rfl (lv_at hl 1 rfl) ?_
    refine sM_12 hx hb hAB hP hD hS h.1 dX9_remember_101 (fun mUS_17 H locs e_18 hP hD hS => ?_)
    have h := h.2
    have h := h mUS_17 e_18
    refine lv_aload_n hx hb dX9_remember_102 rfl (lv_at hl 0 rfl) ?_
    refine lv_dup hx hb dX9_remember_103 rfl ?_
    refine va_get (D := D) (ci := 9) (C := RX9) (T := TX9) (N := 32) hx hb hts inn_X9_remember_9 hown hAB.1 hP 0 rfl rfl 3 (by decide) (hts (.fieldLink RX9 111 "BarnBenchModel" "undos" "I") (by decide +kernel)) (fun _ h9 => h9) rfl dX9_remember_104 ?_
    refine lv_iconst (v := 1) hx hb dX9_remember_107 (by decide) ?_
    refine lv_iadd hx hb dX9_remember_108 ?_
    refine fM_0_undos hx hb hAB hP hD hS hts inn_X9_remember_9 hown (hts (.fieldLink RX9 111 "BarnBenchModel" "undos" "I") (by decide +kernel)) dX9_remember_109 (fun mUn_19 H locs e_20 hP hD hS => ?_)
    have h := h mUn_19 e_20
    refine lv_iload_n hx hb dX9_remember_112 rfl (lv_at hl 1 rfl) ?_
    refine lv_if_ne (tgt := 120) hx hb dX9_remember_113 (by decide) (fun c_21 => ?_) (fun c_21 => ?_)
    · have h := h.1 c_21
      exact rt_v (mUn_19, mAK_2, mIP_3, mUS_17, ub_5, (va_up uT_6 (ub_5 (Int32.toNatClampNeg mUn_1)) uT_16), (va_up uK_7 (ub_5 (Int32.toNatClampNeg mUn_1)) uK_13), (va_up uN_8 (ub_5 (Int32.toNatClampNeg mUn_1)) uN_14), (va_up uF_9 (ub_5 (Int32.toNatClampNeg mUn_1)) uF_12), (va_up uS_10 (ub_5 (Int32.toNatClampNeg mUn_1)) uS_15)) hQ hx hb hr hlk hP hD hS ⟨Nat.zero_le _, Nat.zero_le _⟩ dX9_remember_120 h
    · have h := h.2 c_21
      refine lv_aload_n hx hb dX9_remember_116 rfl (lv_at hl 0 rfl) ?_
      refine cl_v hD hS hA (va_runV (As := []) (rest := []) ⟨hx, hb, hml, hown, hts⟩ (ct_X9_changes h H.size) (cwV 0 hts gX9_remember_X9_changes rfl rfl rfl (by decide +kernel) ⟨Nat.le_of_ble_eq_true rfl, Nat.le_of_ble_eq_true rfl⟩) ⟨CPre.blind, va_recv hAB.1 hP (ci := 9) (q0 := 0) rfl rfl, wd_pre hAB hP hD hS hA⟩ rfl rfl hl.1 rfl (lv_room (Nat.le_of_ble_eq_true rfl)) dX9_remember_117 ⟨Nat.zero_le _, Nat.zero_le _⟩) (fun u H locs h hP hD hS => ?_)
      obtain ⟨mAK_22, mIP_23⟩ := u
      have hP : va_P D vwCl (WM cI cJ cZ cK ad ud pT pK pN pF pS qT qK qN qF qS mKe mUn_19 mFi mRi mBe mWc mAK_22 mSh mIP_23 mUS_17 mWa mWi mSi mRo mSp mRw mSn mBg mLa mMo mRm mOw mGo mFr mQu mCh mPB mPS mFs ub_5 (va_up uT_6 (ub_5 (Int32.toNatClampNeg mUn_1)) uT_16) (va_up uK_7 (ub_5 (Int32.toNatClampNeg mUn_1)) uK_13) (va_up uN_8 (ub_5 (Int32.toNatClampNeg mUn_1)) uN_14) (va_up uF_9 (ub_5 (Int32.toNatClampNeg mUn_1)) uF_12) (va_up uS_10 (ub_5 (Int32.toNatClampNeg mUn_1)) uS_15)) H := hP
      have hD : va_D A (WM cI cJ cZ cK ad ud pT pK pN pF pS qT qK qN qF qS mKe mUn_19 mFi mRi mBe mWc mAK_22 mSh mIP_23 mUS_17 mWa mWi mSi mRo mSp mRw mSn mBg mLa mMo mRm mOw mGo mFr mQu mCh mPB mPS mFs ub_5 (va_up uT_6 (ub_5 (Int32.toNatClampNeg mUn_1)) uT_16) (va_up uK_7 (ub_5 (Int32.toNatClampNeg mUn_1)) uK_13) (va_up uN_8 (ub_5 (Int32.toNatClampNeg mUn_1)) uN_14) (va_up uF_9 (ub_5 (Int32.toNatClampNeg mUn_1)) uF_12) (va_up uS_10 (ub_5 (Int32.toNatClampNeg mUn_1)) uS_15)) := hD
      exact rt_v (mUn_19, mAK_22, mIP_23, mUS_17, ub_5, (va_up uT_6 (ub_5 (Int32.toNatClampNeg mUn_1)) uT_16), (va_up uK_7 (ub_5 (Int32.toNatClampNeg mUn_1)) uK_13), (va_up uN_8 (ub_5 (Int32.toNatClampNeg mUn_1)) uN_14), (va_up uF_9 (ub_5 (Int32.toNatClampNeg mUn_1)) uF_12), (va_up uS_10 (ub_5 (Int32.toNatClampNeg mUn_1)) uS_15)) hQ hx hb hr hlk hP hD hS ⟨Nat.zero_le _, Nat.zero_le _⟩ dX9_remember_120 h
  refine lv_aload_n hx hb dX9_remember_0 rfl (lv_at hl 0 rfl) ?_
  refine va_get (D := D) (ci := 9) (C := RX9) (T := TX9) (N := 32) hx hb hts inn_X9_remember_9 hown hAB.1 hP 0 rfl rfl 3 (by decide) (hts (.fieldLink RX9 111 "BarnBenchModel" "undos" "I") (by decide +kernel)) (fun _ h9 => h9) rfl dX9_remember_1 ?_
  refine lv_bipush (v := 30) hx hb dX9_remember_4 (by decide) ?_
  refine lv_icmp_ne (tgt := 76) hx hb dX9_remember_6 (by decide) (fun c_24 => ?_) (fun c_24 => ?_)
  · have h := h.1 c_24
    exact B76 mUn mAK mIP mUS ub uT uK uN uF uS h H locs ls hP hD hS (lv_sub hl [0, 1] rfl)
  · have h := h.2 c_24
    refine lv_aload_n hx hb dX9_remember_9 rfl (lv_at hl 0 rfl) ?_
    refine va_get (D := D) (ci := 9) (C := RX9) (T := TX9) (N := 32) hx hb hts inn_X9_remember_9 hown hAB.1 hP 0 rfl rfl 4 (by decide) (hts (.fieldLink RX9 19 "BarnBenchModel" "undoBooks" "[LBarnBenchModel$Book;") (by decide +kernel)) (fun _ h9 => h9) rfl dX9_remember_10 ?_
    refine lv_iconst (v := 0) hx hb dX9_remember_13 (by decide) ?_
    have hi_25 := h.2.1
    refine va_aldq hx hb hAB.1 hP 11 5 rfl rfl h.1 dX9_remember_14 ?_
    rw [if_pos (vp_lt h.1)]
    have h := h.2.2
    show W _ _ _ _ _ _ _ _ _ _ _ _ _ _ _ (F0 _ _ _ (.ref (ud (ub (Int32.toNatClampNeg 0)) 0) :: _))
    refine lv_astore_n (lv' := [(2, .ref (ud (ub (Int32.toNatClampNeg 0)) 0)), (0, .ref (ad 0)), (1, .int a1)]) hx hb dX9_remember_15 rfl hl (by decide) rfl (fun ls hl => ?_)
    refine lv_iconst (v := 1) hx hb dX9_remember_16 (by decide) ?_
    refine lv_istore_n (lv' := [(3, .int 1), (2, .ref (ud (ub (Int32.toNatClampNeg 0)) 0)), (0, .ref (ad 0)), (1, .int a1)]) hx hb dX9_remember_17 rfl hl (by decide) rfl (fun ls hl => ?_)
    have L18 : ∀ (x18 : (Nat → Int32) → (Nat → Nat) → Prop) (hk18 : ∀ (mUS_29 : Nat → Int32) (ub_30 : Nat → Nat), x18 mUS_29 ub_30 → ∀ (H : Heap) (locs : List Loc) (ls : Array Slot), va_P D vwCl (WM cI cJ cZ cK ad ud pT pK pN pF pS qT qK qN qF qS mKe mUn mFi mRi mBe mWc mAK mSh mIP mUS_29 mWa mWi mSi mRo mSp mRw mSn mBg mLa mMo mRm mOw mGo mFr mQu mCh mPB mPS mFs ub_30 uT uK uN uF uS) H → va_D A (WM cI cJ cZ cK ad ud pT pK pN pF pS qT qK qN qF qS mKe mUn mFi mRi mBe mWc mAK mSh mIP mUS_29 mWa mWi mSi mRo mSp mRw mSn mBg mLa mMo mRm mOw mGo mFr mQu mCh mPB mPS mFs ub_30 uT uK uN uF uS) → va_S A s.heap H locs → lv_has ls 4 [(0, .ref (ad 0)), (1, .int a1), (2, .ref (ud (ub (Int32.toNatClampNeg 0)) 0))] → W p l e (headSpec wsX9_remember rm_X9_remember).room s m args below meth c H locs 0 0 Q (F0 m 58 ls [])) (n18 : Nat) (x3_26 : Int32) (mUS_27 : Nat → Int32) (ub_28 : Nat → Nat), wp_X9_remember_L18  x18 n18 x3_26 mUS_27 ub_28 → ∀ (H : Heap) (locs : List Loc) (ls : Array Slot), va_P D vwCl (WM cI cJ cZ cK ad ud pT pK pN pF pS qT qK qN qF qS mKe mUn mFi mRi mBe mWc mAK mSh mIP mUS_27 mWa mWi mSi mRo mSp mRw mSn mBg mLa mMo mRm mOw mGo mFr mQu mCh mPB mPS mFs ub_28 uT uK uN uF uS) H → va_D A (WM cI cJ cZ cK ad ud pT pK pN pF pS qT qK qN qF qS mKe mUn mFi mRi mBe mWc mAK mSh mIP mUS_27 mWa mWi mSi mRo mSp mRw mSn mBg mLa mMo mRm mOw mGo mFr mQu mCh mPB mPS mFs ub_28 uT uK uN uF uS) → va_S A s.heap H locs → lv_has ls 4 [(0, .ref (ad 0)), (1, .int a1), (2, .ref (ud (ub (Int32.toNatClampNeg 0)) 0)), (3, .int x3_26)] → W p l e (headSpec wsX9_remember rm_X9_remember).room s m args below meth c H locs 0 0 Q (F0 m 18 ls []) := by
      intro x18 hk18 n18
      induction n18 with
      | zero => intro x3_26 mUS_27 ub_28 h; exact False.elim h
      | succ n18 ih18 =>
        intro x3_26 mUS_27 ub_28 h H locs ls hP hD hS hl
        refine lv_iload_n hx hb dX9_remember_18 rfl (lv_at hl 3 rfl) ?_
        refine lv_bipush (v := 30) hx hb dX9_remember_19 (by decide) ?_
        refine lv_icmp_ge (tgt := 58) hx hb dX9_remember_21 (by decide) (fun c_31 => ?_) (fun c_31 => ?_)
        · have h := h.1 c_31
          exact hk18 mUS_27 ub_28 h H locs ls hP hD hS (lv_sub hl [0, 1, 2] rfl)
        · have h := h.2 c_31
          refine lv_aload_n hx hb dX9_remember_24 rfl (lv_at hl 0 rfl) ?_
          refine va_get (D := D) (ci := 9) (C := RX9) (T := TX9) (N := 32) hx hb hts inn_X9_remember_9 hown hAB.1 hP 0 rfl rfl 4 (by decide) (hts (.fieldLink RX9 19 "BarnBenchModel" "undoBooks" "[LBarnBenchModel$Book;") (by decide +kernel)) (fun _ h9 => h9) rfl dX9_remember_25 ?_
          refine lv_iload_n hx hb dX9_remember_28 rfl (lv_at hl 3 rfl) ?_
          refine lv_iconst (v := 1) hx hb dX9_remember_29 (by decide) ?_
          refine lv_isub hx hb dX9_remember_30 ?_
          refine lv_aload_n hx hb dX9_remember_31 rfl (lv_at hl 0 rfl) ?_
          refine va_get (D := D) (ci := 9) (C := RX9) (T := TX9) (N := 32) hx hb hts inn_X9_remember_9 hown hAB.1 hP 0 rfl rfl 4 (by decide) (hts (.fieldLink RX9 19 "BarnBenchModel" "undoBooks" "[LBarnBenchModel$Book;") (by decide +kernel)) (fun _ h9 => h9) rfl dX9_remember_32 ?_
          refine lv_iload_n hx hb dX9_remember_35 rfl (lv_at hl 3 rfl) ?_
          have hi_32 := h.2.1
          refine va_aldq hx hb hAB.1 hP 11 5 rfl rfl h.1 dX9_remember_36 ?_
          rw [if_pos (vp_lt h.1)]
          have h := h.2.2
          show W _ _ _ _ _ _ _ _ _ _ _ _ _ _ _ (F0 _ _ _ (.ref (ud (ub_28 (Int32.toNatClampNeg x3_26)) 0) :: _))
          refine sM_ub hx hb hAB hP hD hS hi_32 h.1 dX9_remember_37 (fun ub_33 H locs e_34 hP hD hS => ?_)
          have h := h.2
          have h := h ub_33 e_34
          refine lv_aload_n hx hb dX9_remember_38 rfl (lv_at hl 0 rfl) ?_
          refine va_get (D := D) (ci := 9) (C := RX9) (T := TX9) (N := 32) hx hb hts inn_X9_remember_9 hown hAB.1 hP 0 rfl rfl 5 (by decide) (hts (.fieldLink RX9 23 "BarnBenchModel" "undoSpan" "[Z") (by decide +kernel)) (fun _ h9 => h9) rfl dX9_remember_39 ?_
          refine lv_iload_n hx hb dX9_remember_42 rfl (lv_at hl 3 rfl) ?_
          refine lv_iconst (v := 1) hx hb dX9_remember_43 (by decide) ?_
          refine lv_isub hx hb dX9_remember_44 ?_
          refine lv_aload_n hx hb dX9_remember_45 rfl (lv_at hl 0 rfl) ?_
          refine va_get (D := D) (ci := 9) (C := RX9) (T := TX9) (N := 32) hx hb hts inn_X9_remember_9 hown hAB.1 hP 0 rfl rfl 5 (by decide) (hts (.fieldLink RX9 23 "BarnBenchModel" "undoSpan" "[Z") (by decide +kernel)) (fun _ h9 => h9) rfl dX9_remember_46 ?_
          refine lv_iload_n hx hb dX9_remember_49 rfl (lv_at hl 3 rfl) ?_
          refine va_zald hx hb hAB.1 hP 12 2 rfl rfl h.1 dX9_remember_50 ?_
          have h := h.2
          refine sM_12 hx hb hAB hP hD hS h.1 dX9_remember_51 (fun mUS_35 H locs e_36 hP hD hS => ?_)
          have h := h.2
          have h := h mUS_35 e_36
          obtain ⟨x3_37, e_38⟩ : ∃ y : Int32, y = x3_26 + 1 := ⟨_, rfl⟩
          have h := h x3_37 e_38
          refine lv_iinc (v := x3_37) (lv' := [(3, .int x3_37), (0, .ref (ad 0)), (1, .int a1), (2, .ref (ud (ub (Int32.toNatClampNeg 0)) 0))]) hx hb dX9_remember_52 hl (k := 3) rfl (by rw [e_38]; rfl) (by decide) rfl (fun ls hl => ?_)
          refine lv_goto (tgt := 18) hx hb dX9_remember_55 (by decide) ?_
          exact ih18 x3_37 mUS_35 ub_33 h H locs ls hP hD hS (lv_sub hl [1, 2, 3, 0] rfl)
    obtain ⟨n18, h⟩ := h
    refine L18 _ (fun mUS_29 ub_30 h H locs ls hP hD hS hl => ?_) n18 1 mUS ub h H locs ls hP hD hS (lv_sub hl [2, 3, 1, 0] rfl)
    refine lv_aload_n hx hb dX9_remember_58 rfl (lv_at hl 0 rfl) ?_
    refine va_get (D := D) (ci := 9) (C := RX9) (T := TX9) (N := 32) hx hb hts inn_X9_remember_9 hown hAB.1 hP 0 rfl rfl 4 (by decide) (hts (.fieldLink RX9 19 "BarnBenchModel" "undoBooks" "[LBarnBenchModel$Book;") (by decide +kernel)) (fun _ h9 => h9) rfl dX9_remember_59 ?_
    refine lv_bipush (v := 29) hx hb dX9_remember_62 (by decide) ?_
    refine lv_aload_n hx hb dX9_remember_64 rfl (lv_at hl 2 rfl) ?_
    refine sM_ub hx hb hAB hP hD hS hi_25 h.1 dX9_remember_65 (fun ub_39 H locs e_40 hP hD hS => ?_)
    have h := h.2
    have h := h ub_39 e_40
    refine lv_aload_n hx hb dX9_remember_66 rfl (lv_at hl 0 rfl) ?_
    refine lv_dup hx hb dX9_remember_67 rfl ?_
    refine va_get (D := D) (ci := 9) (C := RX9) (T := TX9) (N := 32) hx hb hts inn_X9_remember_9 hown hAB.1 hP 0 rfl rfl 3 (by decide) (hts (.fieldLink RX9 111 "BarnBenchModel" "undos" "I") (by decide +kernel)) (fun _ h9 => h9) rfl dX9_remember_68 ?_
    refine lv_iconst (v := 1) hx hb dX9_remember_71 (by decide) ?_
    refine lv_isub hx hb dX9_remember_72 ?_
    refine fM_0_undos hx hb hAB hP hD hS hts inn_X9_remember_9 hown (hts (.fieldLink RX9 111 "BarnBenchModel" "undos" "I") (by decide +kernel)) dX9_remember_73 (fun mUn_41 H locs e_42 hP hD hS => ?_)
    have h := h mUn_41 e_42
    exact B76 mUn_41 mAK mIP mUS_29 ub_39 uT uK uN uF uS h H locs ls hP hD hS (lv_sub hl [0, 1] rfl)
def wp_X9_board_L77 (a1 : Int32) (x77 : (Nat → Int64) → Prop) : Nat → (Int32) → (Nat → Int64) → Prop
  | 0, _, _ => False
  | n77 + 1, x4_9, mRo_10 =>
  ((24 ≤ x4_9 → x77 mRo_10) ∧
   (¬ 24 ≤ x4_9 → vp_in ((24 * a1) + x4_9) 96 ∧ ∀ mRo_13 : Nat → Int64, mRo_13 = vp_updL mRo_10 (Int32.toNatClampNeg ((24 * a1) + x4_9)) 0 → ∀ x4_15 : Int32, x4_15 = x4_9 + 1 → (wp_X9_board_L77 a1 x77 n77) x4_15 mRo_13))
def wp_X9_board_b73 (Qp : Int32 → (Int32) → (Nat → Int32) → (Nat → Int32) → (Nat → Int64) → Prop) (a1 : Int32) (y_1 : Int32) (y_2 : Int32) (mFi_3 : Int32) (mWi_4 : Nat → Int32) (mSi_5 : Nat → Int32) (mRo_6 : Nat → Int64) : Prop :=
  vp_in y_1 4 ∧ ∀ mSi_7 : Nat → Int32, mSi_7 = upd mSi_5 (Int32.toNatClampNeg y_1) y_2 → (∃ n77 : Nat, wp_X9_board_L77 a1 (fun (mRo_11 : Nat → Int64) => vp_in a1 4 ∧ Qp (mSi_7 (Int32.toNatClampNeg a1)) mFi_3 mWi_4 mSi_7 mRo_11) n77 0 mRo_6)
def wp_X9_board_b29 (Qp : Int32 → (Int32) → (Nat → Int32) → (Nat → Int32) → (Nat → Int64) → Prop) (a1 : Int32) (a2 : Int32) (a3 : Int32) (mFi_17 : Int32) (mWi_18 : Nat → Int32) (mSi_19 : Nat → Int32) (mRo_20 : Nat → Int64) : Prop :=
  ((0 ≤ a3 → ((a3 ≤ 24 → vp_in a1 4 ∧ ∀ mWi_23 : Nat → Int32, mWi_23 = upd mWi_18 (Int32.toNatClampNeg a1) a2 → ((¬ a2 = 0 → wp_X9_board_b73 Qp a1 a1 a3 mFi_17 mWi_23 mSi_19 mRo_20) ∧
   (a2 = 0 → wp_X9_board_b73 Qp a1 a1 0 mFi_17 mWi_23 mSi_19 mRo_20))) ∧
   (¬ a3 ≤ 24 → wp_X9_found mFi_17 (-1) (fun (r_26 : Int32) (mFi_27 : Int32) => Qp r_26 mFi_27 mWi_18 mSi_19 mRo_20)))) ∧
   (¬ 0 ≤ a3 → wp_X9_found mFi_17 (-3) (fun (r_28 : Int32) (mFi_29 : Int32) => Qp r_28 mFi_29 mWi_18 mSi_19 mRo_20)))
def wp_X9_board_b23 (Qp : Int32 → (Int32) → (Nat → Int32) → (Nat → Int32) → (Nat → Int64) → Prop) (mFi_30 : Int32) (mWi_31 : Nat → Int32) (mSi_32 : Nat → Int32) (mRo_33 : Nat → Int64) : Prop :=
  wp_X9_found mFi_30 (-1) (fun (r_34 : Int32) (mFi_35 : Int32) => Qp r_34 mFi_35 mWi_31 mSi_32 mRo_33)
def wp_X9_board (mFi : Int32) (mWi : Nat → Int32) (mSi : Nat → Int32) (mRo : Nat → Int64) (a1 : Int32) (a2 : Int32) (a3 : Int32) (Qp : Int32 → (Int32) → (Nat → Int32) → (Nat → Int32) → (Nat → Int64) → Prop) : Prop :=
  wp_X9_isBoard a1 (fun (r_36 : Int32) => ((r_36 = 0 → wp_X9_board_b23 Qp mFi mWi mSi mRo) ∧
   (¬ r_36 = 0 → ((a2 = 0 → wp_X9_board_b29 Qp a1 a2 a3 mFi mWi mSi mRo) ∧
   (¬ a2 = 0 → ((a2 = 32 → wp_X9_board_b29 Qp a1 a2 a3 mFi mWi mSi mRo) ∧
   (¬ a2 = 32 → ((a2 = 64 → wp_X9_board_b29 Qp a1 a2 a3 mFi mWi mSi mRo) ∧
   (¬ a2 = 64 → wp_X9_board_b23 Qp mFi mWi mSi mRo)))))))))
theorem inn_X9_board_9 : ∀ w ∈ u_ws RX9 TX9 32, w ∈ wsX9_board := fun _ h => List.mem_cons_of_mem _ (List.mem_append_right _ h)
def rm_X9_board : Room := { frames := 2, cells := 0, slots := 0, locals := 45 }
set_option maxHeartbeats 4000000 in
set_option maxRecDepth 100000 in
theorem ct_X9_board {l : Launch} {D : va_G} {cI cJ cZ cE cD cK : ClassId} {ad : Nat → Nat} {ud : Nat → Nat → Nat} {pT : Int32} {pK : Nat → Int32} {pN : Nat → Int32} {pF : Nat → Int32} {pS : Nat → Int32} {qT : Int32} {qK : Nat → Int32} {qN : Nat → Int32} {qF : Nat → Int32} {qS : Nat → Int32} {mKe : Int32} {mUn : Int32} {mFi : Int32} {mRi : Int32} {mBe : Int64} {mWc : Int32} {mAK : Int32} {mSh : Int32} {mIP : Int32} {mUS : Nat → Int32} {mWa : Nat → Int32} {mWi : Nat → Int32} {mSi : Nat → Int32} {mRo : Nat → Int64} {mSp : Nat → Int64} {mRw : Nat → Int32} {mSn : Nat → Int32} {mBg : Nat → Int32} {mLa : Nat → Int32} {mMo : Nat → Int32} {mRm : Nat → Int64} {mOw : Nat → Int64} {mGo : Nat → Int32} {mFr : Nat → Int32} {mQu : Nat → Int32} {mCh : Nat → Int64} {mPB : Nat → Int32} {mPS : Nat → Int32} {mFs : Nat → Int32} {ub : Nat → Nat} {uT : Nat → Int32} {uK : Nat → Nat → Int32} {uN : Nat → Nat → Int32} {uF : Nat → Nat → Int32} {uS : Nat → Nat → Int32}   {a1 : Int32} {a2 : Int32} {a3 : Int32} {Qp : Int32 → (Int32) → (Nat → Int32) → (Nat → Int32) → (Nat → Int64) → Prop}   (h : wp_X9_board mFi mWi mSi mRo a1 a2 a3 Qp) : CTi l yX9_board wsX9_board rm_X9_board D (tyL cI cJ cZ cE cD cK) [.ref (ad 0), .int a1, .int a2, .int a3] (WM cI cJ cZ cK ad ud pT pK pN pF pS qT qK qN qF qS mKe mUn mFi mRi mBe mWc mAK mSh mIP mUS mWa mWi mSi mRo mSp mRw mSn mBg mLa mMo mRm mOw mGo mFr mQu mCh mPB mPS mFs ub uT uK uN uF uS) (fun (r : Int32) (u : (Int32) × (Nat → Int32) × (Nat → Int32) × (Nat → Int64)) => Qp r u.1 u.2.1 u.2.2.1 u.2.2.2) (fun u : (Int32) × (Nat → Int32) × (Nat → Int32) × (Nat → Int64) => (WM cI cJ cZ cK ad ud pT pK pN pF pS qT qK qN qF qS mKe mUn u.1 mRi mBe mWc mAK mSh mIP mUS mWa u.2.1 u.2.2.1 u.2.2.2 mSp mRw mSn mBg mLa mMo mRm mOw mGo mFr mQu mCh mPB mPS mFs ub uT uK uN uF uS)) 0 0 := by
  refine ent_i (cc := cX9_board) (maxL := 5) (ret := (some .int)) (by decide) rfl (Nat.le_of_ble_eq_true rfl) ?_
  intro p e s m args below meth c A Q hQ hx hb hr hml hown hts hlk hA hAB hP hD hS ls hl
  have hown : s.vm.findClass RX9 = some m.cls := hown
  have hl : lv_has ls 5 [(0, .ref (ad 0)), (1, .int a1), (2, .int a2), (3, .int a3)] := hl
  generalize hH : s.heap = H at hP ⊢
  have hS : va_S A s.heap H [] := by rw [← hH]; exact hS
  clear hH
  generalize ([] : List Loc) = locs at hS ⊢
  have B73 : ∀ (y_1 : Int32) (y_2 : Int32) (mFi_3 : Int32) (mWi_4 : Nat → Int32) (mSi_5 : Nat → Int32) (mRo_6 : Nat → Int64), wp_X9_board_b73 Qp a1 y_1 y_2 mFi_3 mWi_4 mSi_5 mRo_6 → ∀ (H : Heap) (locs : List Loc) (ls : Array Slot), va_P D vwCl (WM cI cJ cZ cK ad ud pT pK pN pF pS qT qK qN qF qS mKe mUn mFi_3 mRi mBe mWc mAK mSh mIP mUS mWa mWi_4 mSi_5 mRo_6 mSp mRw mSn mBg mLa mMo mRm mOw mGo mFr mQu mCh mPB mPS mFs ub uT uK uN uF uS) H → va_D A (WM cI cJ cZ cK ad ud pT pK pN pF pS qT qK qN qF qS mKe mUn mFi_3 mRi mBe mWc mAK mSh mIP mUS mWa mWi_4 mSi_5 mRo_6 mSp mRw mSn mBg mLa mMo mRm mOw mGo mFr mQu mCh mPB mPS mFs ub uT uK uN uF uS) → va_S A s.heap H locs → lv_has ls 5 [(0, .ref (ad 0)), (1, .int a1)] → W p l e (headSpec wsX9_board rm_X9_board).room s m args below meth c H locs 0 0 Q (F0 m 73 ls [.int y_2, .int y_1, .ref (ad 15)]) := by
    intro y_1 y_2 mFi_3 mWi_4 mSi_5 mRo_6 h H locs ls hP hD hS hl
    refine sM_15 hx hb hAB hP hD hS h.1 dX9_board_73 (fun mSi_7 H locs e_8 hP hD hS => ?_)
    have h := h.2
    have h := h mSi_7 e_8
    refine lv_iconst (v := 0) hx hb dX9_board_74 (by decide) ?_
    refine lv_istore (lv' := [(4, .int 0), (0, .ref (ad 0)), (1, .int a1)]) hx hb dX9_board_75 hl (by decide) rfl (fun ls hl => ?_)
    have L77 : ∀ (x77 : (Nat → Int64) → Prop) (hk77 : ∀ (mRo_11 : Nat → Int64), x77 mRo_11 → ∀ (H : Heap) (locs : List Loc) (ls : Array Slot), va_P D vwCl (WM cI cJ cZ cK ad ud pT pK pN pF pS qT qK qN qF qS mKe mUn mFi_3 mRi mBe mWc mAK mSh mIP mUS mWa mWi_4 mSi_7 mRo_11 mSp mRw mSn mBg mLa mMo mRm mOw mGo mFr mQu mCh mPB mPS mFs ub uT uK uN uF uS) H → va_D A (WM cI cJ cZ cK ad ud pT pK pN pF pS qT qK qN qF qS mKe mUn mFi_3 mRi mBe mWc mAK mSh mIP mUS mWa mWi_4 mSi_7 mRo_11 mSp mRw mSn mBg mLa mMo mRm mOw mGo mFr mQu mCh mPB mPS mFs ub uT uK uN uF uS) → va_S A s.heap H locs → lv_has ls 5 [(0, .ref (ad 0)), (1, .int a1)] → W p l e (headSpec wsX9_board rm_X9_board).room s m args below meth c H locs 0 0 Q (F0 m 103 ls [])) (n77 : Nat) (x4_9 : Int32) (mRo_10 : Nat → Int64), wp_X9_board_L77 a1 x77 n77 x4_9 mRo_10 → ∀ (H : Heap) (locs : List Loc) (ls : Array Slot), va_P D vwCl (WM cI cJ cZ cK ad ud pT pK pN pF pS qT qK qN qF qS mKe mUn mFi_3 mRi mBe mWc mAK mSh mIP mUS mWa mWi_4 mSi_7 mRo_10 mSp mRw mSn mBg mLa mMo mRm mOw mGo mFr mQu mCh mPB mPS mFs ub uT uK uN uF uS) H → va_D A (WM cI cJ cZ cK ad ud pT pK pN pF pS qT qK qN qF qS mKe mUn mFi_3 mRi mBe mWc mAK mSh mIP mUS mWa mWi_4 mSi_7 mRo_10 mSp mRw mSn mBg mLa mMo mRm mOw mGo mFr mQu mCh mPB mPS mFs ub uT uK uN uF uS) → va_S A s.heap H locs → lv_has ls 5 [(0, .ref (ad 0)), (1, .int a1), (4, .int x4_9)] → W p l e (headSpec wsX9_board rm_X9_board).room s m args below meth c H locs 0 0 Q (F0 m 77 ls []) := by
      intro x77 hk77 n77
      induction n77 with
      | zero => intro x4_9 mRo_10 h; exact False.elim h
      | succ n77 ih77 =>
        intro x4_9 mRo_10 h H locs ls hP hD hS hl
        refine lv_iload hx hb dX9_board_77 (lv_at hl 2 rfl) ?_
        refine lv_bipush (v := 24) hx hb dX9_board_79 (by decide) ?_
        refine lv_icmp_ge (tgt := 103) hx hb dX9_board_81 (by decide) (fun c_12 => ?_) (fun c_12 => ?_)
        · have h := h.1 c_12
          exact hk77 mRo_10 h H locs ls hP hD hS (lv_sub hl [0, 1] rfl)
        · have h := h.2 c_12
          refine lv_aload_n hx hb dX9_board_84 rfl (lv_at hl 0 rfl) ?_
          refine va_get (D := D) (ci := 9) (C := RX9) (T := TX9) (N := 32) hx hb hts inn_X9_board_9 hown hAB.1 hP 0 rfl rfl 13 (by decide) (hts (.fieldLink RX9 41 "BarnBenchModel" "rows" "[J") (by decide +kernel)) (fun _ h9 => h9) rfl dX9_board_85 ?_
          refine lv_bipush (v := 24) hx hb dX9_board_88 (by decide) ?_
          refine lv_iload_n hx hb dX9_board_90 rfl (lv_at hl 1 rfl) ?_
          refine lv_imul hx hb dX9_board_91 ?_
          refine lv_iload hx hb dX9_board_92 (lv_at hl 2 rfl) ?_
          refine lv_iadd hx hb dX9_board_94 ?_
          refine lv_lconst (v := 0) hx hb dX9_board_95 (by decide) ?_
          refine sM_16 hx hb hAB hP hD hS h.1 dX9_board_96 (fun mRo_13 H locs e_14 hP hD hS => ?_)
          have h := h.2
          have h := h mRo_13 e_14
          obtain ⟨x4_15, e_16⟩ : ∃ y : Int32, y = x4_9 + 1 := ⟨_, rfl⟩
          have h := h x4_15 e_16
          refine lv_iinc (v := x4_15) (lv' := [(4, .int x4_15), (0, .ref (ad 0)), (1, .int a1)]) hx hb dX9_board_97 hl (k := 2) rfl (by rw [e_16]; rfl) (by decide) rfl (fun ls hl => ?_)
          refine lv_goto (tgt := 77) hx hb dX9_board_100 (by decide) ?_
          exact ih77 x4_15 mRo_13 h H locs ls hP hD hS (lv_sub hl [1, 2, 0] rfl)
    obtain ⟨n77, h⟩ := h
    refine L77 _ (fun mRo_11 h H locs ls hP hD hS hl => ?_) n77 0 mRo_6 h H locs ls hP hD hS (lv_sub hl [1, 2, 0] rfl)
    refine lv_aload_n hx hb dX9_board_103 rfl (lv_at hl 0 rfl) ?_
    refine va_get (D := D) (ci := 9) (C := RX9) (T := TX9) (N := 32) hx hb hts inn_X9_board_9 hown hAB.1 hP 0 rfl rfl 12 (by decide) (hts (.fieldLink RX9 38 "BarnBenchModel" "size" "[I") (by decide +kernel)) (fun _ h9 => h9) rfl dX9_board_104 ?_
    refine lv_iload_n hx hb dX9_board_107 rfl (lv_at hl 1 rfl) ?_
    refine va_iald hx hb hAB.1 hP 15 0 rfl rfl h.1 dX9_board_108 ?_
    have h := h.2
    exact rt_i (mFi_3, mWi_4, mSi_7, mRo_11) hQ hx hb hr hlk hP hD hS ⟨Nat.zero_le _, Nat.zero_le _⟩ dX9_board_109 h
  have B29 : ∀ (mFi_17 : Int32) (mWi_18 : Nat → Int32) (mSi_19 : Nat → Int32) (mRo_20 : Nat → Int64), wp_X9_board_b29 Qp a1 a2 a3 mFi_17 mWi_18 mSi_19 mRo_20 → ∀ (H : Heap) (locs : List Loc) (ls : Array Slot), va_P D vwCl (WM cI cJ cZ cK ad ud pT pK pN pF pS qT qK qN qF qS mKe mUn mFi_17 mRi mBe mWc mAK mSh mIP mUS mWa mWi_18 mSi_19 mRo_20 mSp mRw mSn mBg mLa mMo mRm mOw mGo mFr mQu mCh mPB mPS mFs ub uT uK uN uF uS) H → va_D A (WM cI cJ cZ cK ad ud pT pK pN pF pS qT qK qN qF qS mKe mUn mFi_17 mRi mBe mWc mAK mSh mIP mUS mWa mWi_18 mSi_19 mRo_20 mSp mRw mSn mBg mLa mMo mRm mOw mGo mFr mQu mCh mPB mPS mFs ub uT uK uN uF uS) → va_S A s.heap H locs → lv_has ls 5 [(0, .ref (ad 0)), (1, .int a1), (2, .int a2), (3, .int a3)] → W p l e (headSpec wsX9_board rm_X9_board).room s m args below meth c H locs 0 0 Q (F0 m 29 ls []) := by
    intro mFi_17 mWi_18 mSi_19 mRo_20 h H locs ls hP hD hS hl
    refine lv_iload_n hx hb dX9_board_29 rfl (lv_at hl 3 rfl) ?_
    refine lv_if_ge (tgt := 40) hx hb dX9_board_30 (by decide) (fun c_21 => ?_) (fun c_21 => ?_)
    · have h := h.1 c_21
      refine lv_iload_n hx hb dX9_board_40 rfl (lv_at hl 3 rfl) ?_
      refine lv_bipush (v := 24) hx hb dX9_board_41 (by decide) ?_
      refine lv_icmp_le (tgt := 52) hx hb dX9_board_43 (by decide) (fun c_22 => ?_) (fun c_22 => ?_)
      · have h := h.1 c_22
        refine lv_aload_n hx hb dX9_board_52 rfl (lv_at hl 0 rfl) ?_
        refine va_get (D := D) (ci := 9) (C := RX9) (T := TX9) (N := 32) hx hb hts inn_X9_board_9 hown hAB.1 hP 0 rfl rfl 11 (by decide) (hts (.fieldLink RX9 35 "BarnBenchModel" "wide" "[I") (by decide +kernel)) (fun _ h9 => h9) rfl dX9_board_53 ?_
        refine lv_iload_n hx hb dX9_board_56 rfl (lv_at hl 1 rfl) ?_
        refine lv_iload_n hx hb dX9_board_57 rfl (lv_at hl 2 rfl) ?_
        refine sM_14 hx hb hAB hP hD hS h.1 dX9_board_58 (fun mWi_23 H locs e_24 hP hD hS => ?_)
        have h := h.2
        have h := h mWi_23 e_24
        refine lv_aload_n hx hb dX9_board_59 rfl (lv_at hl 0 rfl) ?_
        refine va_get (D := D) (ci := 9) (C := RX9) (T := TX9) (N := 32) hx hb hts inn_X9_board_9 hown hAB.1 hP 0 rfl rfl 12 (by decide) (hts (.fieldLink RX9 38 "BarnBenchModel" "size" "[I") (by decide +kernel)) (fun _ h9 => h9) rfl dX9_board_60 ?_
        refine lv_iload_n hx hb dX9_board_63 rfl (lv_at hl 1 rfl) ?_
        refine lv_iload_n hx hb dX9_board_64 rfl (lv_at hl 2 rfl) ?_
        refine lv_if_ne (tgt := 72) hx hb dX9_board_65 (by decide) (fun c_25 => ?_) (fun c_25 => ?_)
        · have h := h.1 c_25
          refine lv_iload_n hx hb dX9_board_72 rfl (lv_at hl 3 rfl) ?_
          exact B73 a1 a3 mFi_17 mWi_23 mSi_19 mRo_20 h H locs ls hP hD hS (lv_sub hl [0, 1] rfl)
        · have h := h.2 c_25
          refine lv_iconst (v := 0) hx hb dX9_board_68 (by decide) ?_
          refine lv_goto (tgt := 73) hx hb dX9_board_69 (by decide) ?_
          exact B73 a1 0 mFi_17 mWi_23 mSi_19 mRo_20 h H locs ls hP hD hS (lv_sub hl [0, 1] rfl)
      · have h := h.2 c_22
        refine lv_aload_n hx hb dX9_board_46 rfl (lv_at hl 0 rfl) ?_
        refine lv_iconst (v := (-1)) hx hb dX9_board_47 (by decide) ?_
        refine cl_i hD hS hA (va_runV (As := [.int (-1)]) (rest := []) ⟨hx, hb, hml, hown, hts⟩ (ct_X9_found h H.size) (cwV 1 hts gX9_board_X9_found rfl rfl rfl (by decide +kernel) ⟨Nat.le_of_ble_eq_true rfl, Nat.le_of_ble_eq_true rfl⟩) ⟨CPre.blind, va_recv hAB.1 hP (ci := 9) (q0 := 0) rfl rfl, wd_pre hAB hP hD hS hA⟩ rfl rfl hl.1 rfl (lv_room (Nat.le_of_ble_eq_true rfl)) dX9_board_48 ⟨Nat.zero_le _, Nat.zero_le _⟩) (fun r_26 mFi_27 H locs h hP hD hS => ?_)
        have hP : va_P D vwCl (WM cI cJ cZ cK ad ud pT pK pN pF pS qT qK qN qF qS mKe mUn mFi_27 mRi mBe mWc mAK mSh mIP mUS mWa mWi_18 mSi_19 mRo_20 mSp mRw mSn mBg mLa mMo mRm mOw mGo mFr mQu mCh mPB mPS mFs ub uT uK uN uF uS) H := hP
        have hD : va_D A (WM cI cJ cZ cK ad ud pT pK pN pF pS qT qK qN qF qS mKe mUn mFi_27 mRi mBe mWc mAK mSh mIP mUS mWa mWi_18 mSi_19 mRo_20 mSp mRw mSn mBg mLa mMo mRm mOw mGo mFr mQu mCh mPB mPS mFs ub uT uK uN uF uS) := hD
        exact rt_i (mFi_27, mWi_18, mSi_19, mRo_20) hQ hx hb hr hlk hP hD hS ⟨Nat.zero_le _, Nat.zero_le _⟩ dX9_board_51 h
    · have h := h.2 c_21
      refine lv_aload_n hx hb dX9_board_33 rfl (lv_at hl 0 rfl) ?_
      refine lv_bipush (v := (-3)) hx hb dX9_board_34 (by decide) ?_
      refine cl_i hD hS hA (va_runV (As := [.int (-3)]) (rest := []) ⟨hx, hb, hml, hown, hts⟩ (ct_X9_found h H.size) (cwV 1 hts gX9_board_X9_found rfl rfl rfl (by decide +kernel) ⟨Nat.le_of_ble_eq_true rfl, Nat.le_of_ble_eq_true rfl⟩) ⟨CPre.blind, va_recv hAB.1 hP (ci := 9) (q0 := 0) rfl rfl, wd_pre hAB hP hD hS hA⟩ rfl rfl hl.1 rfl (lv_room (Nat.le_of_ble_eq_true rfl)) dX9_board_36 ⟨Nat.zero_le _, Nat.zero_le _⟩) (fun r_28 mFi_29 H locs h hP hD hS => ?_)
      have hP : va_P D vwCl (WM cI cJ cZ cK ad ud pT pK pN pF pS qT qK qN qF qS mKe mUn mFi_29 mRi mBe mWc mAK mSh mIP mUS mWa mWi_18 mSi_19 mRo_20 mSp mRw mSn mBg mLa mMo mRm mOw mGo mFr mQu mCh mPB mPS mFs ub uT uK uN uF uS) H := hP
      have hD : va_D A (WM cI cJ cZ cK ad ud pT pK pN pF pS qT qK qN qF qS mKe mUn mFi_29 mRi mBe mWc mAK mSh mIP mUS mWa mWi_18 mSi_19 mRo_20 mSp mRw mSn mBg mLa mMo mRm mOw mGo mFr mQu mCh mPB mPS mFs ub uT uK uN uF uS) := hD
      exact rt_i (mFi_29, mWi_18, mSi_19, mRo_20) hQ hx hb hr hlk hP hD hS ⟨Nat.zero_le _, Nat.zero_le _⟩ dX9_board_39 h
  have B23 : ∀ (mFi_30 : Int32) (mWi_31 : Nat → Int32) (mSi_32 : Nat → Int32) (mRo_33 : Nat → Int64), wp_X9_board_b23 Qp mFi_30 mWi_31 mSi_32 mRo_33 → ∀ (H : Heap) (locs : List Loc) (ls : Array Slot), va_P D vwCl (WM cI cJ cZ cK ad ud pT pK pN pF pS qT qK qN qF qS mKe mUn mFi_30 mRi mBe mWc mAK mSh mIP mUS mWa mWi_31 mSi_32 mRo_33 mSp mRw mSn mBg mLa mMo mRm mOw mGo mFr mQu mCh mPB mPS mFs ub uT uK uN uF uS) H → va_D A (WM cI cJ cZ cK ad ud pT pK pN pF pS qT qK qN qF qS mKe mUn mFi_30 mRi mBe mWc mAK mSh mIP mUS mWa mWi_31 mSi_32 mRo_33 mSp mRw mSn mBg mLa mMo mRm mOw mGo mFr mQu mCh mPB mPS mFs ub uT uK uN uF uS) → va_S A s.heap H locs → lv_has ls 5 [(0, .ref (ad 0))] → W p l e (headSpec wsX9_board rm_X9_board).room s m args below meth c H locs 0 0 Q (F0 m 23 ls []) := by
    intro mFi_30 mWi_31 mSi_32 mRo_33 h H locs ls hP hD hS hl
    refine lv_aload_n hx hb dX9_board_23 rfl (lv_at hl 0 rfl) ?_
    refine lv_iconst (v := (-1)) hx hb dX9_board_24 (by decide) ?_
    refine cl_i hD hS hA (va_runV (As := [.int (-1)]) (rest := []) ⟨hx, hb, hml, hown, hts⟩ (ct_X9_found h H.size) (cwV 1 hts gX9_board_X9_found rfl rfl rfl (by decide +kernel) ⟨Nat.le_of_ble_eq_true rfl, Nat.le_of_ble_eq_true rfl⟩) ⟨CPre.blind, va_recv hAB.1 hP (ci := 9) (q0 := 0) rfl rfl, wd_pre hAB hP hD hS hA⟩ rfl rfl hl.1 rfl (lv_room (Nat.le_of_ble_eq_true rfl)) dX9_board_25 ⟨Nat.zero_le _, Nat.zero_le _⟩) (fun r_34 mFi_35 H locs h hP hD hS => ?_)
    have hP : va_P D vwCl (WM cI cJ cZ cK ad ud pT pK pN pF pS qT qK qN qF qS mKe mUn mFi_35 mRi mBe mWc mAK mSh mIP mUS mWa mWi_31 mSi_32 mRo_33 mSp mRw mSn mBg mLa mMo mRm mOw mGo mFr mQu mCh mPB mPS mFs ub uT uK uN uF uS) H := hP
    have hD : va_D A (WM cI cJ cZ cK ad ud pT pK pN pF pS qT qK qN qF qS mKe mUn mFi_35 mRi mBe mWc mAK mSh mIP mUS mWa mWi_31 mSi_32 mRo_33 mSp mRw mSn mBg mLa mMo mRm mOw mGo mFr mQu mCh mPB mPS mFs ub uT uK uN uF uS) := hD
    exact rt_i (mFi_35, mWi_31, mSi_32, mRo_33) hQ hx hb hr hlk hP hD hS ⟨Nat.zero_le _, Nat.zero_le _⟩ dX9_board_28 h
  refine lv_iload_n hx hb dX9_board_0 rfl (lv_at hl 1 rfl) ?_
  refine cl_i hD hS hA (va_runS (As := [.int a1]) (rest := []) ⟨hx, hb, hml, hown, hts⟩ (ct_X9_isBoard h H.size) (va_cwS 1 hts gX9_board_X9_isBoard rfl rfl rfl (by decide +kernel) ⟨Nat.le_of_ble_eq_true rfl, Nat.le_of_ble_eq_true rfl⟩) ⟨CPre.blind, wd_pre hAB hP hD hS hA⟩ rfl rfl hl.1 rfl (lv_room (Nat.le_of_ble_eq_true rfl)) dX9_board_1 ⟨Nat.zero_le _, Nat.zero_le _⟩) (fun r_36 u H locs h hP hD hS => ?_)
  refine lv_if_eq (tgt := 23) hx hb dX9_board_4 (by decide) (fun c_37 => ?_) (fun c_37 => ?_)
  · have h := h.1 c_37
    exact B23 mFi mWi mSi mRo h H locs ls hP hD hS (lv_sub hl [0] rfl)
  · have h := h.2 c_37
    refine lv_iload_n hx hb dX9_board_7 rfl (lv_at hl 2 rfl) ?_
    refine lv_if_eq (tgt := 29) hx hb dX9_board_8 (by decide) (fun c_38 => ?_) (fun c_38 => ?_)
    · have h := h.1 c_38
      exact B29 mFi mWi mSi mRo h H locs ls hP hD hS (lv_sub hl [0, 1, 2, 3] rfl)
    · have h := h.2 c_38
      refine lv_iload_n hx hb dX9_board_11 rfl (lv_at hl 2 rfl) ?_
      refine lv_bipush (v := 32) hx hb dX9_board_12 (by decide) ?_
      refine lv_icmp_eq (tgt := 29) hx hb dX9_board_14 (by decide) (fun c_39 => ?_) (fun c_39 => ?_)
      · have h := h.1 c_39
        exact B29 mFi mWi mSi mRo h H locs ls hP hD hS (lv_sub hl [0, 1, 2, 3] rfl)
      · have h := h.2 c_39
        refine lv_iload_n hx hb dX9_board_17 rfl (lv_at hl 2 rfl) ?_
        refine lv_bipush (v := 64) hx hb dX9_board_18 (by decide) ?_
        refine lv_icmp_eq (tgt := 29) hx hb dX9_board_20 (by decide) (fun c_40 => ?_) (fun c_40 => ?_)
        · have h := h.1 c_40
          exact B29 mFi mWi mSi mRo h H locs ls hP hD hS (lv_sub hl [0, 1, 2, 3] rfl)
        · have h := h.2 c_40
          exact B23 mFi mWi mSi mRo h H locs ls hP hD hS (lv_sub hl [0] rfl)
def wp_X9_put (mFi : Int32) (mWi : Nat → Int32) (mSi : Nat → Int32) (mRo : Nat → Int64) (a1 : Int32) (a2 : Int32) (a3 : Int64) (Qp : Int32 → (Int32) → (Nat → Int64) → Prop) : Prop :=
  wp_X9_isBoard a1 (fun (r_1 : Int32) => ((¬ r_1 = 0 → vp_in a1 4 ∧ ((¬ (mWi (Int32.toNatClampNeg a1)) = 0 → vp_in a1 4 ∧ wp_X9_in (Int32.toInt64 a2) 0 (Int32.toInt64 ((mSi (Int32.toNatClampNeg a1)) - 1)) (fun (r_4 : Int32) => ((¬ r_4 = 0 → vp_in a1 4 ∧ vp_in a1 4 ∧ vp_in ((24 * a1) + a2) 96 ∧ ∀ mRo_6 : Nat → Int64, mRo_6 = vp_updL mRo (Int32.toNatClampNeg ((24 * a1) + a2)) ((a3 <<< (Int32.toInt64 (64 - (mWi (Int32.toNatClampNeg a1))) &&& 63)) >>> (Int32.toInt64 (64 - (mWi (Int32.toNatClampNeg a1))) &&& 63)) → Qp 0 mFi mRo_6) ∧
   (r_4 = 0 → wp_X9_found mFi (-1) (fun (r_8 : Int32) (mFi_9 : Int32) => Qp r_8 mFi_9 mRo))))) ∧
   ((mWi (Int32.toNatClampNeg a1)) = 0 → wp_X9_found mFi (-2) (fun (r_10 : Int32) (mFi_11 : Int32) => Qp r_10 mFi_11 mRo)))) ∧
   (r_1 = 0 → wp_X9_found mFi (-1) (fun (r_12 : Int32) (mFi_13 : Int32) => Qp r_12 mFi_13 mRo))))
theorem inn_X9_put_9 : ∀ w ∈ u_ws RX9 TX9 32, w ∈ wsX9_put := fun _ h => List.mem_cons_of_mem _ (List.mem_append_right _ h)
def rm_X9_put : Room := { frames := 2, cells := 0, slots := 0, locals := 45 }
set_option maxHeartbeats 4000000 in
set_option maxRecDepth 100000 in
theorem ct_X9_put {l : Launch} {D : va_G} {cI cJ cZ cE cD cK : ClassId} {ad : Nat → Nat} {ud : Nat → Nat → Nat} {pT : Int32} {pK : Nat → Int32} {pN : Nat → Int32} {pF : Nat → Int32} {pS : Nat → Int32} {qT : Int32} {qK : Nat → Int32} {qN : Nat → Int32} {qF : Nat → Int32} {qS : Nat → Int32} {mKe : Int32} {mUn : Int32} {mFi : Int32} {mRi : Int32} {mBe : Int64} {mWc : Int32} {mAK : Int32} {mSh : Int32} {mIP : Int32} {mUS : Nat → Int32} {mWa : Nat → Int32} {mWi : Nat → Int32} {mSi : Nat → Int32} {mRo : Nat → Int64} {mSp : Nat → Int64} {mRw : Nat → Int32} {mSn : Nat → Int32} {mBg : Nat → Int32} {mLa : Nat → Int32} {mMo : Nat → Int32} {mRm : Nat → Int64} {mOw : Nat → Int64} {mGo : Nat → Int32} {mFr : Nat → Int32} {mQu : Nat → Int32} {mCh : Nat → Int64} {mPB : Nat → Int32} {mPS : Nat → Int32} {mFs : Nat → Int32} {ub : Nat → Nat} {uT : Nat → Int32} {uK : Nat → Nat → Int32} {uN : Nat → Nat → Int32} {uF : Nat → Nat → Int32} {uS : Nat → Nat → Int32}   {a1 : Int32} {a2 : Int32} {a3 : Int64} {Qp : Int32 → (Int32) → (Nat → Int64) → Prop}   (h : wp_X9_put mFi mWi mSi mRo a1 a2 a3 Qp) : CTi l yX9_put wsX9_put rm_X9_put D (tyL cI cJ cZ cE cD cK) [.ref (ad 0), .int a1, .int a2, .long a3] (WM cI cJ cZ cK ad ud pT pK pN pF pS qT qK qN qF qS mKe mUn mFi mRi mBe mWc mAK mSh mIP mUS mWa mWi mSi mRo mSp mRw mSn mBg mLa mMo mRm mOw mGo mFr mQu mCh mPB mPS mFs ub uT uK uN uF uS) (fun (r : Int32) (u : (Int32) × (Nat → Int64)) => Qp r u.1 u.2) (fun u : (Int32) × (Nat → Int64) => (WM cI cJ cZ cK ad ud pT pK pN pF pS qT qK qN qF qS mKe mUn u.1 mRi mBe mWc mAK mSh mIP mUS mWa mWi mSi u.2 mSp mRw mSn mBg mLa mMo mRm mOw mGo mFr mQu mCh mPB mPS mFs ub uT uK uN uF uS)) 0 0 := by
  refine ent_i (cc := cX9_put) (maxL := 5) (ret := (some .int)) (by decide) rfl (Nat.le_of_ble_eq_true rfl) ?_
  intro p e s m args below meth c A Q hQ hx hb hr hml hown hts hlk hA hAB hP hD hS ls hl
  have hown : s.vm.findClass RX9 = some m.cls := hown
  have hl : lv_has ls 5 [(0, .ref (ad 0)), (1, .int a1), (2, .int a2), (3, .long a3)] := hl
  generalize hH : s.heap = H at hP ⊢
  have hS : va_S A s.heap H [] := by rw [← hH]; exact hS
  clear hH
  generalize ([] : List Loc) = locs at hS ⊢
  refine lv_iload_n hx hb dX9_put_0 rfl (lv_at hl 1 rfl) ?_
  refine cl_i hD hS hA (va_runS (As := [.int a1]) (rest := []) ⟨hx, hb, hml, hown, hts⟩ (ct_X9_isBoard h H.size) (va_cwS 1 hts gX9_put_X9_isBoard rfl rfl rfl (by decide +kernel) ⟨Nat.le_of_ble_eq_true rfl, Nat.le_of_ble_eq_true rfl⟩) ⟨CPre.blind, wd_pre hAB hP hD hS hA⟩ rfl rfl hl.1 rfl (lv_room (Nat.le_of_ble_eq_true rfl)) dX9_put_1 ⟨Nat.zero_le _, Nat.zero_le _⟩) (fun r_1 u H locs h hP hD hS => ?_)
  refine lv_if_ne (tgt := 13) hx hb dX9_put_4 (by decide) (fun c_2 => ?_) (fun c_2 => ?_)
  · have h := h.1 c_2
    refine lv_aload_n hx hb dX9_put_13 rfl (lv_at hl 0 rfl) ?_
    refine va_get (D := D) (ci := 9) (C := RX9) (T := TX9) (N := 32) hx hb hts inn_X9_put_9 hown hAB.1 hP 0 rfl rfl 11 (by decide) (hts (.fieldLink RX9 35 "BarnBenchModel" "wide" "[I") (by decide +kernel)) (fun _ h9 => h9) rfl dX9_put_14 ?_
    refine lv_iload_n hx hb dX9_put_17 rfl (lv_at hl 1 rfl) ?_
    refine va_iald hx hb hAB.1 hP 14 0 rfl rfl h.1 dX9_put_18 ?_
    have h := h.2
    refine lv_if_ne (tgt := 29) hx hb dX9_put_19 (by decide) (fun c_3 => ?_) (fun c_3 => ?_)
    · have h := h.1 c_3
      refine lv_iload_n hx hb dX9_put_29 rfl (lv_at hl 2 rfl) ?_
      refine lv_i2l hx hb dX9_put_30 rfl ?_
      refine lv_lconst (v := 0) hx hb dX9_put_31 (by decide) ?_
      refine lv_aload_n hx hb dX9_put_32 rfl (lv_at hl 0 rfl) ?_
      refine va_get (D := D) (ci := 9) (C := RX9) (T := TX9) (N := 32) hx hb hts inn_X9_put_9 hown hAB.1 hP 0 rfl rfl 12 (by decide) (hts (.fieldLink RX9 38 "BarnBenchModel" "size" "[I") (by decide +kernel)) (fun _ h9 => h9) rfl dX9_put_33 ?_
      refine lv_iload_n hx hb dX9_put_36 rfl (lv_at hl 1 rfl) ?_
      refine va_iald hx hb hAB.1 hP 15 0 rfl rfl h.1 dX9_put_37 ?_
      have h := h.2
      refine lv_iconst (v := 1) hx hb dX9_put_38 (by decide) ?_
      refine lv_isub hx hb dX9_put_39 ?_
      refine lv_i2l hx hb dX9_put_40 rfl ?_
      refine cl_i hD hS hA (va_runS (As := [.long (Int32.toInt64 a2), .long 0, .long (Int32.toInt64 ((mSi (Int32.toNatClampNeg a1)) - 1))]) (rest := []) ⟨hx, hb, hml, hown, hts⟩ (ct_X9_in h H.size) (va_cwS 3 hts gX9_put_X9_in rfl rfl rfl (by decide +kernel) ⟨Nat.le_of_ble_eq_true rfl, Nat.le_of_ble_eq_true rfl⟩) ⟨CPre.blind, wd_pre hAB hP hD hS hA⟩ rfl rfl hl.1 rfl (lv_room (Nat.le_of_ble_eq_true rfl)) dX9_put_41 ⟨Nat.zero_le _, Nat.zero_le _⟩) (fun r_4 u H locs h hP hD hS => ?_)
      refine lv_if_ne (tgt := 53) hx hb dX9_put_44 (by decide) (fun c_5 => ?_) (fun c_5 => ?_)
      · have h := h.1 c_5
        refine lv_aload_n hx hb dX9_put_53 rfl (lv_at hl 0 rfl) ?_
        refine va_get (D := D) (ci := 9) (C := RX9) (T := TX9) (N := 32) hx hb hts inn_X9_put_9 hown hAB.1 hP 0 rfl rfl 13 (by decide) (hts (.fieldLink RX9 41 "BarnBenchModel" "rows" "[J") (by decide +kernel)) (fun _ h9 => h9) rfl dX9_put_54 ?_
        refine lv_bipush (v := 24) hx hb dX9_put_57 (by decide) ?_
        refine lv_iload_n hx hb dX9_put_59 rfl (lv_at hl 1 rfl) ?_
        refine lv_imul hx hb dX9_put_60 ?_
        refine lv_iload_n hx hb dX9_put_61 rfl (lv_at hl 2 rfl) ?_
        refine lv_iadd hx hb dX9_put_62 ?_
        refine lv_lload_n hx hb dX9_put_63 rfl (lv_at hl 3 rfl) ?_
        refine lv_bipush (v := 64) hx hb dX9_put_64 (by decide) ?_
        refine lv_aload_n hx hb dX9_put_66 rfl (lv_at hl 0 rfl) ?_
        refine va_get (D := D) (ci := 9) (C := RX9) (T := TX9) (N := 32) hx hb hts inn_X9_put_9 hown hAB.1 hP 0 rfl rfl 11 (by decide) (hts (.fieldLink RX9 35 "BarnBenchModel" "wide" "[I") (by decide +kernel)) (fun _ h9 => h9) rfl dX9_put_67 ?_
        refine lv_iload_n hx hb dX9_put_70 rfl (lv_at hl 1 rfl) ?_
        refine va_iald hx hb hAB.1 hP 14 0 rfl rfl h.1 dX9_put_71 ?_
        have h := h.2
        refine lv_isub hx hb dX9_put_72 ?_
        refine lv_lshl hx hb dX9_put_73 rfl ?_
        refine lv_bipush (v := 64) hx hb dX9_put_74 (by decide) ?_
        refine lv_aload_n hx hb dX9_put_76 rfl (lv_at hl 0 rfl) ?_
        refine va_get (D := D) (ci := 9) (C := RX9) (T := TX9) (N := 32) hx hb hts inn_X9_put_9 hown hAB.1 hP 0 rfl rfl 11 (by decide) (hts (.fieldLink RX9 35 "BarnBenchModel" "wide" "[I") (by decide +kernel)) (fun _ h9 => h9) rfl dX9_put_77 ?_
        refine lv_iload_n hx hb dX9_put_80 rfl (lv_at hl 1 rfl) ?_
        refine va_iald hx hb hAB.1 hP 14 0 rfl rfl h.1 dX9_put_81 ?_
        have h := h.2
        refine lv_isub hx hb dX9_put_82 ?_
        refine lv_lshr hx hb dX9_put_83 rfl ?_
        refine sM_16 hx hb hAB hP hD hS h.1 dX9_put_84 (fun mRo_6 H locs e_7 hP hD hS => ?_)
        have h := h.2
        have h := h mRo_6 e_7
        refine lv_iconst (v := 0) hx hb dX9_put_85 (by decide) ?_
        exact rt_i (mFi, mRo_6) hQ hx hb hr hlk hP hD hS ⟨Nat.zero_le _, Nat.zero_le _⟩ dX9_put_86 h
      · have h := h.2 c_5
        refine lv_aload_n hx hb dX9_put_47 rfl (lv_at hl 0 rfl) ?_
        refine lv_iconst (v := (-1)) hx hb dX9_put_48 (by decide) ?_
        refine cl_i hD hS hA (va_runV (As := [.int (-1)]) (rest := []) ⟨hx, hb, hml, hown, hts⟩ (ct_X9_found h H.size) (cwV 1 hts gX9_put_X9_found rfl rfl rfl (by decide +kernel) ⟨Nat.le_of_ble_eq_true rfl, Nat.le_of_ble_eq_true rfl⟩) ⟨CPre.blind, va_recv hAB.1 hP (ci := 9) (q0 := 0) rfl rfl, wd_pre hAB hP hD hS hA⟩ rfl rfl hl.1 rfl (lv_room (Nat.le_of_ble_eq_true rfl)) dX9_put_49 ⟨Nat.zero_le _, Nat.zero_le _⟩) (fun r_8 mFi_9 H locs h hP hD hS => ?_)
        have hP : va_P D vwCl (WM cI cJ cZ cK ad ud pT pK pN pF pS qT qK qN qF qS mKe mUn mFi_9 mRi mBe mWc mAK mSh mIP mUS mWa mWi mSi mRo mSp mRw mSn mBg mLa mMo mRm mOw mGo mFr mQu mCh mPB mPS mFs ub uT uK uN uF uS) H := hP
        have hD : va_D A (WM cI cJ cZ cK ad ud pT pK pN pF pS qT qK qN qF qS mKe mUn mFi_9 mRi mBe mWc mAK mSh mIP mUS mWa mWi mSi mRo mSp mRw mSn mBg mLa mMo mRm mOw mGo mFr mQu mCh mPB mPS mFs ub uT uK uN uF uS) := hD
        exact rt_i (mFi_9, mRo) hQ hx hb hr hlk hP hD hS ⟨Nat.zero_le _, Nat.zero_le _⟩ dX9_put_52 h
    · have h := h.2 c_3
      refine lv_aload_n hx hb dX9_put_22 rfl (lv_at hl 0 rfl) ?_
      refine lv_bipush (v := (-2)) hx hb dX9_put_23 (by decide) ?_
      refine cl_i hD hS hA (va_runV (As := [.int (-2)]) (rest := []) ⟨hx, hb, hml, hown, hts⟩ (ct_X9_found h H.size) (cwV 1 hts gX9_put_X9_found rfl rfl rfl (by decide +kernel) ⟨Nat.le_of_ble_eq_true rfl, Nat.le_of_ble_eq_true rfl⟩) ⟨CPre.blind, va_recv hAB.1 hP (ci := 9) (q0 := 0) rfl rfl, wd_pre hAB hP hD hS hA⟩ rfl rfl hl.1 rfl (lv_room (Nat.le_of_ble_eq_true rfl)) dX9_put_25 ⟨Nat.zero_le _, Nat.zero_le _⟩) (fun r_10 mFi_11 H locs h hP hD hS => ?_)
      have hP : va_P D vwCl (WM cI cJ cZ cK ad ud pT pK pN pF pS qT qK qN qF qS mKe mUn mFi_11 mRi mBe mWc mAK mSh mIP mUS mWa mWi mSi mRo mSp mRw mSn mBg mLa mMo mRm mOw mGo mFr mQu mCh mPB mPS mFs ub uT uK uN uF uS) H := hP
      have hD : va_D A (WM cI cJ cZ cK ad ud pT pK pN pF pS qT qK qN qF qS mKe mUn mFi_11 mRi mBe mWc mAK mSh mIP mUS mWa mWi mSi mRo mSp mRw mSn mBg mLa mMo mRm mOw mGo mFr mQu mCh mPB mPS mFs ub uT uK uN uF uS) := hD
      exact rt_i (mFi_11, mRo) hQ hx hb hr hlk hP hD hS ⟨Nat.zero_le _, Nat.zero_le _⟩ dX9_put_28 h
  · have h := h.2 c_2
    refine lv_aload_n hx hb dX9_put_7 rfl (lv_at hl 0 rfl) ?_
    refine lv_iconst (v := (-1)) hx hb dX9_put_8 (by decide) ?_
    refine cl_i hD hS hA (va_runV (As := [.int (-1)]) (rest := []) ⟨hx, hb, hml, hown, hts⟩ (ct_X9_found h H.size) (cwV 1 hts gX9_put_X9_found rfl rfl rfl (by decide +kernel) ⟨Nat.le_of_ble_eq_true rfl, Nat.le_of_ble_eq_true rfl⟩) ⟨CPre.blind, va_recv hAB.1 hP (ci := 9) (q0 := 0) rfl rfl, wd_pre hAB hP hD hS hA⟩ rfl rfl hl.1 rfl (lv_room (Nat.le_of_ble_eq_true rfl)) dX9_put_9 ⟨Nat.zero_le _, Nat.zero_le _⟩) (fun r_12 mFi_13 H locs h hP hD hS => ?_)
    have hP : va_P D vwCl (WM cI cJ cZ cK ad ud pT pK pN pF pS qT qK qN qF qS mKe mUn mFi_13 mRi mBe mWc mAK mSh mIP mUS mWa mWi mSi mRo mSp mRw mSn mBg mLa mMo mRm mOw mGo mFr mQu mCh mPB mPS mFs ub uT uK uN uF uS) H := hP
    have hD : va_D A (WM cI cJ cZ cK ad ud pT pK pN pF pS qT qK qN qF qS mKe mUn mFi_13 mRi mBe mWc mAK mSh mIP mUS mWa mWi mSi mRo mSp mRw mSn mBg mLa mMo mRm mOw mGo mFr mQu mCh mPB mPS mFs ub uT uK uN uF uS) := hD
    exact rt_i (mFi_13, mRo) hQ hx hb hr hlk hP hD hS ⟨Nat.zero_le _, Nat.zero_le _⟩ dX9_put_12 h
def wp_X9_copy_b116 (Qp : Int32 → (Int32) → (Nat → Int64) → (Nat → Int64) → Prop) (mFi_1 : Int32) (mRo_2 : Nat → Int64) (mSp_3 : Nat → Int64) : Prop :=
  wp_X9_found mFi_1 (-1) (fun (r_4 : Int32) (mFi_5 : Int32) => Qp r_4 mFi_5 mRo_2 mSp_3)
def wp_X9_copy_b38 (Qp : Int32 → (Int32) → (Nat → Int64) → (Nat → Int64) → Prop) (mFi_6 : Int32) (mRo_7 : Nat → Int64) (mSp_8 : Nat → Int64) : Prop :=
  wp_X9_found mFi_6 (-2) (fun (r_9 : Int32) (mFi_10 : Int32) => Qp r_9 mFi_10 mRo_7 mSp_8)
def wp_X9_copy_b14 (Qp : Int32 → (Int32) → (Nat → Int64) → (Nat → Int64) → Prop) (mFi_11 : Int32) (mRo_12 : Nat → Int64) (mSp_13 : Nat → Int64) : Prop :=
  wp_X9_found mFi_11 (-1) (fun (r_14 : Int32) (mFi_15 : Int32) => Qp r_14 mFi_15 mRo_12 mSp_13)
def wp_X9_copy_L125 (a1 : Int32) (a2 : Int32) (a5 : Int32) (mRo : Nat → Int64) (x125 : (Nat → Int64) → Prop) : Nat → (Int32) → (Nat → Int64) → Prop
  | 0, _, _ => False
  | n125 + 1, x6_28, mSp_29 =>
  ((a5 ≤ x6_28 → x125 mSp_29) ∧
   (¬ a5 ≤ x6_28 → vp_in (((24 * a1) + a2) + x6_28) 96 ∧ vp_in x6_28 24 ∧ ∀ mSp_32 : Nat → Int64, mSp_32 = vp_updL mSp_29 (Int32.toNatClampNeg x6_28) (mRo (Int32.toNatClampNeg (((24 * a1) + a2) + x6_28))) → ∀ x6_34 : Int32, x6_34 = x6_28 + 1 → (wp_X9_copy_L125 a1 a2 a5 mRo x125 n125) x6_34 mSp_32))
def wp_X9_copy_L162 (a3 : Int32) (a4 : Int32) (a5 : Int32) (mSp_30 : Nat → Int64) (x162 : (Nat → Int64) → Prop) : Nat → (Int32) → (Nat → Int64) → Prop
  | 0, _, _ => False
  | n162 + 1, x6_36, mRo_37 =>
  ((a5 ≤ x6_36 → x162 mRo_37) ∧
   (¬ a5 ≤ x6_36 → vp_in x6_36 24 ∧ vp_in (((24 * a3) + a4) + x6_36) 96 ∧ ∀ mRo_40 : Nat → Int64, mRo_40 = vp_updL mRo_37 (Int32.toNatClampNeg (((24 * a3) + a4) + x6_36)) (mSp_30 (Int32.toNatClampNeg x6_36)) → ∀ x6_42 : Int32, x6_42 = x6_36 + 1 → (wp_X9_copy_L162 a3 a4 a5 mSp_30 x162 n162) x6_42 mRo_40))
def wp_X9_copy (mFi : Int32) (mWi : Nat → Int32) (mSi : Nat → Int32) (mRo : Nat → Int64) (mSp : Nat → Int64) (a1 : Int32) (a2 : Int32) (a3 : Int32) (a4 : Int32) (a5 : Int32) (Qp : Int32 → (Int32) → (Nat → Int64) → (Nat → Int64) → Prop) : Prop :=
  wp_X9_isBoard a1 (fun (r_16 : Int32) => ((r_16 = 0 → wp_X9_copy_b14 Qp mFi mRo mSp) ∧
   (¬ r_16 = 0 → wp_X9_isBoard a3 (fun (r_18 : Int32) => ((¬ r_18 = 0 → vp_in a1 4 ∧ (((mWi (Int32.toNatClampNeg a1)) = 0 → wp_X9_copy_b38 Qp mFi mRo mSp) ∧
   (¬ (mWi (Int32.toNatClampNeg a1)) = 0 → vp_in a3 4 ∧ ((¬ (mWi (Int32.toNatClampNeg a3)) = 0 → vp_in a1 4 ∧ vp_in a3 4 ∧ (((mWi (Int32.toNatClampNeg a1)) = (mWi (Int32.toNatClampNeg a3)) → ((a2 < 0 → wp_X9_copy_b116 Qp mFi mRo mSp) ∧
   (¬ a2 < 0 → ((a4 < 0 → wp_X9_copy_b116 Qp mFi mRo mSp) ∧
   (¬ a4 < 0 → ((a5 < 0 → wp_X9_copy_b116 Qp mFi mRo mSp) ∧
   (¬ a5 < 0 → vp_in a1 4 ∧ ((0 < (lg_cmp ((Int32.toInt64 a2) + (Int32.toInt64 a5)) (Int32.toInt64 (mSi (Int32.toNatClampNeg a1)))) → wp_X9_copy_b116 Qp mFi mRo mSp) ∧
   (¬ 0 < (lg_cmp ((Int32.toInt64 a2) + (Int32.toInt64 a5)) (Int32.toInt64 (mSi (Int32.toNatClampNeg a1)))) → vp_in a3 4 ∧ (((lg_cmp ((Int32.toInt64 a4) + (Int32.toInt64 a5)) (Int32.toInt64 (mSi (Int32.toNatClampNeg a3)))) ≤ 0 → (∃ n125 : Nat, wp_X9_copy_L125 a1 a2 a5 mRo (fun (mSp_30 : Nat → Int64) => (∃ n162 : Nat, wp_X9_copy_L162 a3 a4 a5 mSp_30 (fun (mRo_38 : Nat → Int64) => Qp a5 mFi mRo_38 mSp_30) n162 0 mRo)) n125 0 mSp)) ∧
   (¬ (lg_cmp ((Int32.toInt64 a4) + (Int32.toInt64 a5)) (Int32.toInt64 (mSi (Int32.toNatClampNeg a3)))) ≤ 0 → wp_X9_copy_b116 Qp mFi mRo mSp))))))))))) ∧
   (¬ (mWi (Int32.toNatClampNeg a1)) = (mWi (Int32.toNatClampNeg a3)) → wp_X9_found mFi (-4) (fun (r_44 : Int32) (mFi_45 : Int32) => Qp r_44 mFi_45 mRo mSp)))) ∧
   ((mWi (Int32.toNatClampNeg a3)) = 0 → wp_X9_copy_b38 Qp mFi mRo mSp))))) ∧
   (r_18 = 0 → wp_X9_copy_b14 Qp mFi mRo mSp))))))
theorem inn_X9_copy_9 : ∀ w ∈ u_ws RX9 TX9 32, w ∈ wsX9_copy := fun _ h => List.mem_cons_of_mem _ (List.mem_append_right _ h)
def rm_X9_copy : Room := { frames := 2, cells := 0, slots := 0, locals := 45 }
set_option maxHeartbeats 4000000 in
set_option maxRecDepth 100000 in
theorem ct_X9_copy {l : Launch} {D : va_G} {cI cJ cZ cE cD cK : ClassId} {ad : Nat → Nat} {ud : Nat → Nat → Nat} {pT : Int32} {pK : Nat → Int32} {pN : Nat → Int32} {pF : Nat → Int32} {pS : Nat → Int32} {qT : Int32} {qK : Nat → Int32} {qN : Nat → Int32} {qF : Nat → Int32} {qS : Nat → Int32} {mKe : Int32} {mUn : Int32} {mFi : Int32} {mRi : Int32} {mBe : Int64} {mWc : Int32} {mAK : Int32} {mSh : Int32} {mIP : Int32} {mUS : Nat → Int32} {mWa : Nat → Int32} {mWi : Nat → Int32} {mSi : Nat → Int32} {mRo : Nat → Int64} {mSp : Nat → Int64} {mRw : Nat → Int32} {mSn : Nat → Int32} {mBg : Nat → Int32} {mLa : Nat → Int32} {mMo : Nat → Int32} {mRm : Nat → Int64} {mOw : Nat → Int64} {mGo : Nat → Int32} {mFr : Nat → Int32} {mQu : Nat → Int32} {mCh : Nat → Int64} {mPB : Nat → Int32} {mPS : Nat → Int32} {mFs : Nat → Int32} {ub : Nat → Nat} {uT : Nat → Int32} {uK : Nat → Nat → Int32} {uN : Nat → Nat → Int32} {uF : Nat → Nat → Int32} {uS : Nat → Nat → Int32}   {a1 : Int32} {a2 : Int32} {a3 : Int32} {a4 : Int32} {a5 : Int32} {Qp : Int32 → (Int32) → (Nat → Int64) → (Nat → Int64) → Prop}   (h : wp_X9_copy mFi mWi mSi mRo mSp a1 a2 a3 a4 a5 Qp) : CTi l yX9_copy wsX9_copy rm_X9_copy D (tyL cI cJ cZ cE cD cK) [.ref (ad 0), .int a1, .int a2, .int a3, .int a4, .int a5] (WM cI cJ cZ cK ad ud pT pK pN pF pS qT qK qN qF qS mKe mUn mFi mRi mBe mWc mAK mSh mIP mUS mWa mWi mSi mRo mSp mRw mSn mBg mLa mMo mRm mOw mGo mFr mQu mCh mPB mPS mFs ub uT uK uN uF uS) (fun (r : Int32) (u : (Int32) × (Nat → Int64) × (Nat → Int64)) => Qp r u.1 u.2.1 u.2.2) (fun u : (Int32) × (Nat → Int64) × (Nat → Int64) => (WM cI cJ cZ cK ad ud pT pK pN pF pS qT qK qN qF qS mKe mUn u.1 mRi mBe mWc mAK mSh mIP mUS mWa mWi mSi u.2.1 u.2.2 mRw mSn mBg mLa mMo mRm mOw mGo mFr mQu mCh mPB mPS mFs ub uT uK uN uF uS)) 0 0 := by
  refine ent_i (cc := cX9_copy) (maxL := 7) (ret := (some .int)) (by decide) rfl (Nat.le_of_ble_eq_true rfl) ?_
  intro p e s m args below meth c A Q hQ hx hb hr hml hown hts hlk hA hAB hP hD hS ls hl
  have hown : s.vm.findClass RX9 = some m.cls := hown
  have hl : lv_has ls 7 [(0, .ref (ad 0)), (1, .int a1), (2, .int a2), (3, .int a3), (4, .int a4), (5, .int a5)] := hl
  generalize hH : s.heap = H at hP ⊢
  have hS : va_S A s.heap H [] := by rw [← hH]; exact hS
  clear hH
  generalize ([] : List Loc) = locs at hS ⊢
  have B116 : ∀ (mFi_1 : Int32) (mRo_2 : Nat → Int64) (mSp_3 : Nat → Int64), wp_X9_copy_b116 Qp mFi_1 mRo_2 mSp_3 → ∀ (H : Heap) (locs : List Loc) (ls : Array Slot), va_P D vwCl (WM cI cJ cZ cK ad ud pT pK pN pF pS qT qK qN qF qS mKe mUn mFi_1 mRi mBe mWc mAK mSh mIP mUS mWa mWi mSi mRo_2 mSp_3 mRw mSn mBg mLa mMo mRm mOw mGo mFr mQu mCh mPB mPS mFs ub uT uK uN uF uS) H → va_D A (WM cI cJ cZ cK ad ud pT pK pN pF pS qT qK qN qF qS mKe mUn mFi_1 mRi mBe mWc mAK mSh mIP mUS mWa mWi mSi mRo_2 mSp_3 mRw mSn mBg mLa mMo mRm mOw mGo mFr mQu mCh mPB mPS mFs ub uT uK uN uF uS) → va_S A s.heap H locs → lv_has ls 7 [(0, .ref (ad 0))] → W p l e (headSpec wsX9_copy rm_X9_copy).room s m args below meth c H locs 0 0 Q (F0 m 116 ls []) := by
    intro mFi_1 mRo_2 mSp_3 h H locs ls hP hD hS hl
    refine lv_aload_n hx hb dX9_copy_116 rfl (lv_at hl 0 rfl) ?_
    refine lv_iconst (v := (-1)) hx hb dX9_copy_117 (by decide) ?_
    refine cl_i hD hS hA (va_runV (As := [.int (-1)]) (rest := []) ⟨hx, hb, hml, hown, hts⟩ (ct_X9_found h H.size) (cwV 1 hts gX9_copy_X9_found rfl rfl rfl (by decide +kernel) ⟨Nat.le_of_ble_eq_true rfl, Nat.le_of_ble_eq_true rfl⟩) ⟨CPre.blind, va_recv hAB.1 hP (ci := 9) (q0 := 0) rfl rfl, wd_pre hAB hP hD hS hA⟩ rfl rfl hl.1 rfl (lv_room (Nat.le_of_ble_eq_true rfl)) dX9_copy_118 ⟨Nat.zero_le _, Nat.zero_le _⟩) (fun r_4 mFi_5 H locs h hP hD hS => ?_)
    have hP : va_P D vwCl (WM cI cJ cZ cK ad ud pT pK pN pF pS qT qK qN qF qS mKe mUn mFi_5 mRi mBe mWc mAK mSh mIP mUS mWa mWi mSi mRo_2 mSp_3 mRw mSn mBg mLa mMo mRm mOw mGo mFr mQu mCh mPB mPS mFs ub uT uK uN uF uS) H := hP
    have hD : va_D A (WM cI cJ cZ cK ad ud pT pK pN pF pS qT qK qN qF qS mKe mUn mFi_5 mRi mBe mWc mAK mSh mIP mUS mWa mWi mSi mRo_2 mSp_3 mRw mSn mBg mLa mMo mRm mOw mGo mFr mQu mCh mPB mPS mFs ub uT uK uN uF uS) := hD
    exact rt_i (mFi_5, mRo_2, mSp_3) hQ hx hb hr hlk hP hD hS ⟨Nat.zero_le _, Nat.zero_le _⟩ dX9_copy_121 h
  have B38 : ∀ (mFi_6 : Int32) (mRo_7 : Nat → Int64) (mSp_8 : Nat → Int64), wp_X9_copy_b38 Qp mFi_6 mRo_7 mSp_8 → ∀ (H : Heap) (locs : List Loc) (ls : Array Slot), va_P D vwCl (WM cI cJ cZ cK ad ud pT pK pN pF pS qT qK qN qF qS mKe mUn mFi_6 mRi mBe mWc mAK mSh mIP mUS mWa mWi mSi mRo_7 mSp_8 mRw mSn mBg mLa mMo mRm mOw mGo mFr mQu mCh mPB mPS mFs ub uT uK uN uF uS) H → va_D A (WM cI cJ cZ cK ad ud pT pK pN pF pS qT qK qN qF qS mKe mUn mFi_6 mRi mBe mWc mAK mSh mIP mUS mWa mWi mSi mRo_7 mSp_8 mRw mSn mBg mLa mMo mRm mOw mGo mFr mQu mCh mPB mPS mFs ub uT uK uN uF uS) → va_S A s.heap H locs → lv_has ls 7 [(0, .ref (ad 0))] → W p l e (headSpec wsX9_copy rm_X9_copy).room s m args below meth c H locs 0 0 Q (F0 m 38 ls []) := by
    intro mFi_6 mRo_7 mSp_8 h H locs ls hP hD hS hl
    refine lv_aload_n hx hb dX9_copy_38 rfl (lv_at hl 0 rfl) ?_
    refine lv_bipush (v := (-2)) hx hb dX9_copy_39 (by decide) ?_
    refine cl_i hD hS hA (va_runV (As := [.int (-2)]) (rest := []) ⟨hx, hb, hml, hown, hts⟩ (ct_X9_found h H.size) (cwV 1 hts gX9_copy_X9_found rfl rfl rfl (by decide +kernel) ⟨Nat.le_of_ble_eq_true rfl, Nat.le_of_ble_eq_true rfl⟩) ⟨CPre.blind, va_recv hAB.1 hP (ci := 9) (q0 := 0) rfl rfl, wd_pre hAB hP hD hS hA⟩ rfl rfl hl.1 rfl (lv_room (Nat.le_of_ble_eq_true rfl)) dX9_copy_41 ⟨Nat.zero_le _, Nat.zero_le _⟩) (fun r_9 mFi_10 H locs h hP hD hS => ?_)
    have hP : va_P D vwCl (WM cI cJ cZ cK ad ud pT pK pN pF pS qT qK qN qF qS mKe mUn mFi_10 mRi mBe mWc mAK mSh mIP mUS mWa mWi mSi mRo_7 mSp_8 mRw mSn mBg mLa mMo mRm mOw mGo mFr mQu mCh mPB mPS mFs ub uT uK uN uF uS) H := hP
    have hD : va_D A (WM cI cJ cZ cK ad ud pT pK pN pF pS qT qK qN qF qS mKe mUn mFi_10 mRi mBe mWc mAK mSh mIP mUS mWa mWi mSi mRo_7 mSp_8 mRw mSn mBg mLa mMo mRm mOw mGo mFr mQu mCh mPB mPS mFs ub uT uK uN uF uS) := hD
    exact rt_i (mFi_10, mRo_7, mSp_8) hQ hx hb hr hlk hP hD hS ⟨Nat.zero_le _, Nat.zero_le _⟩ dX9_copy_44 h
  have B14 : ∀ (mFi_11 : Int32) (mRo_12 : Nat → Int64) (mSp_13 : Nat → Int64), wp_X9_copy_b14 Qp mFi_11 mRo_12 mSp_13 → ∀ (H : Heap) (locs : List Loc) (ls : Array Slot), va_P D vwCl (WM cI cJ cZ cK ad ud pT pK pN pF pS qT qK qN qF qS mKe mUn mFi_11 mRi mBe mWc mAK mSh mIP mUS mWa mWi mSi mRo_12 mSp_13 mRw mSn mBg mLa mMo mRm mOw mGo mFr mQu mCh mPB mPS mFs ub uT uK uN uF uS) H → va_D A (WM cI cJ cZ cK ad ud pT pK pN pF pS qT qK qN qF qS mKe mUn mFi_11 mRi mBe mWc mAK mSh mIP mUS mWa mWi mSi mRo_12 mSp_13 mRw mSn mBg mLa mMo mRm mOw mGo mFr mQu mCh mPB mPS mFs ub uT uK uN uF uS) → va_S A s.heap H locs → lv_has ls 7 [(0, .ref (ad 0))] → W p l e (headSpec wsX9_copy rm_X9_copy).room s m args below meth c H locs 0 0 Q (F0 m 14 ls []) := by
    intro mFi_11 mRo_12 mSp_13 h H locs ls hP hD hS hl
    refine lv_aload_n hx hb dX9_copy_14 rfl (lv_at hl 0 rfl) ?_
    refine lv_iconst (v := (-1)) hx hb dX9_copy_15 (by decide) ?_
    refine cl_i hD hS hA (va_runV (As := [.int (-1)]) (rest := []) ⟨hx, hb, hml, hown, hts⟩ (ct_X9_found h H.size) (cwV 1 hts gX9_copy_X9_found rfl rfl rfl (by decide +kernel) ⟨Nat.le_of_ble_eq_true rfl, Nat.le_of_ble_eq_true rfl⟩) ⟨CPre.blind, va_recv hAB.1 hP (ci := 9) (q0 := 0) rfl rfl, wd_pre hAB hP hD hS hA⟩ rfl rfl hl.1 rfl (lv_room (Nat.le_of_ble_eq_true rfl)) dX9_copy_16 ⟨Nat.zero_le _, Nat.zero_le _⟩) (fun r_14 mFi_15 H locs h hP hD hS => ?_)
    have hP : va_P D vwCl (WM cI cJ cZ cK ad ud pT pK pN pF pS qT qK qN qF qS mKe mUn mFi_15 mRi mBe mWc mAK mSh mIP mUS mWa mWi mSi mRo_12 mSp_13 mRw mSn mBg mLa mMo mRm mOw mGo mFr mQu mCh mPB mPS mFs ub uT uK uN uF uS) H := hP
    have hD : va_D A (WM cI cJ cZ cK ad ud pT pK pN pF pS qT qK qN qF qS mKe mUn mFi_15 mRi mBe mWc mAK mSh mIP mUS mWa mWi mSi mRo_12 mSp_13 mRw mSn mBg mLa mMo mRm mOw mGo mFr mQu mCh mPB mPS mFs ub uT uK uN uF uS) := hD
    exact rt_i (mFi_15, mRo_12, mSp_13) hQ hx hb hr hlk hP hD hS ⟨Nat.zero_le _, Nat.zero_le _⟩ dX9_copy_19 h
  refine lv_iload_n hx hb dX9_copy_0 rfl (lv_at hl 1 rfl) ?_
  refine cl_i hD hS hA (va_runS (As := [.int a1]) (rest := []) ⟨hx, hb, hml, hown, hts⟩ (ct_X9_isBoard h H.size) (va_cwS 1 hts gX9_copy_X9_isBoard rfl rfl rfl (by decide +kernel) ⟨Nat.le_of_ble_eq_true rfl, Nat.le_of_ble_eq_true rfl⟩) ⟨CPre.blind, wd_pre hAB hP hD hS hA⟩ rfl rfl hl.1 rfl (lv_room (Nat.le_of_ble_eq_true rfl)) dX9_copy_1 ⟨Nat.zero_le _, Nat.zero_le _⟩) (fun r_16 u H locs h hP hD hS => ?_)
  refine lv_if_eq (tgt := 14) hx hb dX9_copy_4 (by decide) (fun c_17 => ?_) (fun c_17 => ?_)
  · have h := h.1 c_17
    exact B14 mFi mRo mSp h H locs ls hP hD hS (lv_sub hl [0] rfl)
  · have h := h.2 c_17
    refine lv_iload_n hx hb dX9_copy_7 rfl (lv_at hl 3 rfl) ?_
    refine cl_i hD hS hA (va_runS (As := [.int a3]) (rest := []) ⟨hx, hb, hml, hown, hts⟩ (ct_X9_isBoard h H.size) (va_cwS 1 hts gX9_copy_X9_isBoard rfl rfl rfl (by decide +kernel) ⟨Nat.le_of_ble_eq_true rfl, Nat.le_of_ble_eq_true rfl⟩) ⟨CPre.blind, wd_pre hAB hP hD hS hA⟩ rfl rfl hl.1 rfl (lv_room (Nat.le_of_ble_eq_true rfl)) dX9_copy_8 ⟨Nat.zero_le _, Nat.zero_le _⟩) (fun r_18 u H locs h hP hD hS => ?_)
    refine lv_if_ne (tgt := 20) hx hb dX9_copy_11 (by decide) (fun c_19 => ?_) (fun c_19 => ?_)
    · have h := h.1 c_19
      refine lv_aload_n hx hb dX9_copy_20 rfl (lv_at hl 0 rfl) ?_
      refine va_get (D := D) (ci := 9) (C := RX9) (T := TX9) (N := 32) hx hb hts inn_X9_copy_9 hown hAB.1 hP 0 rfl rfl 11 (by decide) (hts (.fieldLink RX9 35 "BarnBenchModel" "wide" "[I") (by decide +kernel)) (fun _ h9 => h9) rfl dX9_copy_21 ?_
      refine lv_iload_n hx hb dX9_copy_24 rfl (lv_at hl 1 rfl) ?_
      refine va_iald hx hb hAB.1 hP 14 0 rfl rfl h.1 dX9_copy_25 ?_
      have h := h.2
      refine lv_if_eq (tgt := 38) hx hb dX9_copy_26 (by decide) (fun c_20 => ?_) (fun c_20 => ?_)
      · have h := h.1 c_20
        exact B38 mFi mRo mSp h H locs ls hP hD hS (lv_sub hl [0] rfl)
      · have h := h.2 c_20
        refine lv_aload_n hx hb dX9_copy_29 rfl (lv_at hl 0 rfl) ?_
        refine va_get (D := D) (ci := 9) (C := RX9) (T := TX9) (N := 32) hx hb hts inn_X9_copy_9 hown hAB.1 hP 0 rfl rfl 11 (by decide) (hts (.fieldLink RX9 35 "BarnBenchModel" "wide" "[I") (by decide +kernel)) (fun _ h9 => h9) rfl dX9_copy_30 ?_
        refine lv_iload_n hx hb dX9_copy_33 rfl (lv_at hl 3 rfl) ?_
        refine va_iald hx hb hAB.1 hP 14 0 rfl rfl h.1 dX9_copy_34 ?_
        have h := h.2
        refine lv_if_ne (tgt := 45) hx hb dX9_copy_35 (by decide) (fun c_21 => ?_) (fun c_21 => ?_)
        · have h := h.1 c_21
          refine lv_aload_n hx hb dX9_copy_45 rfl (lv_at hl 0 rfl) ?_
          refine va_get (D := D) (ci := 9) (C := RX9) (T := TX9) (N := 32) hx hb hts inn_X9_copy_9 hown hAB.1 hP 0 rfl rfl 11 (by decide) (hts (.fieldLink RX9 35 "BarnBenchModel" "wide" "[I") (by decide +kernel)) (fun _ h9 => h9) rfl dX9_copy_46 ?_
          refine lv_iload_n hx hb dX9_copy_49 rfl (lv_at hl 1 rfl) ?_
          refine va_iald hx hb hAB.1 hP 14 0 rfl rfl h.1 dX9_copy_50 ?_
          have h := h.2
          refine lv_aload_n hx hb dX9_copy_51 rfl (lv_at hl 0 rfl) ?_
          refine va_get (D := D) (ci := 9) (C := RX9) (T := TX9) (N := 32) hx hb hts inn_X9_copy_9 hown hAB.1 hP 0 rfl rfl 11 (by decide) (hts (.fieldLink RX9 35 "BarnBenchModel" "wide" "[I") (by decide +kernel)) (fun _ h9 => h9) rfl dX9_copy_52 ?_
          refine lv_iload_n hx hb dX9_copy_55 rfl (lv_at hl 3 rfl) ?_
          refine va_iald hx hb hAB.1 hP 14 0 rfl rfl h.1 dX9_copy_56 ?_
          have h := h.2
          refine lv_icmp_eq (tgt := 67) hx hb dX9_copy_57 (by decide) (fun c_22 => ?_) (fun c_22 => ?_)
          · have h := h.1 c_22
            refine lv_iload_n hx hb dX9_copy_67 rfl (lv_at hl 2 rfl) ?_
            refine lv_if_lt (tgt := 116) hx hb dX9_copy_68 (by decide) (fun c_23 => ?_) (fun c_23 => ?_)
            · have h := h.1 c_23
              exact B116 mFi mRo mSp h H locs ls hP hD hS (lv_sub hl [0] rfl)
            · have h := h.2 c_23
              refine lv_iload hx hb dX9_copy_71 (lv_at hl 4 rfl) ?_
              refine lv_if_lt (tgt := 116) hx hb dX9_copy_73 (by decide) (fun c_24 => ?_) (fun c_24 => ?_)
              · have h := h.1 c_24
                exact B116 mFi mRo mSp h H locs ls hP hD hS (lv_sub hl [0] rfl)
              · have h := h.2 c_24
                refine lv_iload hx hb dX9_copy_76 (lv_at hl 5 rfl) ?_
                refine lv_if_lt (tgt := 116) hx hb dX9_copy_78 (by decide) (fun c_25 => ?_) (fun c_25 => ?_)
                · have h := h.1 c_25
                  exact B116 mFi mRo mSp h H locs ls hP hD hS (lv_sub hl [0] rfl)
                · have h := h.2 c_25
                  refine lv_iload_n hx hb dX9_copy_81 rfl (lv_at hl 2 rfl) ?_
                  refine lv_i2l hx hb dX9_copy_82 rfl ?_
                  refine lv_iload hx hb dX9_copy_83 (lv_at hl 5 rfl) ?_
                  refine lv_i2l hx hb dX9_copy_85 rfl ?_
                  refine lv_ladd hx hb dX9_copy_86 ?_
                  refine lv_aload_n hx hb dX9_copy_87 rfl (lv_at hl 0 rfl) ?_
                  refine va_get (D := D) (ci := 9) (C := RX9) (T := TX9) (N := 32) hx hb hts inn_X9_copy_9 hown hAB.1 hP 0 rfl rfl 12 (by decide) (hts (.fieldLink RX9 38 "BarnBenchModel" "size" "[I") (by decide +kernel)) (fun _ h9 => h9) rfl dX9_copy_88 ?_
                  refine lv_iload_n hx hb dX9_copy_91 rfl (lv_at hl 1 rfl) ?_
                  refine va_iald hx hb hAB.1 hP 15 0 rfl rfl h.1 dX9_copy_92 ?_
                  have h := h.2
                  refine lv_i2l hx hb dX9_copy_93 rfl ?_
                  refine W.lcmp hx hb dX9_copy_94 ?_
                  refine lv_if_gt (tgt := 116) hx hb dX9_copy_95 (by decide) (fun c_26 => ?_) (fun c_26 => ?_)
                  · have h := h.1 c_26
                    exact B116 mFi mRo mSp h H locs ls hP hD hS (lv_sub hl [0] rfl)
                  · have h := h.2 c_26
                    refine lv_iload hx hb dX9_copy_98 (lv_at hl 4 rfl) ?_
                    refine lv_i2l hx hb dX9_copy_100 rfl ?_
                    refine lv_iload hx hb dX9_copy_101 (lv_at hl 5 rfl) ?_
                    refine lv_i2l hx hb dX9_copy_103 rfl ?_
                    refine lv_ladd hx hb dX9_copy_104 ?_
                    refine lv_aload_n hx hb dX9_copy_105 rfl (lv_at hl 0 rfl) ?_
                    refine va_get (D := D) (ci := 9) (C := RX9) (T := TX9) (N := 32) hx hb hts inn_X9_copy_9 hown hAB.1 hP 0 rfl rfl 12 (by decide) (hts (.fieldLink RX9 38 "BarnBenchModel" "size" "[I") (by decide +kernel)) (fun _ h9 => h9) rfl dX9_copy_106 ?_
                    refine lv_iload_n hx hb dX9_copy_109 rfl (lv_at hl 3 rfl) ?_
                    refine va_iald hx hb hAB.1 hP 15 0 rfl rfl h.1 dX9_copy_110 ?_
                    have h := h.2
                    refine lv_i2l hx hb dX9_copy_111 rfl ?_
                    refine W.lcmp hx hb dX9_copy_112 ?_
                    refine lv_if_le (tgt := 122) hx hb dX9_copy_113 (by decide) (fun c_27 => ?_) (fun c_27 => ?_)
                    · have h := h.1 c_27
                      refine lv_iconst (v := 0) hx hb dX9_copy_122 (by decide) ?_
                      refine lv_istore (lv' := [(6, .int 0), (0, .ref (ad 0)), (1, .int a1), (2, .int a2), (3, .int a3), (4, .int a4), (5, .int a5)]) hx hb dX9_copy_123 hl (by decide) rfl (fun ls hl => ?_)
                      have L125 : ∀ (x125 : (Nat → Int64) → Prop) (hk125 : ∀ (mSp_30 : Nat → Int64), x125 mSp_30 → ∀ (H : Heap) (locs : List Loc) (ls : Array Slot), va_P D vwCl (WM cI cJ cZ cK ad ud pT pK pN pF pS qT qK qN qF qS mKe mUn mFi mRi mBe mWc mAK mSh mIP mUS mWa mWi mSi mRo mSp_30 mRw mSn mBg mLa mMo mRm mOw mGo mFr mQu mCh mPB mPS mFs ub uT uK uN uF uS) H → va_D A (WM cI cJ cZ cK ad ud pT pK pN pF pS qT qK qN qF qS mKe mUn mFi mRi mBe mWc mAK mSh mIP mUS mWa mWi mSi mRo mSp_30 mRw mSn mBg mLa mMo mRm mOw mGo mFr mQu mCh mPB mPS mFs ub uT uK uN uF uS) → va_S A s.heap H locs → lv_has ls 7 [(0, .ref (ad 0)), (3, .int a3), (4, .int a4), (5, .int a5)] → W p l e (headSpec wsX9_copy rm_X9_copy).room s m args below meth c H locs 0 0 Q (F0 m 159 ls [])) (n125 : Nat) (x6_28 : Int32) (mSp_29 : Nat → Int64), wp_X9_copy_L125 a1 a2 a5 mRo x125 n125 x6_28 mSp_29 → ∀ (H : Heap) (locs : List Loc) (ls : Array Slot), va_P D vwCl (WM cI cJ cZ cK ad ud pT pK pN pF pS qT qK qN qF qS mKe mUn mFi mRi mBe mWc mAK mSh mIP mUS mWa mWi mSi mRo mSp_29 mRw mSn mBg mLa mMo mRm mOw mGo mFr mQu mCh mPB mPS mFs ub uT uK uN uF uS) H → va_D A (WM cI cJ cZ cK ad ud pT pK pN pF pS qT qK qN qF qS mKe mUn mFi mRi mBe mWc mAK mSh mIP mUS mWa mWi mSi mRo mSp_29 mRw mSn mBg mLa mMo mRm mOw mGo mFr mQu mCh mPB mPS mFs ub uT uK uN uF uS) → va_S A s.heap H locs → lv_has ls 7 [(0, .ref (ad 0)), (1, .int a1), (2, .int a2), (3, .int a3), (4, .int a4), (5, .int a5), (6, .int x6_28)] → W p l e (headSpec wsX9_copy rm_X9_copy).room s m args below meth c H locs 0 0 Q (F0 m 125 ls []) := by
                        intro x125 hk125 n125
                        induction n125 with
                        | zero => intro x6_28 mSp_29 h; exact False.elim h
                        | succ n125 ih125 =>
                          intro x6_28 mSp_29 h H locs ls hP hD hS hl
                          refine lv_iload hx hb dX9_copy_125 (lv_at hl 6 rfl) ?_
                          refine lv_iload hx hb dX9_copy_127 (lv_at hl 5 rfl) ?_
                          refine lv_icmp_ge (tgt := 159) hx hb dX9_copy_129 (by decide) (fun c_31 => ?_) (fun c_31 => ?_)
                          · have h := h.1 c_31
                            exact hk125 mSp_29 h H locs ls hP hD hS (lv_sub hl [0, 3, 4, 5] rfl)
                          · have h := h.2 c_31
                            refine lv_aload_n hx hb dX9_copy_132 rfl (lv_at hl 0 rfl) ?_
                            refine va_get (D := D) (ci := 9) (C := RX9) (T := TX9) (N := 32) hx hb hts inn_X9_copy_9 hown hAB.1 hP 0 rfl rfl 14 (by decide) (hts (.fieldLink RX9 45 "BarnBenchModel" "spare" "[J") (by decide +kernel)) (fun _ h9 => h9) rfl dX9_copy_133 ?_
                            refine lv_iload hx hb dX9_copy_136 (lv_at hl 6 rfl) ?_
                            refine lv_aload_n hx hb dX9_copy_138 rfl (lv_at hl 0 rfl) ?_
                            refine va_get (D := D) (ci := 9) (C := RX9) (T := TX9) (N := 32) hx hb hts inn_X9_copy_9 hown hAB.1 hP 0 rfl rfl 13 (by decide) (hts (.fieldLink RX9 41 "BarnBenchModel" "rows" "[J") (by decide +kernel)) (fun _ h9 => h9) rfl dX9_copy_139 ?_
                            refine lv_bipush (v := 24) hx hb dX9_copy_142 (by decide) ?_
                            refine lv_iload_n hx hb dX9_copy_144 rfl (lv_at hl 1 rfl) ?_
                            refine lv_imul hx hb dX9_copy_145 ?_
                            refine lv_iload_n hx hb dX9_copy_146 rfl (lv_at hl 2 rfl) ?_
                            refine lv_iadd hx hb dX9_copy_147 ?_
                            refine lv_iload hx hb dX9_copy_148 (lv_at hl 6 rfl) ?_
                            refine lv_iadd hx hb dX9_copy_150 ?_
                            refine va_lald hx hb hAB.1 hP 16 1 rfl rfl h.1 dX9_copy_151 ?_
                            have h := h.2
                            refine sM_17 hx hb hAB hP hD hS h.1 dX9_copy_152 (fun mSp_32 H locs e_33 hP hD hS => ?_)
                            have h := h.2
                            have h := h mSp_32 e_33
                            obtain ⟨x6_34, e_35⟩ : ∃ y : Int32, y = x6_28 + 1 := ⟨_, rfl⟩
                            have h := h x6_34 e_35
                            refine lv_iinc (v := x6_34) (lv' := [(6, .int x6_34), (0, .ref (ad 0)), (1, .int a1), (2, .int a2), (3, .int a3), (4, .int a4), (5, .int a5)]) hx hb dX9_copy_153 hl (k := 6) rfl (by rw [e_35]; rfl) (by decide) rfl (fun ls hl => ?_)
                            refine lv_goto (tgt := 125) hx hb dX9_copy_156 (by decide) ?_
                            exact ih125 x6_34 mSp_32 h H locs ls hP hD hS (lv_sub hl [1, 2, 3, 4, 5, 6, 0] rfl)
                      obtain ⟨n125, h⟩ := h
                      refine L125 _ (fun mSp_30 h H locs ls hP hD hS hl => ?_) n125 0 mSp h H locs ls hP hD hS (lv_sub hl [1, 2, 3, 4, 5, 6, 0] rfl)
                      refine lv_iconst (v := 0) hx hb dX9_copy_159 (by decide) ?_
                      refine lv_istore (lv' := [(6, .int 0), (0, .ref (ad 0)), (3, .int a3), (4, .int a4), (5, .int a5)]) hx hb dX9_copy_160 hl (by decide) rfl (fun ls hl => ?_)
                      have L162 : ∀ (x162 : (Nat → Int64) → Prop) (hk162 : ∀ (mRo_38 : Nat → Int64), x162 mRo_38 → ∀ (H : Heap) (locs : List Loc) (ls : Array Slot), va_P D vwCl (WM cI cJ cZ cK ad ud pT pK pN pF pS qT qK qN qF qS mKe mUn mFi mRi mBe mWc mAK mSh mIP mUS mWa mWi mSi mRo_38 mSp_30 mRw mSn mBg mLa mMo mRm mOw mGo mFr mQu mCh mPB mPS mFs ub uT uK uN uF uS) H → va_D A (WM cI cJ cZ cK ad ud pT pK pN pF pS qT qK qN qF qS mKe mUn mFi mRi mBe mWc mAK mSh mIP mUS mWa mWi mSi mRo_38 mSp_30 mRw mSn mBg mLa mMo mRm mOw mGo mFr mQu mCh mPB mPS mFs ub uT uK uN uF uS) → va_S A s.heap H locs → lv_has ls 7 [(5, .int a5)] → W p l e (headSpec wsX9_copy rm_X9_copy).room s m args below meth c H locs 0 0 Q (F0 m 197 ls [])) (n162 : Nat) (x6_36 : Int32) (mRo_37 : Nat → Int64), wp_X9_copy_L162 a3 a4 a5 mSp_30 x162 n162 x6_36 mRo_37 → ∀ (H : Heap) (locs : List Loc) (ls : Array Slot), va_P D vwCl (WM cI cJ cZ cK ad ud pT pK pN pF pS qT qK qN qF qS mKe mUn mFi mRi mBe mWc mAK mSh mIP mUS mWa mWi mSi mRo_37 mSp_30 mRw mSn mBg mLa mMo mRm mOw mGo mFr mQu mCh mPB mPS mFs ub uT uK uN uF uS) H → va_D A (WM cI cJ cZ cK ad ud pT pK pN pF pS qT qK qN qF qS mKe mUn mFi mRi mBe mWc mAK mSh mIP mUS mWa mWi mSi mRo_37 mSp_30 mRw mSn mBg mLa mMo mRm mOw mGo mFr mQu mCh mPB mPS mFs ub uT uK uN uF uS) → va_S A s.heap H locs → lv_has ls 7 [(0, .ref (ad 0)), (3, .int a3), (4, .int a4), (5, .int a5), (6, .int x6_36)] → W p l e (headSpec wsX9_copy rm_X9_copy).room s m args below meth c H locs 0 0 Q (F0 m 162 ls []) := by
                        intro x162 hk162 n162
                        induction n162 with
                        | zero => intro x6_36 mRo_37 h; exact False.elim h
                        | succ n162 ih162 =>
                          intro x6_36 mRo_37 h H locs ls hP hD hS hl
                          refine lv_iload hx hb dX9_copy_162 (lv_at hl 4 rfl) ?_
                          refine lv_iload hx hb dX9_copy_164 (lv_at hl 3 rfl) ?_
                          refine lv_icmp_ge (tgt := 197) hx hb dX9_copy_166 (by decide) (fun c_39 => ?_) (fun c_39 => ?_)
                          · have h := h.1 c_39
                            exact hk162 mRo_37 h H locs ls hP hD hS (lv_sub hl [3] rfl)
                          · have h := h.2 c_39
                            refine lv_aload_n hx hb dX9_copy_169 rfl (lv_at hl 0 rfl) ?_
                            refine va_get (D := D) (ci := 9) (C := RX9) (T := TX9) (N := 32) hx hb hts inn_X9_copy_9 hown hAB.1 hP 0 rfl rfl 13 (by decide) (hts (.fieldLink RX9 41 "BarnBenchModel" "rows" "[J") (by decide +kernel)) (fun _ h9 => h9) rfl dX9_copy_170 ?_
                            refine lv_bipush (v := 24) hx hb dX9_copy_173 (by decide) ?_
                            refine lv_iload_n hx hb dX9_copy_175 rfl (lv_at hl 1 rfl) ?_
                            refine lv_imul hx hb dX9_copy_176 ?_
                            refine lv_iload hx hb dX9_copy_177 (lv_at hl 2 rfl) ?_
                            refine lv_iadd hx hb dX9_copy_179 ?_
                            refine lv_iload hx hb dX9_copy_180 (lv_at hl 4 rfl) ?_
                            refine lv_iadd hx hb dX9_copy_182 ?_
                            refine lv_aload_n hx hb dX9_copy_183 rfl (lv_at hl 0 rfl) ?_
                            refine va_get (D := D) (ci := 9) (C := RX9) (T := TX9) (N := 32) hx hb hts inn_X9_copy_9 hown hAB.1 hP 0 rfl rfl 14 (by decide) (hts (.fieldLink RX9 45 "BarnBenchModel" "spare" "[J") (by decide +kernel)) (fun _ h9 => h9) rfl dX9_copy_184 ?_
                            refine lv_iload hx hb dX9_copy_187 (lv_at hl 4 rfl) ?_
                            refine va_lald hx hb hAB.1 hP 17 1 rfl rfl h.1 dX9_copy_189 ?_
                            have h := h.2
                            refine sM_16 hx hb hAB hP hD hS h.1 dX9_copy_190 (fun mRo_40 H locs e_41 hP hD hS => ?_)
                            have h := h.2
                            have h := h mRo_40 e_41
                            obtain ⟨x6_42, e_43⟩ : ∃ y : Int32, y = x6_36 + 1 := ⟨_, rfl⟩
                            have h := h x6_42 e_43
                            refine lv_iinc (v := x6_42) (lv' := [(6, .int x6_42), (0, .ref (ad 0)), (3, .int a3), (4, .int a4), (5, .int a5)]) hx hb dX9_copy_191 hl (k := 4) rfl (by rw [e_43]; rfl) (by decide) rfl (fun ls hl => ?_)
                            refine lv_goto (tgt := 162) hx hb dX9_copy_194 (by decide) ?_
                            exact ih162 x6_42 mRo_40 h H locs ls hP hD hS (lv_sub hl [1, 2, 3, 4, 0] rfl)
                      obtain ⟨n162, h⟩ := h
                      refine L162 _ (fun mRo_38 h H locs ls hP hD hS hl => ?_) n162 0 mRo h H locs ls hP hD hS (lv_sub hl [1, 2, 3, 4, 0] rfl)
                      refine lv_iload hx hb dX9_copy_197 (lv_at hl 0 rfl) ?_
                      exact rt_i (mFi, mRo_38, mSp_30) hQ hx hb hr hlk hP hD hS ⟨Nat.zero_le _, Nat.zero_le _⟩ dX9_copy_199 h
                    · have h := h.2 c_27
                      exact B116 mFi mRo mSp h H locs ls hP hD hS (lv_sub hl [0] rfl)
          · have h := h.2 c_22
            refine lv_aload_n hx hb dX9_copy_60 rfl (lv_at hl 0 rfl) ?_
            refine lv_bipush (v := (-4)) hx hb dX9_copy_61 (by decide) ?_
            refine cl_i hD hS hA (va_runV (As := [.int (-4)]) (rest := []) ⟨hx, hb, hml, hown, hts⟩ (ct_X9_found h H.size) (cwV 1 hts gX9_copy_X9_found rfl rfl rfl (by decide +kernel) ⟨Nat.le_of_ble_eq_true rfl, Nat.le_of_ble_eq_true rfl⟩) ⟨CPre.blind, va_recv hAB.1 hP (ci := 9) (q0 := 0) rfl rfl, wd_pre hAB hP hD hS hA⟩ rfl rfl hl.1 rfl (lv_room (Nat.le_of_ble_eq_true rfl)) dX9_copy_63 ⟨Nat.zero_le _, Nat.zero_le _⟩) (fun r_44 mFi_45 H locs h hP hD hS => ?_)
            have hP : va_P D vwCl (WM cI cJ cZ cK ad ud pT pK pN pF pS qT qK qN qF qS mKe mUn mFi_45 mRi mBe mWc mAK mSh mIP mUS mWa mWi mSi mRo mSp mRw mSn mBg mLa mMo mRm mOw mGo mFr mQu mCh mPB mPS mFs ub uT uK uN uF uS) H := hP
            have hD : va_D A (WM cI cJ cZ cK ad ud pT pK pN pF pS qT qK qN qF qS mKe mUn mFi_45 mRi mBe mWc mAK mSh mIP mUS mWa mWi mSi mRo mSp mRw mSn mBg mLa mMo mRm mOw mGo mFr mQu mCh mPB mPS mFs ub uT uK uN uF uS) := hD
            exact rt_i (mFi_45, mRo, mSp) hQ hx hb hr hlk hP hD hS ⟨Nat.zero_le _, Nat.zero_le _⟩ dX9_copy_66 h
        · have h := h.2 c_21
          exact B38 mFi mRo mSp h H locs ls hP hD hS (lv_sub hl [0] rfl)
    · have h := h.2 c_19
      exact B14 mFi mRo mSp h H locs ls hP hD hS (lv_sub hl [0] rfl)
def wp_X9_task_L382 (x7_1 : Int32) (x382 : (Nat → Int32) → Prop) : Nat → (Int32) → (Nat → Int32) → Prop
  | 0, _, _ => False
  | n382 + 1, x8_19, pF_20 =>
  ((12 ≤ x8_19 → x382 pF_20) ∧
   (¬ 12 ≤ x8_19 → vp_in ((12 * x7_1) + x8_19) 144 ∧ ∀ pF_23 : Nat → Int32, pF_23 = upd pF_20 (Int32.toNatClampNeg ((12 * x7_1) + x8_19)) (vp_nar .boolean 0) → vp_in ((12 * x8_19) + x7_1) 144 ∧ ∀ pF_25 : Nat → Int32, pF_25 = upd pF_23 (Int32.toNatClampNeg ((12 * x8_19) + x7_1)) (vp_nar .boolean 0) → ∀ x8_27 : Int32, x8_27 = x8_19 + 1 → (wp_X9_task_L382 x7_1 x382 n382) x8_27 pF_25))
def wp_X9_task_b379 (Qp : Int32 → (Int32) → (Nat → Int32) → (Nat → Int32) → (Nat → Int32) → (Nat → Int32) → (Int32) → (Int32) → (Int32) → (Int32) → (Nat → Int32) → (Nat → Int64) → (Nat → Nat) → (Nat → Int32) → (Nat → Nat → Int32) → (Nat → Nat → Int32) → (Nat → Nat → Int32) → (Nat → Nat → Int32) → Prop) (x7_1 : Int32) (pT_2 : Int32) (pK_3 : Nat → Int32) (pN_4 : Nat → Int32) (pF_5 : Nat → Int32) (pS_6 : Nat → Int32) (mUn_7 : Int32) (mFi_8 : Int32) (mAK_9 : Int32) (mIP_10 : Int32) (mUS_11 : Nat → Int32) (mSp_12 : Nat → Int64) (ub_13 : Nat → Nat) (uT_14 : Nat → Int32) (uK_15 : Nat → Nat → Int32) (uN_16 : Nat → Nat → Int32) (uF_17 : Nat → Nat → Int32) (uS_18 : Nat → Nat → Int32) : Prop :=
  (∃ n382 : Nat, wp_X9_task_L382 x7_1 (fun (pF_21 : Nat → Int32) => vp_in 0 24 ∧ vp_in x7_1 12 ∧ ∀ pS_29 : Nat → Int32, pS_29 = upd pS_6 (Int32.toNatClampNeg x7_1) (Int64.toInt32 (mSp_12 (Int32.toNatClampNeg 0))) → ∀ pT_31 : Int32, pT_31 = (pT_2 + 1) → Qp x7_1 pT_31 pK_3 pN_4 pF_21 pS_29 mUn_7 mFi_8 mAK_9 mIP_10 mUS_11 mSp_12 ub_13 uT_14 uK_15 uN_16 uF_17 uS_18) n382 0 pF_5)
def wp_X9_task_b347 (k310 : (Int32) → (Nat → Int32) → Prop) (y_70 : Int32) (y_71 : Int32) (x8_69 : Int32) (pN_72 : Nat → Int32) : Prop :=
  vp_in y_70 60 ∧ ∀ pN_73 : Nat → Int32, pN_73 = upd pN_72 (Int32.toNatClampNeg y_70) y_71 → ∀ x8_75 : Int32, x8_75 = x8_69 + 1 → k310 x8_75 pN_73
def wp_X9_task_L310 (x4_33 : Int32) (pT_35 : Int32) (mSp_45 : Nat → Int64) (x310 : (Nat → Int32) → Prop) : Nat → (Int32) → (Nat → Int32) → Prop
  | 0, _, _ => False
  | n310 + 1, x8_66, pN_67 =>
  ((5 ≤ x8_66 → x310 pN_67) ∧
   (¬ 5 ≤ x8_66 → ((x4_33 ≤ x8_66 → wp_X9_task_b347 (wp_X9_task_L310 x4_33 pT_35 mSp_45 x310 n310) ((5 * pT_35) + x8_66) 0 x8_66 pN_67) ∧
   (¬ x4_33 ≤ x8_66 → vp_in x8_66 24 ∧ wp_X9_task_b347 (wp_X9_task_L310 x4_33 pT_35 mSp_45 x310 n310) ((5 * pT_35) + x8_66) (Int64.toInt32 (mSp_45 (Int32.toNatClampNeg x8_66))) x8_66 pN_67))))
def wp_X9_task_b251 (Qp : Int32 → (Int32) → (Nat → Int32) → (Nat → Int32) → (Nat → Int32) → (Nat → Int32) → (Int32) → (Int32) → (Int32) → (Int32) → (Nat → Int32) → (Nat → Int64) → (Nat → Nat) → (Nat → Int32) → (Nat → Nat → Int32) → (Nat → Nat → Int32) → (Nat → Nat → Int32) → (Nat → Nat → Int32) → Prop) (a1 : Int32) (x4_33 : Int32) (x6_34 : Int32) (pT_35 : Int32) (pK_36 : Nat → Int32) (pN_37 : Nat → Int32) (pF_38 : Nat → Int32) (pS_39 : Nat → Int32) (mUn_40 : Int32) (mFi_41 : Int32) (mAK_42 : Int32) (mIP_43 : Int32) (mUS_44 : Nat → Int32) (mSp_45 : Nat → Int64) (ub_46 : Nat → Nat) (uT_47 : Nat → Int32) (uK_48 : Nat → Nat → Int32) (uN_49 : Nat → Nat → Int32) (uF_50 : Nat → Nat → Int32) (uS_51 : Nat → Nat → Int32) : Prop :=
  ((¬ x6_34 = 0 → ((¬ pT_35 = 12 → wp_X9_remember pT_35 pK_36 pN_37 pF_38 pS_39 mUn_40 mAK_42 mIP_43 mUS_44 ub_46 uT_47 uK_48 uN_49 uF_50 uS_51 0 (fun (mUn_54 : Int32) (mAK_55 : Int32) (mIP_56 : Int32) (mUS_57 : Nat → Int32) (ub_58 : Nat → Nat) (uT_59 : Nat → Int32) (uK_60 : Nat → Nat → Int32) (uN_61 : Nat → Nat → Int32) (uF_62 : Nat → Nat → Int32) (uS_63 : Nat → Nat → Int32) => vp_in pT_35 12 ∧ ∀ pK_64 : Nat → Int32, pK_64 = upd pK_36 (Int32.toNatClampNeg pT_35) a1 → (∃ n310 : Nat, wp_X9_task_L310 x4_33 pT_35 mSp_45 (fun (pN_68 : Nat → Int32) => ((¬ x4_33 = 1 → wp_X9_task_b379 Qp pT_35 pT_35 pK_64 pN_68 pF_38 pS_39 mUn_54 mFi_41 mAK_55 mIP_56 mUS_57 mSp_45 ub_58 uT_59 uK_60 uN_61 uF_62 uS_63) ∧
   (x4_33 = 1 → vp_in 0 24 ∧ vp_in ((5 * pT_35) + 1) 60 ∧ ∀ pN_80 : Nat → Int32, pN_80 = upd pN_68 (Int32.toNatClampNeg ((5 * pT_35) + 1)) (Int64.toInt32 (mSp_45 (Int32.toNatClampNeg 0))) → wp_X9_task_b379 Qp pT_35 pT_35 pK_64 pN_80 pF_38 pS_39 mUn_54 mFi_41 mAK_55 mIP_56 mUS_57 mSp_45 ub_58 uT_59 uK_60 uN_61 uF_62 uS_63))) n310 0 pN_37))) ∧
   (pT_35 = 12 → wp_X9_found mFi_41 (-5) (fun (r_82 : Int32) (mFi_83 : Int32) => Qp r_82 pT_35 pK_36 pN_37 pF_38 pS_39 mUn_40 mFi_83 mAK_42 mIP_43 mUS_44 mSp_45 ub_46 uT_47 uK_48 uN_49 uF_50 uS_51)))) ∧
   (x6_34 = 0 → wp_X9_found mFi_41 (-3) (fun (r_84 : Int32) (mFi_85 : Int32) => Qp r_84 pT_35 pK_36 pN_37 pF_38 pS_39 mUn_40 mFi_85 mAK_42 mIP_43 mUS_44 mSp_45 ub_46 uT_47 uK_48 uN_49 uF_50 uS_51)))
def wp_X9_task_b249 (Qp : Int32 → (Int32) → (Nat → Int32) → (Nat → Int32) → (Nat → Int32) → (Nat → Int32) → (Int32) → (Int32) → (Int32) → (Int32) → (Nat → Int32) → (Nat → Int64) → (Nat → Nat) → (Nat → Int32) → (Nat → Nat → Int32) → (Nat → Nat → Int32) → (Nat → Nat → Int32) → (Nat → Nat → Int32) → Prop) (a1 : Int32) (y_87 : Int32) (x4_86 : Int32) (pT_88 : Int32) (pK_89 : Nat → Int32) (pN_90 : Nat → Int32) (pF_91 : Nat → Int32) (pS_92 : Nat → Int32) (mUn_93 : Int32) (mFi_94 : Int32) (mAK_95 : Int32) (mIP_96 : Int32) (mUS_97 : Nat → Int32) (mSp_98 : Nat → Int64) (ub_99 : Nat → Nat) (uT_100 : Nat → Int32) (uK_101 : Nat → Nat → Int32) (uN_102 : Nat → Nat → Int32) (uF_103 : Nat → Nat → Int32) (uS_104 : Nat → Nat → Int32) : Prop :=
  wp_X9_task_b251 Qp a1 x4_86 y_87 pT_88 pK_89 pN_90 pF_91 pS_92 mUn_93 mFi_94 mAK_95 mIP_96 mUS_97 mSp_98 ub_99 uT_100 uK_101 uN_102 uF_103 uS_104
def wp_X9_task_b248 (Qp : Int32 → (Int32) → (Nat → Int32) → (Nat → Int32) → (Nat → Int32) → (Nat → Int32) → (Int32) → (Int32) → (Int32) → (Int32) → (Nat → Int32) → (Nat → Int64) → (Nat → Nat) → (Nat → Int32) → (Nat → Nat → Int32) → (Nat → Nat → Int32) → (Nat → Nat → Int32) → (Nat → Nat → Int32) → Prop) (a1 : Int32) (x4_105 : Int32) (pT_106 : Int32) (pK_107 : Nat → Int32) (pN_108 : Nat → Int32) (pF_109 : Nat → Int32) (pS_110 : Nat → Int32) (mUn_111 : Int32) (mFi_112 : Int32) (mAK_113 : Int32) (mIP_114 : Int32) (mUS_115 : Nat → Int32) (mSp_116 : Nat → Int64) (ub_117 : Nat → Nat) (uT_118 : Nat → Int32) (uK_119 : Nat → Nat → Int32) (uN_120 : Nat → Nat → Int32) (uF_121 : Nat → Nat → Int32) (uS_122 : Nat → Nat → Int32) : Prop :=
  wp_X9_task_b249 Qp a1 0 x4_105 pT_106 pK_107 pN_108 pF_109 pS_110 mUn_111 mFi_112 mAK_113 mIP_114 mUS_115 mSp_116 ub_117 uT_118 uK_119 uN_120 uF_121 uS_122
def wp_X9_task_b220 (Qp : Int32 → (Int32) → (Nat → Int32) → (Nat → Int32) → (Nat → Int32) → (Nat → Int32) → (Int32) → (Int32) → (Int32) → (Int32) → (Nat → Int32) → (Nat → Int64) → (Nat → Nat) → (Nat → Int32) → (Nat → Nat → Int32) → (Nat → Nat → Int32) → (Nat → Nat → Int32) → (Nat → Nat → Int32) → Prop) (a1 : Int32) (x4_123 : Int32) (x6_124 : Int32) (pT_125 : Int32) (pK_126 : Nat → Int32) (pN_127 : Nat → Int32) (pF_128 : Nat → Int32) (pS_129 : Nat → Int32) (mUn_130 : Int32) (mFi_131 : Int32) (mAK_132 : Int32) (mIP_133 : Int32) (mUS_134 : Nat → Int32) (mSp_135 : Nat → Int64) (ub_136 : Nat → Nat) (uT_137 : Nat → Int32) (uK_138 : Nat → Nat → Int32) (uN_139 : Nat → Nat → Int32) (uF_140 : Nat → Nat → Int32) (uS_141 : Nat → Nat → Int32) : Prop :=
  ((¬ a1 = 4 → wp_X9_task_b251 Qp a1 x4_123 x6_124 pT_125 pK_126 pN_127 pF_128 pS_129 mUn_130 mFi_131 mAK_132 mIP_133 mUS_134 mSp_135 ub_136 uT_137 uK_138 uN_139 uF_140 uS_141) ∧
   (a1 = 4 → ((x6_124 = 0 → wp_X9_task_b248 Qp a1 x4_123 pT_125 pK_126 pN_127 pF_128 pS_129 mUn_130 mFi_131 mAK_132 mIP_133 mUS_134 mSp_135 ub_136 uT_137 uK_138 uN_139 uF_140 uS_141) ∧
   (¬ x6_124 = 0 → vp_in 3 24 ∧ wp_X9_in (mSp_135 (Int32.toNatClampNeg 3)) 0 100000 (fun (r_144 : Int32) => ((r_144 = 0 → wp_X9_task_b248 Qp a1 x4_123 pT_125 pK_126 pN_127 pF_128 pS_129 mUn_130 mFi_131 mAK_132 mIP_133 mUS_134 mSp_135 ub_136 uT_137 uK_138 uN_139 uF_140 uS_141) ∧
   (¬ r_144 = 0 → wp_X9_task_b249 Qp a1 1 x4_123 pT_125 pK_126 pN_127 pF_128 pS_129 mUn_130 mFi_131 mAK_132 mIP_133 mUS_134 mSp_135 ub_136 uT_137 uK_138 uN_139 uF_140 uS_141)))))))
def wp_X9_task_b218 (Qp : Int32 → (Int32) → (Nat → Int32) → (Nat → Int32) → (Nat → Int32) → (Nat → Int32) → (Int32) → (Int32) → (Int32) → (Int32) → (Nat → Int32) → (Nat → Int64) → (Nat → Nat) → (Nat → Int32) → (Nat → Nat → Int32) → (Nat → Nat → Int32) → (Nat → Nat → Int32) → (Nat → Nat → Int32) → Prop) (a1 : Int32) (y_147 : Int32) (x4_146 : Int32) (pT_148 : Int32) (pK_149 : Nat → Int32) (pN_150 : Nat → Int32) (pF_151 : Nat → Int32) (pS_152 : Nat → Int32) (mUn_153 : Int32) (mFi_154 : Int32) (mAK_155 : Int32) (mIP_156 : Int32) (mUS_157 : Nat → Int32) (mSp_158 : Nat → Int64) (ub_159 : Nat → Nat) (uT_160 : Nat → Int32) (uK_161 : Nat → Nat → Int32) (uN_162 : Nat → Nat → Int32) (uF_163 : Nat → Nat → Int32) (uS_164 : Nat → Nat → Int32) : Prop :=
  wp_X9_task_b220 Qp a1 x4_146 y_147 pT_148 pK_149 pN_150 pF_151 pS_152 mUn_153 mFi_154 mAK_155 mIP_156 mUS_157 mSp_158 ub_159 uT_160 uK_161 uN_162 uF_163 uS_164
def wp_X9_task_b217 (Qp : Int32 → (Int32) → (Nat → Int32) → (Nat → Int32) → (Nat → Int32) → (Nat → Int32) → (Int32) → (Int32) → (Int32) → (Int32) → (Nat → Int32) → (Nat → Int64) → (Nat → Nat) → (Nat → Int32) → (Nat → Nat → Int32) → (Nat → Nat → Int32) → (Nat → Nat → Int32) → (Nat → Nat → Int32) → Prop) (a1 : Int32) (x4_165 : Int32) (pT_166 : Int32) (pK_167 : Nat → Int32) (pN_168 : Nat → Int32) (pF_169 : Nat → Int32) (pS_170 : Nat → Int32) (mUn_171 : Int32) (mFi_172 : Int32) (mAK_173 : Int32) (mIP_174 : Int32) (mUS_175 : Nat → Int32) (mSp_176 : Nat → Int64) (ub_177 : Nat → Nat) (uT_178 : Nat → Int32) (uK_179 : Nat → Nat → Int32) (uN_180 : Nat → Nat → Int32) (uF_181 : Nat → Nat → Int32) (uS_182 : Nat → Nat → Int32) : Prop :=
  wp_X9_task_b218 Qp a1 0 x4_165 pT_166 pK_167 pN_168 pF_169 pS_170 mUn_171 mFi_172 mAK_173 mIP_174 mUS_175 mSp_176 ub_177 uT_178 uK_179 uN_180 uF_181 uS_182
def wp_X9_task_b175 (Qp : Int32 → (Int32) → (Nat → Int32) → (Nat → Int32) → (Nat → Int32) → (Nat → Int32) → (Int32) → (Int32) → (Int32) → (Int32) → (Nat → Int32) → (Nat → Int64) → (Nat → Nat) → (Nat → Int32) → (Nat → Nat → Int32) → (Nat → Nat → Int32) → (Nat → Nat → Int32) → (Nat → Nat → Int32) → Prop) (a1 : Int32) (x4_183 : Int32) (x6_184 : Int32) (pT_185 : Int32) (pK_186 : Nat → Int32) (pN_187 : Nat → Int32) (pF_188 : Nat → Int32) (pS_189 : Nat → Int32) (mUn_190 : Int32) (mFi_191 : Int32) (mAK_192 : Int32) (mIP_193 : Int32) (mUS_194 : Nat → Int32) (mSp_195 : Nat → Int64) (ub_196 : Nat → Nat) (uT_197 : Nat → Int32) (uK_198 : Nat → Nat → Int32) (uN_199 : Nat → Nat → Int32) (uF_200 : Nat → Nat → Int32) (uS_201 : Nat → Nat → Int32) : Prop :=
  ((¬ a1 = 2 → wp_X9_task_b220 Qp a1 x4_183 x6_184 pT_185 pK_186 pN_187 pF_188 pS_189 mUn_190 mFi_191 mAK_192 mIP_193 mUS_194 mSp_195 ub_196 uT_197 uK_198 uN_199 uF_200 uS_201) ∧
   (a1 = 2 → ((x6_184 = 0 → wp_X9_task_b217 Qp a1 x4_183 pT_185 pK_186 pN_187 pF_188 pS_189 mUn_190 mFi_191 mAK_192 mIP_193 mUS_194 mSp_195 ub_196 uT_197 uK_198 uN_199 uF_200 uS_201) ∧
   (¬ x6_184 = 0 → vp_in 3 24 ∧ wp_X9_in (mSp_195 (Int32.toNatClampNeg 3)) 0 60 (fun (r_204 : Int32) => ((r_204 = 0 → wp_X9_task_b217 Qp a1 x4_183 pT_185 pK_186 pN_187 pF_188 pS_189 mUn_190 mFi_191 mAK_192 mIP_193 mUS_194 mSp_195 ub_196 uT_197 uK_198 uN_199 uF_200 uS_201) ∧
   (¬ r_204 = 0 → vp_in 4 24 ∧ wp_X9_in (mSp_195 (Int32.toNatClampNeg 4)) 0 100000 (fun (r_206 : Int32) => ((r_206 = 0 → wp_X9_task_b217 Qp a1 x4_183 pT_185 pK_186 pN_187 pF_188 pS_189 mUn_190 mFi_191 mAK_192 mIP_193 mUS_194 mSp_195 ub_196 uT_197 uK_198 uN_199 uF_200 uS_201) ∧
   (¬ r_206 = 0 → wp_X9_task_b218 Qp a1 1 x4_183 pT_185 pK_186 pN_187 pF_188 pS_189 mUn_190 mFi_191 mAK_192 mIP_193 mUS_194 mSp_195 ub_196 uT_197 uK_198 uN_199 uF_200 uS_201))))))))))
def wp_X9_task_b173 (Qp : Int32 → (Int32) → (Nat → Int32) → (Nat → Int32) → (Nat → Int32) → (Nat → Int32) → (Int32) → (Int32) → (Int32) → (Int32) → (Nat → Int32) → (Nat → Int64) → (Nat → Nat) → (Nat → Int32) → (Nat → Nat → Int32) → (Nat → Nat → Int32) → (Nat → Nat → Int32) → (Nat → Nat → Int32) → Prop) (a1 : Int32) (y_209 : Int32) (x4_208 : Int32) (pT_210 : Int32) (pK_211 : Nat → Int32) (pN_212 : Nat → Int32) (pF_213 : Nat → Int32) (pS_214 : Nat → Int32) (mUn_215 : Int32) (mFi_216 : Int32) (mAK_217 : Int32) (mIP_218 : Int32) (mUS_219 : Nat → Int32) (mSp_220 : Nat → Int64) (ub_221 : Nat → Nat) (uT_222 : Nat → Int32) (uK_223 : Nat → Nat → Int32) (uN_224 : Nat → Nat → Int32) (uF_225 : Nat → Nat → Int32) (uS_226 : Nat → Nat → Int32) : Prop :=
  wp_X9_task_b175 Qp a1 x4_208 y_209 pT_210 pK_211 pN_212 pF_213 pS_214 mUn_215 mFi_216 mAK_217 mIP_218 mUS_219 mSp_220 ub_221 uT_222 uK_223 uN_224 uF_225 uS_226
def wp_X9_task_b172 (Qp : Int32 → (Int32) → (Nat → Int32) → (Nat → Int32) → (Nat → Int32) → (Nat → Int32) → (Int32) → (Int32) → (Int32) → (Int32) → (Nat → Int32) → (Nat → Int64) → (Nat → Nat) → (Nat → Int32) → (Nat → Nat → Int32) → (Nat → Nat → Int32) → (Nat → Nat → Int32) → (Nat → Nat → Int32) → Prop) (a1 : Int32) (x4_227 : Int32) (pT_228 : Int32) (pK_229 : Nat → Int32) (pN_230 : Nat → Int32) (pF_231 : Nat → Int32) (pS_232 : Nat → Int32) (mUn_233 : Int32) (mFi_234 : Int32) (mAK_235 : Int32) (mIP_236 : Int32) (mUS_237 : Nat → Int32) (mSp_238 : Nat → Int64) (ub_239 : Nat → Nat) (uT_240 : Nat → Int32) (uK_241 : Nat → Nat → Int32) (uN_242 : Nat → Nat → Int32) (uF_243 : Nat → Nat → Int32) (uS_244 : Nat → Nat → Int32) : Prop :=
  wp_X9_task_b173 Qp a1 0 x4_227 pT_228 pK_229 pN_230 pF_231 pS_232 mUn_233 mFi_234 mAK_235 mIP_236 mUS_237 mSp_238 ub_239 uT_240 uK_241 uN_242 uF_243 uS_244
def wp_X9_task_b68 (Qp : Int32 → (Int32) → (Nat → Int32) → (Nat → Int32) → (Nat → Int32) → (Nat → Int32) → (Int32) → (Int32) → (Int32) → (Int32) → (Nat → Int32) → (Nat → Int64) → (Nat → Nat) → (Nat → Int32) → (Nat → Nat → Int32) → (Nat → Nat → Int32) → (Nat → Nat → Int32) → (Nat → Nat → Int32) → Prop) (pT_245 : Int32) (pK_246 : Nat → Int32) (pN_247 : Nat → Int32) (pF_248 : Nat → Int32) (pS_249 : Nat → Int32) (mUn_250 : Int32) (mFi_251 : Int32) (mAK_252 : Int32) (mIP_253 : Int32) (mUS_254 : Nat → Int32) (mSp_255 : Nat → Int64) (ub_256 : Nat → Nat) (uT_257 : Nat → Int32) (uK_258 : Nat → Nat → Int32) (uN_259 : Nat → Nat → Int32) (uF_260 : Nat → Nat → Int32) (uS_261 : Nat → Nat → Int32) : Prop :=
  wp_X9_found mFi_251 (-1) (fun (r_262 : Int32) (mFi_263 : Int32) => Qp r_262 pT_245 pK_246 pN_247 pF_248 pS_249 mUn_250 mFi_263 mAK_252 mIP_253 mUS_254 mSp_255 ub_256 uT_257 uK_258 uN_259 uF_260 uS_261)
def wp_X9_task_b19 (Qp : Int32 → (Int32) → (Nat → Int32) → (Nat → Int32) → (Nat → Int32) → (Nat → Int32) → (Int32) → (Int32) → (Int32) → (Int32) → (Nat → Int32) → (Nat → Int64) → (Nat → Nat) → (Nat → Int32) → (Nat → Nat → Int32) → (Nat → Nat → Int32) → (Nat → Nat → Int32) → (Nat → Nat → Int32) → Prop) (pT_264 : Int32) (pK_265 : Nat → Int32) (pN_266 : Nat → Int32) (pF_267 : Nat → Int32) (pS_268 : Nat → Int32) (mUn_269 : Int32) (mFi_270 : Int32) (mAK_271 : Int32) (mIP_272 : Int32) (mUS_273 : Nat → Int32) (mSp_274 : Nat → Int64) (ub_275 : Nat → Nat) (uT_276 : Nat → Int32) (uK_277 : Nat → Nat → Int32) (uN_278 : Nat → Nat → Int32) (uF_279 : Nat → Nat → Int32) (uS_280 : Nat → Nat → Int32) : Prop :=
  wp_X9_found mFi_270 (-1) (fun (r_281 : Int32) (mFi_282 : Int32) => Qp r_281 pT_264 pK_265 pN_266 pF_267 pS_268 mUn_269 mFi_282 mAK_271 mIP_272 mUS_273 mSp_274 ub_275 uT_276 uK_277 uN_278 uF_279 uS_280)
def wp_X9_task_L83 (a2 : Int32) (a3 : Int32) (mRo : Nat → Int64) (r_288 : Int32) (x83 : (Nat → Int64) → Prop) : Nat → (Int32) → (Nat → Int64) → Prop
  | 0, _, _ => False
  | n83 + 1, x6_291, mSp_292 =>
  ((r_288 ≤ x6_291 → x83 mSp_292) ∧
   (¬ r_288 ≤ x6_291 → vp_in (((24 * a2) + a3) + x6_291) 96 ∧ vp_in x6_291 24 ∧ ∀ mSp_295 : Nat → Int64, mSp_295 = vp_updL mSp_292 (Int32.toNatClampNeg x6_291) (mRo (Int32.toNatClampNeg (((24 * a2) + a3) + x6_291))) → ∀ x6_297 : Int32, x6_297 = x6_291 + 1 → (wp_X9_task_L83 a2 a3 mRo r_288 x83 n83) x6_297 mSp_295))
def wp_X9_task (pT : Int32) (pK : Nat → Int32) (pN : Nat → Int32) (pF : Nat → Int32) (pS : Nat → Int32) (mUn : Int32) (mFi : Int32) (mAK : Int32) (mIP : Int32) (mUS : Nat → Int32) (mWi : Nat → Int32) (mSi : Nat → Int32) (mRo : Nat → Int64) (mSp : Nat → Int64) (ub : Nat → Nat) (uT : Nat → Int32) (uK : Nat → Nat → Int32) (uN : Nat → Nat → Int32) (uF : Nat → Nat → Int32) (uS : Nat → Nat → Int32) (a1 : Int32) (a2 : Int32) (a3 : Int32) (Qp : Int32 → (Int32) → (Nat → Int32) → (Nat → Int32) → (Nat → Int32) → (Nat → Int32) → (Int32) → (Int32) → (Int32) → (Int32) → (Nat → Int32) → (Nat → Int64) → (Nat → Nat) → (Nat → Int32) → (Nat → Nat → Int32) → (Nat → Nat → Int32) → (Nat → Nat → Int32) → (Nat → Nat → Int32) → Prop) : Prop :=
  wp_X9_in (Int32.toInt64 a1) 0 4 (fun (r_283 : Int32) => ((r_283 = 0 → wp_X9_task_b19 Qp pT pK pN pF pS mUn mFi mAK mIP mUS mSp ub uT uK uN uF uS) ∧
   (¬ r_283 = 0 → wp_X9_isBoard a2 (fun (r_285 : Int32) => ((¬ r_285 = 0 → vp_in a2 4 ∧ ((¬ (mWi (Int32.toNatClampNeg a2)) = 0 → wp_X9_needs a1 (fun (r_288 : Int32) => ((a3 < 0 → wp_X9_task_b68 Qp pT pK pN pF pS mUn mFi mAK mIP mUS mSp ub uT uK uN uF uS) ∧
   (¬ a3 < 0 → vp_in a2 4 ∧ (((lg_cmp ((Int32.toInt64 a3) + (Int32.toInt64 r_288)) (Int32.toInt64 (mSi (Int32.toNatClampNeg a2)))) ≤ 0 → (∃ n83 : Nat, wp_X9_task_L83 a2 a3 mRo r_288 (fun (mSp_293 : Nat → Int64) => vp_in 0 24 ∧ wp_X9_in (mSp_293 (Int32.toNatClampNeg 0)) 0 60 (fun (r_299 : Int32) => ((r_288 ≤ 1 → wp_X9_task_b175 Qp a1 r_288 r_299 pT pK pN pF pS mUn mFi mAK mIP mUS mSp_293 ub uT uK uN uF uS) ∧
   (¬ r_288 ≤ 1 → ((r_299 = 0 → wp_X9_task_b172 Qp a1 r_288 pT pK pN pF pS mUn mFi mAK mIP mUS mSp_293 ub uT uK uN uF uS) ∧
   (¬ r_299 = 0 → vp_in 1 24 ∧ vp_in 0 24 ∧ wp_X9_in (mSp_293 (Int32.toNatClampNeg 1)) 0 (mSp_293 (Int32.toNatClampNeg 0)) (fun (r_302 : Int32) => ((r_302 = 0 → wp_X9_task_b172 Qp a1 r_288 pT pK pN pF pS mUn mFi mAK mIP mUS mSp_293 ub uT uK uN uF uS) ∧
   (¬ r_302 = 0 → vp_in 2 24 ∧ wp_X9_in (mSp_293 (Int32.toNatClampNeg 2)) 0 100000 (fun (r_304 : Int32) => ((r_304 = 0 → wp_X9_task_b172 Qp a1 r_288 pT pK pN pF pS mUn mFi mAK mIP mUS mSp_293 ub uT uK uN uF uS) ∧
   (¬ r_304 = 0 → wp_X9_task_b173 Qp a1 1 r_288 pT pK pN pF pS mUn mFi mAK mIP mUS mSp_293 ub uT uK uN uF uS)))))))))))) n83 0 mSp)) ∧
   (¬ (lg_cmp ((Int32.toInt64 a3) + (Int32.toInt64 r_288)) (Int32.toInt64 (mSi (Int32.toNatClampNeg a2)))) ≤ 0 → wp_X9_task_b68 Qp pT pK pN pF pS mUn mFi mAK mIP mUS mSp ub uT uK uN uF uS)))))) ∧
   ((mWi (Int32.toNatClampNeg a2)) = 0 → wp_X9_found mFi (-2) (fun (r_306 : Int32) (mFi_307 : Int32) => Qp r_306 pT pK pN pF pS mUn mFi_307 mAK mIP mUS mSp ub uT uK uN uF uS)))) ∧
   (r_285 = 0 → wp_X9_task_b19 Qp pT pK pN pF pS mUn mFi mAK mIP mUS mSp ub uT uK uN uF uS))))))
theorem inn_X9_task_8 : ∀ w ∈ u_ws RX8 TX8 5, w ∈ wsX9_task := fun _ h => List.mem_cons_of_mem _ (List.mem_append_right _ h)
theorem inn_X9_task_9 : ∀ w ∈ u_ws RX9 TX9 32, w ∈ wsX9_task := fun _ h => List.mem_cons_of_mem _ (List.mem_append_left _ (List.mem_append_right _ h))
def rm_X9_task : Room := { frames := 2, cells := 0, slots := 0, locals := 45 }
set_option maxHeartbeats 4000000 in
set_option maxRecDepth 100000 in
theorem ct_X9_task {l : Launch} {D : va_G} {cI cJ cZ cE cD cK : ClassId} {ad : Nat → Nat} {ud : Nat → Nat → Nat} {pT : Int32} {pK : Nat → Int32} {pN : Nat → Int32} {pF : Nat → Int32} {pS : Nat → Int32} {qT : Int32} {qK : Nat → Int32} {qN : Nat → Int32} {qF : Nat → Int32} {qS : Nat → Int32} {mKe : Int32} {mUn : Int32} {mFi : Int32} {mRi : Int32} {mBe : Int64} {mWc : Int32} {mAK : Int32} {mSh : Int32} {mIP : Int32} {mUS : Nat → Int32} {mWa : Nat → Int32} {mWi : Nat → Int32} {mSi : Nat → Int32} {mRo : Nat → Int64} {mSp : Nat → Int64} {mRw : Nat → Int32} {mSn : Nat → Int32} {mBg : Nat → Int32} {mLa : Nat → Int32} {mMo : Nat → Int32} {mRm : Nat → Int64} {mOw : Nat → Int64} {mGo : Nat → Int32} {mFr : Nat → Int32} {mQu : Nat → Int32} {mCh : Nat → Int64} {mPB : Nat → Int32} {mPS : Nat → Int32} {mFs : Nat → Int32} {ub : Nat → Nat} {uT : Nat → Int32} {uK : Nat → Nat → Int32} {uN : Nat → Nat → Int32} {uF : Nat → Nat → Int32} {uS : Nat → Nat → Int32}   {a1 : Int32} {a2 : Int32} {a3 : Int32} {Qp : Int32 → (Int32) → (Nat → Int32) → (Nat → Int32) → (Nat → Int32) → (Nat → Int32) → (Int32) → (Int32) → (Int32) → (Int32) → (Nat → Int32) → (Nat → Int64) → (Nat → Nat) → (Nat → Int32) → (Nat → Nat → Int32) → (Nat → Nat → Int32) → (Nat → Nat → Int32) → (Nat → Nat → Int32) → Prop}   (h : wp_X9_task pT pK pN pF pS mUn mFi mAK mIP mUS mWi mSi mRo mSp ub uT uK uN uF uS a1 a2 a3 Qp) : CTi l yX9_task wsX9_task rm_X9_task D (tyL cI cJ cZ cE cD cK) [.ref (ad 0), .int a1, .int a2, .int a3] (WM cI cJ cZ cK ad ud pT pK pN pF pS qT qK qN qF qS mKe mUn mFi mRi mBe mWc mAK mSh mIP mUS mWa mWi mSi mRo mSp mRw mSn mBg mLa mMo mRm mOw mGo mFr mQu mCh mPB mPS mFs ub uT uK uN uF uS) (fun (r : Int32) (u : (Int32) × (Nat → Int32) × (Nat → Int32) × (Nat → Int32) × (Nat → Int32) × (Int32) × (Int32) × (Int32) × (Int32) × (Nat → Int32) × (Nat → Int64) × (Nat → Nat) × (Nat → Int32) × (Nat → Nat → Int32) × (Nat → Nat → Int32) × (Nat → Nat → Int32) × (Nat → Nat → Int32)) => Qp r u.1 u.2.1 u.2.2.1 u.2.2.2.1 u.2.2.2.2.1 u.2.2.2.2.2.1 u.2.2.2.2.2.2.1 u.2.2.2.2.2.2.2.1 u.2.2.2.2.2.2.2.2.1 u.2.2.2.2.2.2.2.2.2.1 u.2.2.2.2.2.2.2.2.2.2.1 u.2.2.2.2.2.2.2.2.2.2.2.1 u.2.2.2.2.2.2.2.2.2.2.2.2.1 u.2.2.2.2.2.2.2.2.2.2.2.2.2.1 u.2.2.2.2.2.2.2.2.2.2.2.2.2.2.1 u.2.2.2.2.2.2.2.2.2.2.2.2.2.2.2.1 u.2.2.2.2.2.2.2.2.2.2.2.2.2.2.2.2) (fun u : (Int32) × (Nat → Int32) × (Nat → Int32) × (Nat → Int32) × (Nat → Int32) × (Int32) × (Int32) × (Int32) × (Int32) × (Nat → Int32) × (Nat → Int64) × (Nat → Nat) × (Nat → Int32) × (Nat → Nat → Int32) × (Nat → Nat → Int32) × (Nat → Nat → Int32) × (Nat → Nat → Int32) => (WM cI cJ cZ cK ad ud u.1 u.2.1 u.2.2.1 u.2.2.2.1 u.2.2.2.2.1 qT qK qN qF qS mKe u.2.2.2.2.2.1 u.2.2.2.2.2.2.1 mRi mBe mWc u.2.2.2.2.2.2.2.1 mSh u.2.2.2.2.2.2.2.2.1 u.2.2.2.2.2.2.2.2.2.1 mWa mWi mSi mRo u.2.2.2.2.2.2.2.2.2.2.1 mRw mSn mBg mLa mMo mRm mOw mGo mFr mQu mCh mPB mPS mFs u.2.2.2.2.2.2.2.2.2.2.2.1 u.2.2.2.2.2.2.2.2.2.2.2.2.1 u.2.2.2.2.2.2.2.2.2.2.2.2.2.1 u.2.2.2.2.2.2.2.2.2.2.2.2.2.2.1 u.2.2.2.2.2.2.2.2.2.2.2.2.2.2.2.1 u.2.2.2.2.2.2.2.2.2.2.2.2.2.2.2.2)) 0 0 := by
  refine ent_i (cc := cX9_task) (maxL := 9) (ret := (some .int)) (by decide) rfl (Nat.le_of_ble_eq_true rfl) ?_
  intro p e s m args below meth c A Q hQ hx hb hr hml hown hts hlk hA hAB hP hD hS ls hl
  have hown : s.vm.findClass RX9 = some m.cls := hown
  have hl : lv_has ls 9 [(0, .ref (ad 0)), (1, .int a1), (2, .int a2), (3, .int a3)] := hl
  generalize hH : s.heap = H at hP ⊢
  have hS : va_S A s.heap H [] := by rw [← hH]; exact hS
  clear hH
  generalize ([] : List Loc) = locs at hS ⊢
  have B379 : ∀ (x7_1 : Int32) (pT_2 : Int32) (pK_3 : Nat → Int32) (pN_4 : Nat → Int32) (pF_5 : Nat → Int32) (pS_6 : Nat → Int32) (mUn_7 : Int32) (mFi_8 : Int32) (mAK_9 : Int32) (mIP_10 : Int32) (mUS_11 : Nat → Int32) (mSp_12 : Nat → Int64) (ub_13 : Nat → Nat) (uT_14 : Nat → Int32) (uK_15 : Nat → Nat → Int32) (uN_16 : Nat → Nat → Int32) (uF_17 : Nat → Nat → Int32) (uS_18 : Nat → Nat → Int32), wp_X9_task_b379 Qp x7_1 pT_2 pK_3 pN_4 pF_5 pS_6 mUn_7 mFi_8 mAK_9 mIP_10 mUS_11 mSp_12 ub_13 uT_14 uK_15 uN_16 uF_17 uS_18 → ∀ (H : Heap) (locs : List Loc) (ls : Array Slot), va_P D vwCl (WM cI cJ cZ cK ad ud pT_2 pK_3 pN_4 pF_5 pS_6 qT qK qN qF qS mKe mUn_7 mFi_8 mRi mBe mWc mAK_9 mSh mIP_10 mUS_11 mWa mWi mSi mRo mSp_12 mRw mSn mBg mLa mMo mRm mOw mGo mFr mQu mCh mPB mPS mFs ub_13 uT_14 uK_15 uN_16 uF_17 uS_18) H → va_D A (WM cI cJ cZ cK ad ud pT_2 pK_3 pN_4 pF_5 pS_6 qT qK qN qF qS mKe mUn_7 mFi_8 mRi mBe mWc mAK_9 mSh mIP_10 mUS_11 mWa mWi mSi mRo mSp_12 mRw mSn mBg mLa mMo mRm mOw mGo mFr mQu mCh mPB mPS mFs ub_13 uT_14 uK_15 uN_16 uF_17 uS_18) → va_S A s.heap H locs → lv_has ls 9 [(0, .ref (ad 0)), (5, .ref (ad 17)), (7, .int x7_1)] → W p l e (headSpec wsX9_task rm_X9_task).room s m args below meth c H locs 0 0 Q (F0 m 379 ls []) := by
    intro x7_1 pT_2 pK_3 pN_4 pF_5 pS_6 mUn_7 mFi_8 mAK_9 mIP_10 mUS_11 mSp_12 ub_13 uT_14 uK_15 uN_16 uF_17 uS_18 h H locs ls hP hD hS hl
    refine lv_iconst (v := 0) hx hb dX9_task_379 (by decide) ?_
    refine lv_istore (lv' := [(8, .int 0), (0, .ref (ad 0)), (5, .ref (ad 17)), (7, .int x7_1)]) hx hb dX9_task_380 hl (by decide) rfl (fun ls hl => ?_)
    have L382 : ∀ (x382 : (Nat → Int32) → Prop) (hk382 : ∀ (pF_21 : Nat → Int32), x382 pF_21 → ∀ (H : Heap) (locs : List Loc) (ls : Array Slot), va_P D vwCl (WM cI cJ cZ cK ad ud pT_2 pK_3 pN_4 pF_21 pS_6 qT qK qN qF qS mKe mUn_7 mFi_8 mRi mBe mWc mAK_9 mSh mIP_10 mUS_11 mWa mWi mSi mRo mSp_12 mRw mSn mBg mLa mMo mRm mOw mGo mFr mQu mCh mPB mPS mFs ub_13 uT_14 uK_15 uN_16 uF_17 uS_18) H → va_D A (WM cI cJ cZ cK ad ud pT_2 pK_3 pN_4 pF_21 pS_6 qT qK qN qF qS mKe mUn_7 mFi_8 mRi mBe mWc mAK_9 mSh mIP_10 mUS_11 mWa mWi mSi mRo mSp_12 mRw mSn mBg mLa mMo mRm mOw mGo mFr mQu mCh mPB mPS mFs ub_13 uT_14 uK_15 uN_16 uF_17 uS_18) → va_S A s.heap H locs → lv_has ls 9 [(0, .ref (ad 0)), (5, .ref (ad 17)), (7, .int x7_1)] → W p l e (headSpec wsX9_task rm_X9_task).room s m args below meth c H locs 0 0 Q (F0 m 429 ls [])) (n382 : Nat) (x8_19 : Int32) (pF_20 : Nat → Int32), wp_X9_task_L382 x7_1 x382 n382 x8_19 pF_20 → ∀ (H : Heap) (locs : List Loc) (ls : Array Slot), va_P D vwCl (WM cI cJ cZ cK ad ud pT_2 pK_3 pN_4 pF_20 pS_6 qT qK qN qF qS mKe mUn_7 mFi_8 mRi mBe mWc mAK_9 mSh mIP_10 mUS_11 mWa mWi mSi mRo mSp_12 mRw mSn mBg mLa mMo mRm mOw mGo mFr mQu mCh mPB mPS mFs ub_13 uT_14 uK_15 uN_16 uF_17 uS_18) H → va_D A (WM cI cJ cZ cK ad ud pT_2 pK_3 pN_4 pF_20 pS_6 qT qK qN qF qS mKe mUn_7 mFi_8 mRi mBe mWc mAK_9 mSh mIP_10 mUS_11 mWa mWi mSi mRo mSp_12 mRw mSn mBg mLa mMo mRm mOw mGo mFr mQu mCh mPB mPS mFs ub_13 uT_14 uK_15 uN_16 uF_17 uS_18) → va_S A s.heap H locs → lv_has ls 9 [(0, .ref (ad 0)), (5, .ref (ad 17)), (7, .int x7_1), (8, .int x8_19)] → W p l e (headSpec wsX9_task rm_X9_task).room s m args below meth c H locs 0 0 Q (F0 m 382 ls []) := by
      intro x382 hk382 n382
      induction n382 with
      | zero => intro x8_19 pF_20 h; exact False.elim h
      | succ n382 ih382 =>
        intro x8_19 pF_20 h H locs ls hP hD hS hl
        refine lv_iload hx hb dX9_task_382 (lv_at hl 3 rfl) ?_
        refine lv_bipush (v := 12) hx hb dX9_task_384 (by decide) ?_
        refine lv_icmp_ge (tgt := 429) hx hb dX9_task_386 (by decide) (fun c_22 => ?_) (fun c_22 => ?_)
        · have h := h.1 c_22
          exact hk382 pF_20 h H locs ls hP hD hS (lv_sub hl [0, 1, 2] rfl)
        · have h := h.2 c_22
          refine lv_aload_n hx hb dX9_task_389 rfl (lv_at hl 0 rfl) ?_
          refine va_get (D := D) (ci := 9) (C := RX9) (T := TX9) (N := 32) hx hb hts inn_X9_task_9 hown hAB.1 hP 0 rfl rfl 0 (by decide) (hts (.fieldLink RX9 10 "BarnBenchModel" "b" "LBarnBenchModel$Book;") (by decide +kernel)) (fun _ h9 => h9) rfl dX9_task_390 ?_
          refine va_get (D := D) (ci := 8) (C := RX8) (T := TX8) (N := 5) hx hb hts inn_X9_task_8 hown hAB.1 hP 1 rfl rfl 3 (by decide) (hts (.fieldLink RX9 147 "BarnBenchModel$Book" "follows" "[Z") (by decide +kernel)) (fun _ h9 => h9) rfl dX9_task_393 ?_
          refine lv_bipush (v := 12) hx hb dX9_task_396 (by decide) ?_
          refine lv_iload hx hb dX9_task_398 (lv_at hl 2 rfl) ?_
          refine lv_imul hx hb dX9_task_400 ?_
          refine lv_iload hx hb dX9_task_401 (lv_at hl 3 rfl) ?_
          refine lv_iadd hx hb dX9_task_403 ?_
          refine lv_iconst (v := 0) hx hb dX9_task_404 (by decide) ?_
          refine sM_4 hx hb hAB hP hD hS h.1 dX9_task_405 (fun pF_23 H locs e_24 hP hD hS => ?_)
          have h := h.2
          have h := h pF_23 e_24
          refine lv_aload_n hx hb dX9_task_406 rfl (lv_at hl 0 rfl) ?_
          refine va_get (D := D) (ci := 9) (C := RX9) (T := TX9) (N := 32) hx hb hts inn_X9_task_9 hown hAB.1 hP 0 rfl rfl 0 (by decide) (hts (.fieldLink RX9 10 "BarnBenchModel" "b" "LBarnBenchModel$Book;") (by decide +kernel)) (fun _ h9 => h9) rfl dX9_task_407 ?_
          refine va_get (D := D) (ci := 8) (C := RX8) (T := TX8) (N := 5) hx hb hts inn_X9_task_8 hown hAB.1 hP 1 rfl rfl 3 (by decide) (hts (.fieldLink RX9 147 "BarnBenchModel$Book" "follows" "[Z") (by decide +kernel)) (fun _ h9 => h9) rfl dX9_task_410 ?_
          refine lv_bipush (v := 12) hx hb dX9_task_413 (by decide) ?_
          refine lv_iload hx hb dX9_task_415 (lv_at hl 3 rfl) ?_
          refine lv_imul hx hb dX9_task_417 ?_
          refine lv_iload hx hb dX9_task_418 (lv_at hl 2 rfl) ?_
          refine lv_iadd hx hb dX9_task_420 ?_
          refine lv_iconst (v := 0) hx hb dX9_task_421 (by decide) ?_
          refine sM_4 hx hb hAB hP hD hS h.1 dX9_task_422 (fun pF_25 H locs e_26 hP hD hS => ?_)
          have h := h.2
          have h := h pF_25 e_26
          obtain ⟨x8_27, e_28⟩ : ∃ y : Int32, y = x8_19 + 1 := ⟨_, rfl⟩
          have h := h x8_27 e_28
          refine lv_iinc (v := x8_27) (lv' := [(8, .int x8_27), (0, .ref (ad 0)), (5, .ref (ad 17)), (7, .int x7_1)]) hx hb dX9_task_423 hl (k := 3) rfl (by rw [e_28]; rfl) (by decide) rfl (fun ls hl => ?_)
          refine lv_goto (tgt := 382) hx hb dX9_task_426 (by decide) ?_
          exact ih382 x8_27 pF_25 h H locs ls hP hD hS (lv_sub hl [1, 2, 3, 0] rfl)
    obtain ⟨n382, h⟩ := h
    refine L382 _ (fun pF_21 h H locs ls hP hD hS hl => ?_) n382 0 pF_5 h H locs ls hP hD hS (lv_sub hl [1, 2, 3, 0] rfl)
    refine lv_aload_n hx hb dX9_task_429 rfl (lv_at hl 0 rfl) ?_
    refine va_get (D := D) (ci := 9) (C := RX9) (T := TX9) (N := 32) hx hb hts inn_X9_task_9 hown hAB.1 hP 0 rfl rfl 0 (by decide) (hts (.fieldLink RX9 10 "BarnBenchModel" "b" "LBarnBenchModel$Book;") (by decide +kernel)) (fun _ h9 => h9) rfl dX9_task_430 ?_
    refine va_get (D := D) (ci := 8) (C := RX8) (T := TX8) (N := 5) hx hb hts inn_X9_task_8 hown hAB.1 hP 1 rfl rfl 4 (by decide) (hts (.fieldLink RX9 150 "BarnBenchModel$Book" "spans" "[I") (by decide +kernel)) (fun _ h9 => h9) rfl dX9_task_433 ?_
    refine lv_iload hx hb dX9_task_436 (lv_at hl 2 rfl) ?_
    refine lv_aload hx hb dX9_task_438 (lv_at hl 1 rfl) ?_
    refine lv_iconst (v := 0) hx hb dX9_task_440 (by decide) ?_
    refine va_lald hx hb hAB.1 hP 17 1 rfl rfl h.1 dX9_task_441 ?_
    have h := h.2
    refine lv_l2i hx hb dX9_task_442 rfl ?_
    refine sM_5 hx hb hAB hP hD hS h.1 dX9_task_443 (fun pS_29 H locs e_30 hP hD hS => ?_)
    have h := h.2
    have h := h pS_29 e_30
    refine lv_aload_n hx hb dX9_task_444 rfl (lv_at hl 0 rfl) ?_
    refine va_get (D := D) (ci := 9) (C := RX9) (T := TX9) (N := 32) hx hb hts inn_X9_task_9 hown hAB.1 hP 0 rfl rfl 0 (by decide) (hts (.fieldLink RX9 10 "BarnBenchModel" "b" "LBarnBenchModel$Book;") (by decide +kernel)) (fun _ h9 => h9) rfl dX9_task_445 ?_
    refine lv_dup hx hb dX9_task_448 rfl ?_
    refine va_get (D := D) (ci := 8) (C := RX8) (T := TX8) (N := 5) hx hb hts inn_X9_task_8 hown hAB.1 hP 1 rfl rfl 0 (by decide) (hts (.fieldLink RX9 94 "BarnBenchModel$Book" "tasks" "I") (by decide +kernel)) (fun _ h9 => h9) rfl dX9_task_449 ?_
    refine lv_iconst (v := 1) hx hb dX9_task_452 (by decide) ?_
    refine lv_iadd hx hb dX9_task_453 ?_
    refine fM_1_tasks hx hb hAB hP hD hS hts inn_X9_task_8 hown (hts (.fieldLink RX9 94 "BarnBenchModel$Book" "tasks" "I") (by decide +kernel)) dX9_task_454 (fun pT_31 H locs e_32 hP hD hS => ?_)
    have h := h pT_31 e_32
    refine lv_iload hx hb dX9_task_457 (lv_at hl 2 rfl) ?_
    exact rt_i (pT_31, pK_3, pN_4, pF_21, pS_29, mUn_7, mFi_8, mAK_9, mIP_10, mUS_11, mSp_12, ub_13, uT_14, uK_15, uN_16, uF_17, uS_18) hQ hx hb hr hlk hP hD hS ⟨Nat.zero_le _, Nat.zero_le _⟩ dX9_task_459 h
  have B251 : ∀ (x4_33 : Int32) (x6_34 : Int32) (pT_35 : Int32) (pK_36 : Nat → Int32) (pN_37 : Nat → Int32) (pF_38 : Nat → Int32) (pS_39 : Nat → Int32) (mUn_40 : Int32) (mFi_41 : Int32) (mAK_42 : Int32) (mIP_43 : Int32) (mUS_44 : Nat → Int32) (mSp_45 : Nat → Int64) (ub_46 : Nat → Nat) (uT_47 : Nat → Int32) (uK_48 : Nat → Nat → Int32) (uN_49 : Nat → Nat → Int32) (uF_50 : Nat → Nat → Int32) (uS_51 : Nat → Nat → Int32), wp_X9_task_b251 Qp a1 x4_33 x6_34 pT_35 pK_36 pN_37 pF_38 pS_39 mUn_40 mFi_41 mAK_42 mIP_43 mUS_44 mSp_45 ub_46 uT_47 uK_48 uN_49 uF_50 uS_51 → ∀ (H : Heap) (locs : List Loc) (ls : Array Slot), va_P D vwCl (WM cI cJ cZ cK ad ud pT_35 pK_36 pN_37 pF_38 pS_39 qT qK qN qF qS mKe mUn_40 mFi_41 mRi mBe mWc mAK_42 mSh mIP_43 mUS_44 mWa mWi mSi mRo mSp_45 mRw mSn mBg mLa mMo mRm mOw mGo mFr mQu mCh mPB mPS mFs ub_46 uT_47 uK_48 uN_49 uF_50 uS_51) H → va_D A (WM cI cJ cZ cK ad ud pT_35 pK_36 pN_37 pF_38 pS_39 qT qK qN qF qS mKe mUn_40 mFi_41 mRi mBe mWc mAK_42 mSh mIP_43 mUS_44 mWa mWi mSi mRo mSp_45 mRw mSn mBg mLa mMo mRm mOw mGo mFr mQu mCh mPB mPS mFs ub_46 uT_47 uK_48 uN_49 uF_50 uS_51) → va_S A s.heap H locs → lv_has ls 9 [(0, .ref (ad 0)), (1, .int a1), (4, .int x4_33), (5, .ref (ad 17)), (6, .int x6_34)] → W p l e (headSpec wsX9_task rm_X9_task).room s m args below meth c H locs 0 0 Q (F0 m 251 ls []) := by
    intro x4_33 x6_34 pT_35 pK_36 pN_37 pF_38 pS_39 mUn_40 mFi_41 mAK_42 mIP_43 mUS_44 mSp_45 ub_46 uT_47 uK_48 uN_49 uF_50 uS_51 h H locs ls hP hD hS hl
    refine lv_iload hx hb dX9_task_251 (lv_at hl 4 rfl) ?_
    refine lv_if_ne (tgt := 263) hx hb dX9_task_253 (by decide) (fun c_52 => ?_) (fun c_52 => ?_)
    · have h := h.1 c_52
      refine lv_aload_n hx hb dX9_task_263 rfl (lv_at hl 0 rfl) ?_
      refine va_get (D := D) (ci := 9) (C := RX9) (T := TX9) (N := 32) hx hb hts inn_X9_task_9 hown hAB.1 hP 0 rfl rfl 0 (by decide) (hts (.fieldLink RX9 10 "BarnBenchModel" "b" "LBarnBenchModel$Book;") (by decide +kernel)) (fun _ h9 => h9) rfl dX9_task_264 ?_
      refine va_get (D := D) (ci := 8) (C := RX8) (T := TX8) (N := 5) hx hb hts inn_X9_task_8 hown hAB.1 hP 1 rfl rfl 0 (by decide) (hts (.fieldLink RX9 94 "BarnBenchModel$Book" "tasks" "I") (by decide +kernel)) (fun _ h9 => h9) rfl dX9_task_267 ?_
      refine lv_bipush (v := 12) hx hb dX9_task_270 (by decide) ?_
      refine lv_icmp_ne (tgt := 282) hx hb dX9_task_272 (by decide) (fun c_53 => ?_) (fun c_53 => ?_)
      · have h := h.1 c_53
        refine lv_aload_n hx hb dX9_task_282 rfl (lv_at hl 0 rfl) ?_
        refine lv_iconst (v := 0) hx hb dX9_task_283 (by decide) ?_
        refine cl_v hD hS hA (va_runV (As := [.int 0]) (rest := []) ⟨hx, hb, hml, hown, hts⟩ (ct_X9_remember h H.size) (cwV 1 hts gX9_task_X9_remember rfl rfl rfl (by decide +kernel) ⟨Nat.le_of_ble_eq_true rfl, Nat.le_of_ble_eq_true rfl⟩) ⟨CPre.blind, va_recv hAB.1 hP (ci := 9) (q0 := 0) rfl rfl, wd_pre hAB hP hD hS hA⟩ rfl rfl hl.1 rfl (lv_room (Nat.le_of_ble_eq_true rfl)) dX9_task_284 ⟨Nat.zero_le _, Nat.zero_le _⟩) (fun u H locs h hP hD hS => ?_)
        obtain ⟨mUn_54, mAK_55, mIP_56, mUS_57, ub_58, uT_59, uK_60, uN_61, uF_62, uS_63⟩ := u
        have hP : va_P D vwCl (WM cI cJ cZ cK ad ud pT_35 pK_36 pN_37 pF_38 pS_39 qT qK qN qF qS mKe mUn_54 mFi_41 mRi mBe mWc mAK_55 mSh mIP_56 mUS_57 mWa mWi mSi mRo mSp_45 mRw mSn mBg mLa mMo mRm mOw mGo mFr mQu mCh mPB mPS mFs ub_58 uT_59 uK_60 uN_61 uF_62 uS_63) H := hP
        have hD : va_D A (WM cI cJ cZ cK ad ud pT_35 pK_36 pN_37 pF_38 pS_39 qT qK qN qF qS mKe mUn_54 mFi_41 mRi mBe mWc mAK_55 mSh mIP_56 mUS_57 mWa mWi mSi mRo mSp_45 mRw mSn mBg mLa mMo mRm mOw mGo mFr mQu mCh mPB mPS mFs ub_58 uT_59 uK_60 uN_61 uF_62 uS_63) := hD
        refine lv_aload_n hx hb dX9_task_287 rfl (lv_at hl 0 rfl) ?_
        refine va_get (D := D) (ci := 9) (C := RX9) (T := TX9) (N := 32) hx hb hts inn_X9_task_9 hown hAB.1 hP 0 rfl rfl 0 (by decide) (hts (.fieldLink RX9 10 "BarnBenchModel" "b" "LBarnBenchModel$Book;") (by decide +kernel)) (fun _ h9 => h9) rfl dX9_task_288 ?_
        refine va_get (D := D) (ci := 8) (C := RX8) (T := TX8) (N := 5) hx hb hts inn_X9_task_8 hown hAB.1 hP 1 rfl rfl 0 (by decide) (hts (.fieldLink RX9 94 "BarnBenchModel$Book" "tasks" "I") (by decide +kernel)) (fun _ h9 => h9) rfl dX9_task_291 ?_
        refine lv_istore (lv' := [(7, .int pT_35), (0, .ref (ad 0)), (1, .int a1), (4, .int x4_33), (5, .ref (ad 17)), (6, .int x6_34)]) hx hb dX9_task_294 hl (by decide) rfl (fun ls hl => ?_)
        refine lv_aload_n hx hb dX9_task_296 rfl (lv_at hl 1 rfl) ?_
        refine va_get (D := D) (ci := 9) (C := RX9) (T := TX9) (N := 32) hx hb hts inn_X9_task_9 hown hAB.1 hP 0 rfl rfl 0 (by decide) (hts (.fieldLink RX9 10 "BarnBenchModel" "b" "LBarnBenchModel$Book;") (by decide +kernel)) (fun _ h9 => h9) rfl dX9_task_297 ?_
        refine va_get (D := D) (ci := 8) (C := RX8) (T := TX8) (N := 5) hx hb hts inn_X9_task_8 hown hAB.1 hP 1 rfl rfl 1 (by decide) (hts (.fieldLink RX9 141 "BarnBenchModel$Book" "kinds" "[I") (by decide +kernel)) (fun _ h9 => h9) rfl dX9_task_300 ?_
        refine lv_iload hx hb dX9_task_303 (lv_at hl 0 rfl) ?_
        refine lv_iload_n hx hb dX9_task_305 rfl (lv_at hl 2 rfl) ?_
        refine sM_2 hx hb hAB hP hD hS h.1 dX9_task_306 (fun pK_64 H locs e_65 hP hD hS => ?_)
        have h := h.2
        have h := h pK_64 e_65
        refine lv_iconst (v := 0) hx hb dX9_task_307 (by decide) ?_
        refine lv_istore (lv' := [(8, .int 0), (7, .int pT_35), (0, .ref (ad 0)), (1, .int a1), (4, .int x4_33), (5, .ref (ad 17)), (6, .int x6_34)]) hx hb dX9_task_308 hl (by decide) rfl (fun ls hl => ?_)
        have L310 : ∀ (x310 : (Nat → Int32) → Prop) (hk310 : ∀ (pN_68 : Nat → Int32), x310 pN_68 → ∀ (H : Heap) (locs : List Loc) (ls : Array Slot), va_P D vwCl (WM cI cJ cZ cK ad ud pT_35 pK_64 pN_68 pF_38 pS_39 qT qK qN qF qS mKe mUn_54 mFi_41 mRi mBe mWc mAK_55 mSh mIP_56 mUS_57 mWa mWi mSi mRo mSp_45 mRw mSn mBg mLa mMo mRm mOw mGo mFr mQu mCh mPB mPS mFs ub_58 uT_59 uK_60 uN_61 uF_62 uS_63) H → va_D A (WM cI cJ cZ cK ad ud pT_35 pK_64 pN_68 pF_38 pS_39 qT qK qN qF qS mKe mUn_54 mFi_41 mRi mBe mWc mAK_55 mSh mIP_56 mUS_57 mWa mWi mSi mRo mSp_45 mRw mSn mBg mLa mMo mRm mOw mGo mFr mQu mCh mPB mPS mFs ub_58 uT_59 uK_60 uN_61 uF_62 uS_63) → va_S A s.heap H locs → lv_has ls 9 [(0, .ref (ad 0)), (4, .int x4_33), (5, .ref (ad 17)), (7, .int pT_35)] → W p l e (headSpec wsX9_task rm_X9_task).room s m args below meth c H locs 0 0 Q (F0 m 354 ls [])) (n310 : Nat) (x8_66 : Int32) (pN_67 : Nat → Int32), wp_X9_task_L310 x4_33 pT_35 mSp_45 x310 n310 x8_66 pN_67 → ∀ (H : Heap) (locs : List Loc) (ls : Array Slot), va_P D vwCl (WM cI cJ cZ cK ad ud pT_35 pK_64 pN_67 pF_38 pS_39 qT qK qN qF qS mKe mUn_54 mFi_41 mRi mBe mWc mAK_55 mSh mIP_56 mUS_57 mWa mWi mSi mRo mSp_45 mRw mSn mBg mLa mMo mRm mOw mGo mFr mQu mCh mPB mPS mFs ub_58 uT_59 uK_60 uN_61 uF_62 uS_63) H → va_D A (WM cI cJ cZ cK ad ud pT_35 pK_64 pN_67 pF_38 pS_39 qT qK qN qF qS mKe mUn_54 mFi_41 mRi mBe mWc mAK_55 mSh mIP_56 mUS_57 mWa mWi mSi mRo mSp_45 mRw mSn mBg mLa mMo mRm mOw mGo mFr mQu mCh mPB mPS mFs ub_58 uT_59 uK_60 uN_61 uF_62 uS_63) → va_S A s.heap H locs → lv_has ls 9 [(0, .ref (ad 0)), (4, .int x4_33), (5, .ref (ad 17)), (7, .int pT_35), (8, .int x8_66)] → W p l e (headSpec wsX9_task rm_X9_task).room s m args below meth c H locs 0 0 Q (F0 m 310 ls []) := by
          intro x310 hk310 n310
          induction n310 with
          | zero => intro x8_66 pN_67 h; exact False.elim h
          | succ n310 ih310 =>
            intro x8_66 pN_67 h H locs ls hP hD hS hl
            have B347 : ∀ (y_70 : Int32) (y_71 : Int32) (x8_69 : Int32) (pN_72 : Nat → Int32), wp_X9_task_b347 (wp_X9_task_L310 x4_33 pT_35 mSp_45 x310 n310) y_70 y_71 x8_69 pN_72 → ∀ (H : Heap) (locs : List Loc) (ls : Array Slot), va_P D vwCl (WM cI cJ cZ cK ad ud pT_35 pK_64 pN_72 pF_38 pS_39 qT qK qN qF qS mKe mUn_54 mFi_41 mRi mBe mWc mAK_55 mSh mIP_56 mUS_57 mWa mWi mSi mRo mSp_45 mRw mSn mBg mLa mMo mRm mOw mGo mFr mQu mCh mPB mPS mFs ub_58 uT_59 uK_60 uN_61 uF_62 uS_63) H → va_D A (WM cI cJ cZ cK ad ud pT_35 pK_64 pN_72 pF_38 pS_39 qT qK qN qF qS mKe mUn_54 mFi_41 mRi mBe mWc mAK_55 mSh mIP_56 mUS_57 mWa mWi mSi mRo mSp_45 mRw mSn mBg mLa mMo mRm mOw mGo mFr mQu mCh mPB mPS mFs ub_58 uT_59 uK_60 uN_61 uF_62 uS_63) → va_S A s.heap H locs → lv_has ls 9 [(0, .ref (ad 0)), (4, .int x4_33), (5, .ref (ad 17)), (7, .int pT_35), (8, .int x8_69)] → W p l e (headSpec wsX9_task rm_X9_task).room s m args below meth c H locs 0 0 Q (F0 m 347 ls [.int y_71, .int y_70, .ref (ad 3)]) := by
              intro y_70 y_71 x8_69 pN_72 h H locs ls hP hD hS hl
              refine sM_3 hx hb hAB hP hD hS h.1 dX9_task_347 (fun pN_73 H locs e_74 hP hD hS => ?_)
              have h := h.2
              have h := h pN_73 e_74
              obtain ⟨x8_75, e_76⟩ : ∃ y : Int32, y = x8_69 + 1 := ⟨_, rfl⟩
              have h := h x8_75 e_76
              refine lv_iinc (v := x8_75) (lv' := [(8, .int x8_75), (0, .ref (ad 0)), (4, .int x4_33), (5, .ref (ad 17)), (7, .int pT_35)]) hx hb dX9_task_348 hl (k := 4) rfl (by rw [e_76]; rfl) (by decide) rfl (fun ls hl => ?_)
              refine lv_goto (tgt := 310) hx hb dX9_task_351 (by decide) ?_
              exact ih310 x8_75 pN_73 h H locs ls hP hD hS (lv_sub hl [1, 2, 3, 4, 0] rfl)
            refine lv_iload hx hb dX9_task_310 (lv_at hl 4 rfl) ?_
            refine lv_iconst (v := 5) hx hb dX9_task_312 (by decide) ?_
            refine lv_icmp_ge (tgt := 354) hx hb dX9_task_313 (by decide) (fun c_77 => ?_) (fun c_77 => ?_)
            · have h := h.1 c_77
              exact hk310 pN_67 h H locs ls hP hD hS (lv_sub hl [0, 1, 2, 3] rfl)
            · have h := h.2 c_77
              refine lv_aload_n hx hb dX9_task_316 rfl (lv_at hl 0 rfl) ?_
              refine va_get (D := D) (ci := 9) (C := RX9) (T := TX9) (N := 32) hx hb hts inn_X9_task_9 hown hAB.1 hP 0 rfl rfl 0 (by decide) (hts (.fieldLink RX9 10 "BarnBenchModel" "b" "LBarnBenchModel$Book;") (by decide +kernel)) (fun _ h9 => h9) rfl dX9_task_317 ?_
              refine va_get (D := D) (ci := 8) (C := RX8) (T := TX8) (N := 5) hx hb hts inn_X9_task_8 hown hAB.1 hP 1 rfl rfl 2 (by decide) (hts (.fieldLink RX9 144 "BarnBenchModel$Book" "numbers" "[I") (by decide +kernel)) (fun _ h9 => h9) rfl dX9_task_320 ?_
              refine lv_iconst (v := 5) hx hb dX9_task_323 (by decide) ?_
              refine lv_iload hx hb dX9_task_324 (lv_at hl 3 rfl) ?_
              refine lv_imul hx hb dX9_task_326 ?_
              refine lv_iload hx hb dX9_task_327 (lv_at hl 4 rfl) ?_
              refine lv_iadd hx hb dX9_task_329 ?_
              refine lv_iload hx hb dX9_task_330 (lv_at hl 4 rfl) ?_
              refine lv_iload hx hb dX9_task_332 (lv_at hl 1 rfl) ?_
              refine lv_icmp_ge (tgt := 346) hx hb dX9_task_334 (by decide) (fun c_78 => ?_) (fun c_78 => ?_)
              · have h := h.1 c_78
                refine lv_iconst (v := 0) hx hb dX9_task_346 (by decide) ?_
                exact B347 ((5 * pT_35) + x8_66) 0 x8_66 pN_67 h H locs ls hP hD hS (lv_sub hl [0, 1, 2, 3, 4] rfl)
              · have h := h.2 c_78
                refine lv_aload hx hb dX9_task_337 (lv_at hl 2 rfl) ?_
                refine lv_iload hx hb dX9_task_339 (lv_at hl 4 rfl) ?_
                refine va_lald hx hb hAB.1 hP 17 1 rfl rfl h.1 dX9_task_341 ?_
                have h := h.2
                refine lv_l2i hx hb dX9_task_342 rfl ?_
                refine lv_goto (tgt := 347) hx hb dX9_task_343 (by decide) ?_
                exact B347 ((5 * pT_35) + x8_66) (Int64.toInt32 (mSp_45 (Int32.toNatClampNeg x8_66))) x8_66 pN_67 h H locs ls hP hD hS (lv_sub hl [0, 1, 2, 3, 4] rfl)
        obtain ⟨n310, h⟩ := h
        refine L310 _ (fun pN_68 h H locs ls hP hD hS hl => ?_) n310 0 pN_37 h H locs ls hP hD hS (lv_sub hl [2, 4, 5, 1, 0] rfl)
        refine lv_iload hx hb dX9_task_354 (lv_at hl 1 rfl) ?_
        refine lv_iconst (v := 1) hx hb dX9_task_356 (by decide) ?_
        refine lv_icmp_ne (tgt := 379) hx hb dX9_task_357 (by decide) (fun c_79 => ?_) (fun c_79 => ?_)
        · have h := h.1 c_79
          exact B379 pT_35 pT_35 pK_64 pN_68 pF_38 pS_39 mUn_54 mFi_41 mAK_55 mIP_56 mUS_57 mSp_45 ub_58 uT_59 uK_60 uN_61 uF_62 uS_63 h H locs ls hP hD hS (lv_sub hl [0, 2, 3] rfl)
        · have h := h.2 c_79
          refine lv_aload_n hx hb dX9_task_360 rfl (lv_at hl 0 rfl) ?_
          refine va_get (D := D) (ci := 9) (C := RX9) (T := TX9) (N := 32) hx hb hts inn_X9_task_9 hown hAB.1 hP 0 rfl rfl 0 (by decide) (hts (.fieldLink RX9 10 "BarnBenchModel" "b" "LBarnBenchModel$Book;") (by decide +kernel)) (fun _ h9 => h9) rfl dX9_task_361 ?_
          refine va_get (D := D) (ci := 8) (C := RX8) (T := TX8) (N := 5) hx hb hts inn_X9_task_8 hown hAB.1 hP 1 rfl rfl 2 (by decide) (hts (.fieldLink RX9 144 "BarnBenchModel$Book" "numbers" "[I") (by decide +kernel)) (fun _ h9 => h9) rfl dX9_task_364 ?_
          refine lv_iconst (v := 5) hx hb dX9_task_367 (by decide) ?_
          refine lv_iload hx hb dX9_task_368 (lv_at hl 3 rfl) ?_
          refine lv_imul hx hb dX9_task_370 ?_
          refine lv_iconst (v := 1) hx hb dX9_task_371 (by decide) ?_
          refine lv_iadd hx hb dX9_task_372 ?_
          refine lv_aload hx hb dX9_task_373 (lv_at hl 2 rfl) ?_
          refine lv_iconst (v := 0) hx hb dX9_task_375 (by decide) ?_
          refine va_lald hx hb hAB.1 hP 17 1 rfl rfl h.1 dX9_task_376 ?_
          have h := h.2
          refine lv_l2i hx hb dX9_task_377 rfl ?_
          refine sM_3 hx hb hAB hP hD hS h.1 dX9_task_378 (fun pN_80 H locs e_81 hP hD hS => ?_)
          have h := h.2
          have h := h pN_80 e_81
          exact B379 pT_35 pT_35 pK_64 pN_80 pF_38 pS_39 mUn_54 mFi_41 mAK_55 mIP_56 mUS_57 mSp_45 ub_58 uT_59 uK_60 uN_61 uF_62 uS_63 h H locs ls hP hD hS (lv_sub hl [0, 2, 3] rfl)
      · have h := h.2 c_53
        refine lv_aload_n hx hb dX9_task_275 rfl (lv_at hl 0 rfl) ?_
        refine lv_bipush (v := (-5)) hx hb dX9_task_276 (by decide) ?_
        refine cl_i hD hS hA (va_runV (As := [.int (-5)]) (rest := []) ⟨hx, hb, hml, hown, hts⟩ (ct_X9_found h H.size) (cwV 1 hts gX9_task_X9_found rfl rfl rfl (by decide +kernel) ⟨Nat.le_of_ble_eq_true rfl, Nat.le_of_ble_eq_true rfl⟩) ⟨CPre.blind, va_recv hAB.1 hP (ci := 9) (q0 := 0) rfl rfl, wd_pre hAB hP hD hS hA⟩ rfl rfl hl.1 rfl (lv_room (Nat.le_of_ble_eq_true rfl)) dX9_task_278 ⟨Nat.zero_le _, Nat.zero_le _⟩) (fun r_82 mFi_83 H locs h hP hD hS => ?_)
        have hP : va_P D vwCl (WM cI cJ cZ cK ad ud pT_35 pK_36 pN_37 pF_38 pS_39 qT qK qN qF qS mKe mUn_40 mFi_83 mRi mBe mWc mAK_42 mSh mIP_43 mUS_44 mWa mWi mSi mRo mSp_45 mRw mSn mBg mLa mMo mRm mOw mGo mFr mQu mCh mPB mPS mFs ub_46 uT_47 uK_48 uN_49 uF_50 uS_51) H := hP
        have hD : va_D A (WM cI cJ cZ cK ad ud pT_35 pK_36 pN_37 pF_38 pS_39 qT qK qN qF qS mKe mUn_40 mFi_83 mRi mBe mWc mAK_42 mSh mIP_43 mUS_44 mWa mWi mSi mRo mSp_45 mRw mSn mBg mLa mMo mRm mOw mGo mFr mQu mCh mPB mPS mFs ub_46 uT_47 uK_48 uN_49 uF_50 uS_51) := hD
        exact rt_i (pT_35, pK_36, pN_37, pF_38, pS_39, mUn_40, mFi_83, mAK_42, mIP_43, mUS_44, mSp_45, ub_46, uT_47, uK_48, uN_49, uF_50, uS_51) hQ hx hb hr hlk hP hD hS ⟨Nat.zero_le _, Nat.zero_le _⟩ dX9_task_281 h
    · have h := h.2 c_52
      refine lv_aload_n hx hb dX9_task_256 rfl (lv_at hl 0 rfl) ?_
      refine lv_bipush (v := (-3)) hx hb dX9_task_257 (by decide) ?_
      refine cl_i hD hS hA (va_runV (As := [.int (-3)]) (rest := []) ⟨hx, hb, hml, hown, hts⟩ (ct_X9_found h H.size) (cwV 1 hts gX9_task_X9_found rfl rfl rfl (by decide +kernel) ⟨Nat.le_of_ble_eq_true rfl, Nat.le_of_ble_eq_true rfl⟩) ⟨CPre.blind, va_recv hAB.1 hP (ci := 9) (q0 := 0) rfl rfl, wd_pre hAB hP hD hS hA⟩ rfl rfl hl.1 rfl (lv_room (Nat.le_of_ble_eq_true rfl)) dX9_task_259 ⟨Nat.zero_le _, Nat.zero_le _⟩) (fun r_84 mFi_85 H locs h hP hD hS => ?_)
      have hP : va_P D vwCl (WM cI cJ cZ cK ad ud pT_35 pK_36 pN_37 pF_38 pS_39 qT qK qN qF qS mKe mUn_40 mFi_85 mRi mBe mWc mAK_42 mSh mIP_43 mUS_44 mWa mWi mSi mRo mSp_45 mRw mSn mBg mLa mMo mRm mOw mGo mFr mQu mCh mPB mPS mFs ub_46 uT_47 uK_48 uN_49 uF_50 uS_51) H := hP
      have hD : va_D A (WM cI cJ cZ cK ad ud pT_35 pK_36 pN_37 pF_38 pS_39 qT qK qN qF qS mKe mUn_40 mFi_85 mRi mBe mWc mAK_42 mSh mIP_43 mUS_44 mWa mWi mSi mRo mSp_45 mRw mSn mBg mLa mMo mRm mOw mGo mFr mQu mCh mPB mPS mFs ub_46 uT_47 uK_48 uN_49 uF_50 uS_51) := hD
      exact rt_i (pT_35, pK_36, pN_37, pF_38, pS_39, mUn_40, mFi_85, mAK_42, mIP_43, mUS_44, mSp_45, ub_46, uT_47, uK_48, uN_49, uF_50, uS_51) hQ hx hb hr hlk hP hD hS ⟨Nat.zero_le _, Nat.zero_le _⟩ dX9_task_262 h
  have B249 : ∀ (y_87 : Int32) (x4_86 : Int32) (pT_88 : Int32) (pK_89 : Nat → Int32) (pN_90 : Nat → Int32) (pF_91 : Nat → Int32) (pS_92 : Nat → Int32) (mUn_93 : Int32) (mFi_94 : Int32) (mAK_95 : Int32) (mIP_96 : Int32) (mUS_97 : Nat → Int32) (mSp_98 : Nat → Int64) (ub_99 : Nat → Nat) (uT_100 : Nat → Int32) (uK_101 : Nat → Nat → Int32) (uN_102 : Nat → Nat → Int32) (uF_103 : Nat → Nat → Int32) (uS_104 : Nat → Nat → Int32), wp_X9_task_b249 Qp a1 y_87 x4_86 pT_88 pK_89 pN_90 pF_91 pS_92 mUn_93 mFi_94 mAK_95 mIP_96 mUS_97 mSp_98 ub_99 uT_100 uK_101 uN_102 uF_103 uS_104 → ∀ (H : Heap) (locs : List Loc) (ls : Array Slot), va_P D vwCl (WM cI cJ cZ cK ad ud pT_88 pK_89 pN_90 pF_91 pS_92 qT qK qN qF qS mKe mUn_93 mFi_94 mRi mBe mWc mAK_95 mSh mIP_96 mUS_97 mWa mWi mSi mRo mSp_98 mRw mSn mBg mLa mMo mRm mOw mGo mFr mQu mCh mPB mPS mFs ub_99 uT_100 uK_101 uN_102 uF_103 uS_104) H → va_D A (WM cI cJ cZ cK ad ud pT_88 pK_89 pN_90 pF_91 pS_92 qT qK qN qF qS mKe mUn_93 mFi_94 mRi mBe mWc mAK_95 mSh mIP_96 mUS_97 mWa mWi mSi mRo mSp_98 mRw mSn mBg mLa mMo mRm mOw mGo mFr mQu mCh mPB mPS mFs ub_99 uT_100 uK_101 uN_102 uF_103 uS_104) → va_S A s.heap H locs → lv_has ls 9 [(0, .ref (ad 0)), (1, .int a1), (4, .int x4_86), (5, .ref (ad 17))] → W p l e (headSpec wsX9_task rm_X9_task).room s m args below meth c H locs 0 0 Q (F0 m 249 ls [.int y_87]) := by
    intro y_87 x4_86 pT_88 pK_89 pN_90 pF_91 pS_92 mUn_93 mFi_94 mAK_95 mIP_96 mUS_97 mSp_98 ub_99 uT_100 uK_101 uN_102 uF_103 uS_104 h H locs ls hP hD hS hl
    refine lv_istore (lv' := [(6, .int y_87), (0, .ref (ad 0)), (1, .int a1), (4, .int x4_86), (5, .ref (ad 17))]) hx hb dX9_task_249 hl (by decide) rfl (fun ls hl => ?_)
    exact B251 x4_86 y_87 pT_88 pK_89 pN_90 pF_91 pS_92 mUn_93 mFi_94 mAK_95 mIP_96 mUS_97 mSp_98 ub_99 uT_100 uK_101 uN_102 uF_103 uS_104 h H locs ls hP hD hS (lv_sub hl [1, 2, 3, 4, 0] rfl)
  have B248 : ∀ (x4_105 : Int32) (pT_106 : Int32) (pK_107 : Nat → Int32) (pN_108 : Nat → Int32) (pF_109 : Nat → Int32) (pS_110 : Nat → Int32) (mUn_111 : Int32) (mFi_112 : Int32) (mAK_113 : Int32) (mIP_114 : Int32) (mUS_115 : Nat → Int32) (mSp_116 : Nat → Int64) (ub_117 : Nat → Nat) (uT_118 : Nat → Int32) (uK_119 : Nat → Nat → Int32) (uN_120 : Nat → Nat → Int32) (uF_121 : Nat → Nat → Int32) (uS_122 : Nat → Nat → Int32), wp_X9_task_b248 Qp a1 x4_105 pT_106 pK_107 pN_108 pF_109 pS_110 mUn_111 mFi_112 mAK_113 mIP_114 mUS_115 mSp_116 ub_117 uT_118 uK_119 uN_120 uF_121 uS_122 → ∀ (H : Heap) (locs : List Loc) (ls : Array Slot), va_P D vwCl (WM cI cJ cZ cK ad ud pT_106 pK_107 pN_108 pF_109 pS_110 qT qK qN qF qS mKe mUn_111 mFi_112 mRi mBe mWc mAK_113 mSh mIP_114 mUS_115 mWa mWi mSi mRo mSp_116 mRw mSn mBg mLa mMo mRm mOw mGo mFr mQu mCh mPB mPS mFs ub_117 uT_118 uK_119 uN_120 uF_121 uS_122) H → va_D A (WM cI cJ cZ cK ad ud pT_106 pK_107 pN_108 pF_109 pS_110 qT qK qN qF qS mKe mUn_111 mFi_112 mRi mBe mWc mAK_113 mSh mIP_114 mUS_115 mWa mWi mSi mRo mSp_116 mRw mSn mBg mLa mMo mRm mOw mGo mFr mQu mCh mPB mPS mFs ub_117 uT_118 uK_119 uN_120 uF_121 uS_122) → va_S A s.heap H locs → lv_has ls 9 [(0, .ref (ad 0)), (1, .int a1), (4, .int x4_105), (5, .ref (ad 17))] → W p l e (headSpec wsX9_task rm_X9_task).room s m args below meth c H locs 0 0 Q (F0 m 248 ls []) := by
    intro x4_105 pT_106 pK_107 pN_108 pF_109 pS_110 mUn_111 mFi_112 mAK_113 mIP_114 mUS_115 mSp_116 ub_117 uT_118 uK_119 uN_120 uF_121 uS_122 h H locs ls hP hD hS hl
    refine lv_iconst (v := 0) hx hb dX9_task_248 (by decide) ?_
    exact B249 0 x4_105 pT_106 pK_107 pN_108 pF_109 pS_110 mUn_111 mFi_112 mAK_113 mIP_114 mUS_115 mSp_116 ub_117 uT_118 uK_119 uN_120 uF_121 uS_122 h H locs ls hP hD hS (lv_sub hl [0, 1, 2, 3] rfl)
  have B220 : ∀ (x4_123 : Int32) (x6_124 : Int32) (pT_125 : Int32) (pK_126 : Nat → Int32) (pN_127 : Nat → Int32) (pF_128 : Nat → Int32) (pS_129 : Nat → Int32) (mUn_130 : Int32) (mFi_131 : Int32) (mAK_132 : Int32) (mIP_133 : Int32) (mUS_134 : Nat → Int32) (mSp_135 : Nat → Int64) (ub_136 : Nat → Nat) (uT_137 : Nat → Int32) (uK_138 : Nat → Nat → Int32) (uN_139 : Nat → Nat → Int32) (uF_140 : Nat → Nat → Int32) (uS_141 : Nat → Nat → Int32), wp_X9_task_b220 Qp a1 x4_123 x6_124 pT_125 pK_126 pN_127 pF_128 pS_129 mUn_130 mFi_131 mAK_132 mIP_133 mUS_134 mSp_135 ub_136 uT_137 uK_138 uN_139 uF_140 uS_141 → ∀ (H : Heap) (locs : List Loc) (ls : Array Slot), va_P D vwCl (WM cI cJ cZ cK ad ud pT_125 pK_126 pN_127 pF_128 pS_129 qT qK qN qF qS mKe mUn_130 mFi_131 mRi mBe mWc mAK_132 mSh mIP_133 mUS_134 mWa mWi mSi mRo mSp_135 mRw mSn mBg mLa mMo mRm mOw mGo mFr mQu mCh mPB mPS mFs ub_136 uT_137 uK_138 uN_139 uF_140 uS_141) H → va_D A (WM cI cJ cZ cK ad ud pT_125 pK_126 pN_127 pF_128 pS_129 qT qK qN qF qS mKe mUn_130 mFi_131 mRi mBe mWc mAK_132 mSh mIP_133 mUS_134 mWa mWi mSi mRo mSp_135 mRw mSn mBg mLa mMo mRm mOw mGo mFr mQu mCh mPB mPS mFs ub_136 uT_137 uK_138 uN_139 uF_140 uS_141) → va_S A s.heap H locs → lv_has ls 9 [(0, .ref (ad 0)), (1, .int a1), (4, .int x4_123), (5, .ref (ad 17)), (6, .int x6_124)] → W p l e (headSpec wsX9_task rm_X9_task).room s m args below meth c H locs 0 0 Q (F0 m 220 ls []) := by
    intro x4_123 x6_124 pT_125 pK_126 pN_127 pF_128 pS_129 mUn_130 mFi_131 mAK_132 mIP_133 mUS_134 mSp_135 ub_136 uT_137 uK_138 uN_139 uF_140 uS_141 h H locs ls hP hD hS hl
    refine lv_iload_n hx hb dX9_task_220 rfl (lv_at hl 1 rfl) ?_
    refine lv_iconst (v := 4) hx hb dX9_task_221 (by decide) ?_
    refine lv_icmp_ne (tgt := 251) hx hb dX9_task_222 (by decide) (fun c_142 => ?_) (fun c_142 => ?_)
    · have h := h.1 c_142
      exact B251 x4_123 x6_124 pT_125 pK_126 pN_127 pF_128 pS_129 mUn_130 mFi_131 mAK_132 mIP_133 mUS_134 mSp_135 ub_136 uT_137 uK_138 uN_139 uF_140 uS_141 h H locs ls hP hD hS (lv_sub hl [0, 1, 2, 3, 4] rfl)
    · have h := h.2 c_142
      refine lv_iload hx hb dX9_task_225 (lv_at hl 4 rfl) ?_
      refine lv_if_eq (tgt := 248) hx hb dX9_task_227 (by decide) (fun c_143 => ?_) (fun c_143 => ?_)
      · have h := h.1 c_143
        exact B248 x4_123 pT_125 pK_126 pN_127 pF_128 pS_129 mUn_130 mFi_131 mAK_132 mIP_133 mUS_134 mSp_135 ub_136 uT_137 uK_138 uN_139 uF_140 uS_141 h H locs ls hP hD hS (lv_sub hl [0, 1, 2, 3] rfl)
      · have h := h.2 c_143
        refine lv_aload hx hb dX9_task_230 (lv_at hl 3 rfl) ?_
        refine lv_iconst (v := 3) hx hb dX9_task_232 (by decide) ?_
        refine va_lald hx hb hAB.1 hP 17 1 rfl rfl h.1 dX9_task_233 ?_
        have h := h.2
        refine lv_lconst (v := 0) hx hb dX9_task_234 (by decide) ?_
        refine lv_ldc2 (v := 100000) hx hb hown (hts (.constantLong RX9 135 100000) (by decide +kernel)) dX9_task_235 ?_
        refine cl_i hD hS hA (va_runS (As := [.long (mSp_135 (Int32.toNatClampNeg 3)), .long 0, .long 100000]) (rest := []) ⟨hx, hb, hml, hown, hts⟩ (ct_X9_in h H.size) (va_cwS 3 hts gX9_task_X9_in rfl rfl rfl (by decide +kernel) ⟨Nat.le_of_ble_eq_true rfl, Nat.le_of_ble_eq_true rfl⟩) ⟨CPre.blind, wd_pre hAB hP hD hS hA⟩ rfl rfl hl.1 rfl (lv_room (Nat.le_of_ble_eq_true rfl)) dX9_task_238 ⟨Nat.zero_le _, Nat.zero_le _⟩) (fun r_144 u H locs h hP hD hS => ?_)
        refine lv_if_eq (tgt := 248) hx hb dX9_task_241 (by decide) (fun c_145 => ?_) (fun c_145 => ?_)
        · have h := h.1 c_145
          exact B248 x4_123 pT_125 pK_126 pN_127 pF_128 pS_129 mUn_130 mFi_131 mAK_132 mIP_133 mUS_134 mSp_135 ub_136 uT_137 uK_138 uN_139 uF_140 uS_141 h H locs ls hP hD hS (lv_sub hl [0, 1, 2, 3] rfl)
        · have h := h.2 c_145
          refine lv_iconst (v := 1) hx hb dX9_task_244 (by decide) ?_
          refine lv_goto (tgt := 249) hx hb dX9_task_245 (by decide) ?_
          exact B249 1 x4_123 pT_125 pK_126 pN_127 pF_128 pS_129 mUn_130 mFi_131 mAK_132 mIP_133 mUS_134 mSp_135 ub_136 uT_137 uK_138 uN_139 uF_140 uS_141 h H locs ls hP hD hS (lv_sub hl [0, 1, 2, 3] rfl)
  have B218 : ∀ (y_147 : Int32) (x4_146 : Int32) (pT_148 : Int32) (pK_149 : Nat → Int32) (pN_150 : Nat → Int32) (pF_151 : Nat → Int32) (pS_152 : Nat → Int32) (mUn_153 : Int32) (mFi_154 : Int32) (mAK_155 : Int32) (mIP_156 : Int32) (mUS_157 : Nat → Int32) (mSp_158 : Nat → Int64) (ub_159 : Nat → Nat) (uT_160 : Nat → Int32) (uK_161 : Nat → Nat → Int32) (uN_162 : Nat → Nat → Int32) (uF_163 : Nat → Nat → Int32) (uS_164 : Nat → Nat → Int32), wp_X9_task_b218 Qp a1 y_147 x4_146 pT_148 pK_149 pN_150 pF_151 pS_152 mUn_153 mFi_154 mAK_155 mIP_156 mUS_157 mSp_158 ub_159 uT_160 uK_161 uN_162 uF_163 uS_164 → ∀ (H : Heap) (locs : List Loc) (ls : Array Slot), va_P D vwCl (WM cI cJ cZ cK ad ud pT_148 pK_149 pN_150 pF_151 pS_152 qT qK qN qF qS mKe mUn_153 mFi_154 mRi mBe mWc mAK_155 mSh mIP_156 mUS_157 mWa mWi mSi mRo mSp_158 mRw mSn mBg mLa mMo mRm mOw mGo mFr mQu mCh mPB mPS mFs ub_159 uT_160 uK_161 uN_162 uF_163 uS_164) H → va_D A (WM cI cJ cZ cK ad ud pT_148 pK_149 pN_150 pF_151 pS_152 qT qK qN qF qS mKe mUn_153 mFi_154 mRi mBe mWc mAK_155 mSh mIP_156 mUS_157 mWa mWi mSi mRo mSp_158 mRw mSn mBg mLa mMo mRm mOw mGo mFr mQu mCh mPB mPS mFs ub_159 uT_160 uK_161 uN_162 uF_163 uS_164) → va_S A s.heap H locs → lv_has ls 9 [(0, .ref (ad 0)), (1, .int a1), (4, .int x4_146), (5, .ref (ad 17))] → W p l e (headSpec wsX9_task rm_X9_task).room s m args below meth c H locs 0 0 Q (F0 m 218 ls [.int y_147]) := by
    intro y_147 x4_146 pT_148 pK_149 pN_150 pF_151 pS_152 mUn_153 mFi_154 mAK_155 mIP_156 mUS_157 mSp_158 ub_159 uT_160 uK_161 uN_162 uF_163 uS_164 h H locs ls hP hD hS hl
    refine lv_istore (lv' := [(6, .int y_147), (0, .ref (ad 0)), (1, .int a1), (4, .int x4_146), (5, .ref (ad 17))]) hx hb dX9_task_218 hl (by decide) rfl (fun ls hl => ?_)
    exact B220 x4_146 y_147 pT_148 pK_149 pN_150 pF_151 pS_152 mUn_153 mFi_154 mAK_155 mIP_156 mUS_157 mSp_158 ub_159 uT_160 uK_161 uN_162 uF_163 uS_164 h H locs ls hP hD hS (lv_sub hl [1, 2, 3, 4, 0] rfl)
  have B217 : ∀ (x4_165 : Int32) (pT_166 : Int32) (pK_167 : Nat → Int32) (pN_168 : Nat → Int32) (pF_169 : Nat → Int32) (pS_170 : Nat → Int32) (mUn_171 : Int32) (mFi_172 : Int32) (mAK_173 : Int32) (mIP_174 : Int32) (mUS_175 : Nat → Int32) (mSp_176 : Nat → Int64) (ub_177 : Nat → Nat) (uT_178 : Nat → Int32) (uK_179 : Nat → Nat → Int32) (uN_180 : Nat → Nat → Int32) (uF_181 : Nat → Nat → Int32) (uS_182 : Nat → Nat → Int32), wp_X9_task_b217 Qp a1 x4_165 pT_166 pK_167 pN_168 pF_169 pS_170 mUn_171 mFi_172 mAK_173 mIP_174 mUS_175 mSp_176 ub_177 uT_178 uK_179 uN_180 uF_181 uS_182 → ∀ (H : Heap) (locs : List Loc) (ls : Array Slot), va_P D vwCl (WM cI cJ cZ cK ad ud pT_166 pK_167 pN_168 pF_169 pS_170 qT qK qN qF qS mKe mUn_171 mFi_172 mRi mBe mWc mAK_173 mSh mIP_174 mUS_175 mWa mWi mSi mRo mSp_176 mRw mSn mBg mLa mMo mRm mOw mGo mFr mQu mCh mPB mPS mFs ub_177 uT_178 uK_179 uN_180 uF_181 uS_182) H → va_D A (WM cI cJ cZ cK ad ud pT_166 pK_167 pN_168 pF_169 pS_170 qT qK qN qF qS mKe mUn_171 mFi_172 mRi mBe mWc mAK_173 mSh mIP_174 mUS_175 mWa mWi mSi mRo mSp_176 mRw mSn mBg mLa mMo mRm mOw mGo mFr mQu mCh mPB mPS mFs ub_177 uT_178 uK_179 uN_180 uF_181 uS_182) → va_S A s.heap H locs → lv_has ls 9 [(0, .ref (ad 0)), (1, .int a1), (4, .int x4_165), (5, .ref (ad 17))] → W p l e (headSpec wsX9_task rm_X9_task).room s m args below meth c H locs 0 0 Q (F0 m 217 ls []) := by
    intro x4_165 pT_166 pK_167 pN_168 pF_169 pS_170 mUn_171 mFi_172 mAK_173 mIP_174 mUS_175 mSp_176 ub_177 uT_178 uK_179 uN_180 uF_181 uS_182 h H locs ls hP hD hS hl
    refine lv_iconst (v := 0) hx hb dX9_task_217 (by decide) ?_
    exact B218 0 x4_165 pT_166 pK_167 pN_168 pF_169 pS_170 mUn_171 mFi_172 mAK_173 mIP_174 mUS_175 mSp_176 ub_177 uT_178 uK_179 uN_180 uF_181 uS_182 h H locs ls hP hD hS (lv_sub hl [0, 1, 2, 3] rfl)
  have B175 : ∀ (x4_183 : Int32) (x6_184 : Int32) (pT_185 : Int32) (pK_186 : Nat → Int32) (pN_187 : Nat → Int32) (pF_188 : Nat → Int32) (pS_189 : Nat → Int32) (mUn_190 : Int32) (mFi_191 : Int32) (mAK_192 : Int32) (mIP_193 : Int32) (mUS_194 : Nat → Int32) (mSp_195 : Nat → Int64) (ub_196 : Nat → Nat) (uT_197 : Nat → Int32) (uK_198 : Nat → Nat → Int32) (uN_199 : Nat → Nat → Int32) (uF_200 : Nat → Nat → Int32) (uS_201 : Nat → Nat → Int32), wp_X9_task_b175 Qp a1 x4_183 x6_184 pT_185 pK_186 pN_187 pF_188 pS_189 mUn_190 mFi_191 mAK_192 mIP_193 mUS_194 mSp_195 ub_196 uT_197 uK_198 uN_199 uF_200 uS_201 → ∀ (H : Heap) (locs : List Loc) (ls : Array Slot), va_P D vwCl (WM cI cJ cZ cK ad ud pT_185 pK_186 pN_187 pF_188 pS_189 qT qK qN qF qS mKe mUn_190 mFi_191 mRi mBe mWc mAK_192 mSh mIP_193 mUS_194 mWa mWi mSi mRo mSp_195 mRw mSn mBg mLa mMo mRm mOw mGo mFr mQu mCh mPB mPS mFs ub_196 uT_197 uK_198 uN_199 uF_200 uS_201) H → va_D A (WM cI cJ cZ cK ad ud pT_185 pK_186 pN_187 pF_188 pS_189 qT qK qN qF qS mKe mUn_190 mFi_191 mRi mBe mWc mAK_192 mSh mIP_193 mUS_194 mWa mWi mSi mRo mSp_195 mRw mSn mBg mLa mMo mRm mOw mGo mFr mQu mCh mPB mPS mFs ub_196 uT_197 uK_198 uN_199 uF_200 uS_201) → va_S A s.heap H locs → lv_has ls 9 [(0, .ref (ad 0)), (1, .int a1), (4, .int x4_183), (5, .ref (ad 17)), (6, .int x6_184)] → W p l e (headSpec wsX9_task rm_X9_task).room s m args below meth c H locs 0 0 Q (F0 m 175 ls []) := by
    intro x4_183 x6_184 pT_185 pK_186 pN_187 pF_188 pS_189 mUn_190 mFi_191 mAK_192 mIP_193 mUS_194 mSp_195 ub_196 uT_197 uK_198 uN_199 uF_200 uS_201 h H locs ls hP hD hS hl
    refine lv_iload_n hx hb dX9_task_175 rfl (lv_at hl 1 rfl) ?_
    refine lv_iconst (v := 2) hx hb dX9_task_176 (by decide) ?_
    refine lv_icmp_ne (tgt := 220) hx hb dX9_task_177 (by decide) (fun c_202 => ?_) (fun c_202 => ?_)
    · have h := h.1 c_202
      exact B220 x4_183 x6_184 pT_185 pK_186 pN_187 pF_188 pS_189 mUn_190 mFi_191 mAK_192 mIP_193 mUS_194 mSp_195 ub_196 uT_197 uK_198 uN_199 uF_200 uS_201 h H locs ls hP hD hS (lv_sub hl [0, 1, 2, 3, 4] rfl)
    · have h := h.2 c_202
      refine lv_iload hx hb dX9_task_180 (lv_at hl 4 rfl) ?_
      refine lv_if_eq (tgt := 217) hx hb dX9_task_182 (by decide) (fun c_203 => ?_) (fun c_203 => ?_)
      · have h := h.1 c_203
        exact B217 x4_183 pT_185 pK_186 pN_187 pF_188 pS_189 mUn_190 mFi_191 mAK_192 mIP_193 mUS_194 mSp_195 ub_196 uT_197 uK_198 uN_199 uF_200 uS_201 h H locs ls hP hD hS (lv_sub hl [0, 1, 2, 3] rfl)
      · have h := h.2 c_203
        refine lv_aload hx hb dX9_task_185 (lv_at hl 3 rfl) ?_
        refine lv_iconst (v := 3) hx hb dX9_task_187 (by decide) ?_
        refine va_lald hx hb hAB.1 hP 17 1 rfl rfl h.1 dX9_task_188 ?_
        have h := h.2
        refine lv_lconst (v := 0) hx hb dX9_task_189 (by decide) ?_
        refine lv_ldc2 (v := 60) hx hb hown (hts (.constantLong RX9 133 60) (by decide +kernel)) dX9_task_190 ?_
        refine cl_i hD hS hA (va_runS (As := [.long (mSp_195 (Int32.toNatClampNeg 3)), .long 0, .long 60]) (rest := []) ⟨hx, hb, hml, hown, hts⟩ (ct_X9_in h H.size) (va_cwS 3 hts gX9_task_X9_in rfl rfl rfl (by decide +kernel) ⟨Nat.le_of_ble_eq_true rfl, Nat.le_of_ble_eq_true rfl⟩) ⟨CPre.blind, wd_pre hAB hP hD hS hA⟩ rfl rfl hl.1 rfl (lv_room (Nat.le_of_ble_eq_true rfl)) dX9_task_193 ⟨Nat.zero_le _, Nat.zero_le _⟩) (fun r_204 u H locs h hP hD hS => ?_)
        refine lv_if_eq (tgt := 217) hx hb dX9_task_196 (by decide) (fun c_205 => ?_) (fun c_205 => ?_)
        · have h := h.1 c_205
          exact B217 x4_183 pT_185 pK_186 pN_187 pF_188 pS_189 mUn_190 mFi_191 mAK_192 mIP_193 mUS_194 mSp_195 ub_196 uT_197 uK_198 uN_199 uF_200 uS_201 h H locs ls hP hD hS (lv_sub hl [0, 1, 2, 3] rfl)
        · have h := h.2 c_205
          refine lv_aload hx hb dX9_task_199 (lv_at hl 3 rfl) ?_
          refine lv_iconst (v := 4) hx hb dX9_task_201 (by decide) ?_
          refine va_lald hx hb hAB.1 hP 17 1 rfl rfl h.1 dX9_task_202 ?_
          have h := h.2
          refine lv_lconst (v := 0) hx hb dX9_task_203 (by decide) ?_
          refine lv_ldc2 (v := 100000) hx hb hown (hts (.constantLong RX9 135 100000) (by decide +kernel)) dX9_task_204 ?_
          refine cl_i hD hS hA (va_runS (As := [.long (mSp_195 (Int32.toNatClampNeg 4)), .long 0, .long 100000]) (rest := []) ⟨hx, hb, hml, hown, hts⟩ (ct_X9_in h H.size) (va_cwS 3 hts gX9_task_X9_in rfl rfl rfl (by decide +kernel) ⟨Nat.le_of_ble_eq_true rfl, Nat.le_of_ble_eq_true rfl⟩) ⟨CPre.blind, wd_pre hAB hP hD hS hA⟩ rfl rfl hl.1 rfl (lv_room (Nat.le_of_ble_eq_true rfl)) dX9_task_207 ⟨Nat.zero_le _, Nat.zero_le _⟩) (fun r_206 u H locs h hP hD hS => ?_)
          refine lv_if_eq (tgt := 217) hx hb dX9_task_210 (by decide) (fun c_207 => ?_) (fun c_207 => ?_)
          · have h := h.1 c_207
            exact B217 x4_183 pT_185 pK_186 pN_187 pF_188 pS_189 mUn_190 mFi_191 mAK_192 mIP_193 mUS_194 mSp_195 ub_196 uT_197 uK_198 uN_199 uF_200 uS_201 h H locs ls hP hD hS (lv_sub hl [0, 1, 2, 3] rfl)
          · have h := h.2 c_207
            refine lv_iconst (v := 1) hx hb dX9_task_213 (by decide) ?_
            refine lv_goto (tgt := 218) hx hb dX9_task_214 (by decide) ?_
            exact B218 1 x4_183 pT_185 pK_186 pN_187 pF_188 pS_189 mUn_190 mFi_191 mAK_192 mIP_193 mUS_194 mSp_195 ub_196 uT_197 uK_198 uN_199 uF_200 uS_201 h H locs ls hP hD hS (lv_sub hl [0, 1, 2, 3] rfl)
  have B173 : ∀ (y_209 : Int32) (x4_208 : Int32) (pT_210 : Int32) (pK_211 : Nat → Int32) (pN_212 : Nat → Int32) (pF_213 : Nat → Int32) (pS_214 : Nat → Int32) (mUn_215 : Int32) (mFi_216 : Int32) (mAK_217 : Int32) (mIP_218 : Int32) (mUS_219 : Nat → Int32) (mSp_220 : Nat → Int64) (ub_221 : Nat → Nat) (uT_222 : Nat → Int32) (uK_223 : Nat → Nat → Int32) (uN_224 : Nat → Nat → Int32) (uF_225 : Nat → Nat → Int32) (uS_226 : Nat → Nat → Int32), wp_X9_task_b173 Qp a1 y_209 x4_208 pT_210 pK_211 pN_212 pF_213 pS_214 mUn_215 mFi_216 mAK_217 mIP_218 mUS_219 mSp_220 ub_221 uT_222 uK_223 uN_224 uF_225 uS_226 → ∀ (H : Heap) (locs : List Loc) (ls : Array Slot), va_P D vwCl (WM cI cJ cZ cK ad ud pT_210 pK_211 pN_212 pF_213 pS_214 qT qK qN qF qS mKe mUn_215 mFi_216 mRi mBe mWc mAK_217 mSh mIP_218 mUS_219 mWa mWi mSi mRo mSp_220 mRw mSn mBg mLa mMo mRm mOw mGo mFr mQu mCh mPB mPS mFs ub_221 uT_222 uK_223 uN_224 uF_225 uS_226) H → va_D A (WM cI cJ cZ cK ad ud pT_210 pK_211 pN_212 pF_213 pS_214 qT qK qN qF qS mKe mUn_215 mFi_216 mRi mBe mWc mAK_217 mSh mIP_218 mUS_219 mWa mWi mSi mRo mSp_220 mRw mSn mBg mLa mMo mRm mOw mGo mFr mQu mCh mPB mPS mFs ub_221 uT_222 uK_223 uN_224 uF_225 uS_226) → va_S A s.heap H locs → lv_has ls 9 [(0, .ref (ad 0)), (1, .int a1), (4, .int x4_208), (5, .ref (ad 17))] → W p l e (headSpec wsX9_task rm_X9_task).room s m args below meth c H locs 0 0 Q (F0 m 173 ls [.int y_209]) := by
    intro y_209 x4_208 pT_210 pK_211 pN_212 pF_213 pS_214 mUn_215 mFi_216 mAK_217 mIP_218 mUS_219 mSp_220 ub_221 uT_222 uK_223 uN_224 uF_225 uS_226 h H locs ls hP hD hS hl
    refine lv_istore (lv' := [(6, .int y_209), (0, .ref (ad 0)), (1, .int a1), (4, .int x4_208), (5, .ref (ad 17))]) hx hb dX9_task_173 hl (by decide) rfl (fun ls hl => ?_)
    exact B175 x4_208 y_209 pT_210 pK_211 pN_212 pF_213 pS_214 mUn_215 mFi_216 mAK_217 mIP_218 mUS_219 mSp_220 ub_221 uT_222 uK_223 uN_224 uF_225 uS_226 h H locs ls hP hD hS (lv_sub hl [1, 2, 3, 4, 0] rfl)
  have B172 : ∀ (x4_227 : Int32) (pT_228 : Int32) (pK_229 : Nat → Int32) (pN_230 : Nat → Int32) (pF_231 : Nat → Int32) (pS_232 : Nat → Int32) (mUn_233 : Int32) (mFi_234 : Int32) (mAK_235 : Int32) (mIP_236 : Int32) (mUS_237 : Nat → Int32) (mSp_238 : Nat → Int64) (ub_239 : Nat → Nat) (uT_240 : Nat → Int32) (uK_241 : Nat → Nat → Int32) (uN_242 : Nat → Nat → Int32) (uF_243 : Nat → Nat → Int32) (uS_244 : Nat → Nat → Int32), wp_X9_task_b172 Qp a1 x4_227 pT_228 pK_229 pN_230 pF_231 pS_232 mUn_233 mFi_234 mAK_235 mIP_236 mUS_237 mSp_238 ub_239 uT_240 uK_241 uN_242 uF_243 uS_244 → ∀ (H : Heap) (locs : List Loc) (ls : Array Slot), va_P D vwCl (WM cI cJ cZ cK ad ud pT_228 pK_229 pN_230 pF_231 pS_232 qT qK qN qF qS mKe mUn_233 mFi_234 mRi mBe mWc mAK_235 mSh mIP_236 mUS_237 mWa mWi mSi mRo mSp_238 mRw mSn mBg mLa mMo mRm mOw mGo mFr mQu mCh mPB mPS mFs ub_239 uT_240 uK_241 uN_242 uF_243 uS_244) H → va_D A (WM cI cJ cZ cK ad ud pT_228 pK_229 pN_230 pF_231 pS_232 qT qK qN qF qS mKe mUn_233 mFi_234 mRi mBe mWc mAK_235 mSh mIP_236 mUS_237 mWa mWi mSi mRo mSp_238 mRw mSn mBg mLa mMo mRm mOw mGo mFr mQu mCh mPB mPS mFs ub_239 uT_240 uK_241 uN_242 uF_243 uS_244) → va_S A s.heap H locs → lv_has ls 9 [(0, .ref (ad 0)), (1, .int a1), (4, .int x4_227), (5, .ref (ad 17))] → W p l e (headSpec wsX9_task rm_X9_task).room s m args below meth c H locs 0 0 Q (F0 m 172 ls []) := by
    intro x4_227 pT_228 pK_229 pN_230 pF_231 pS_232 mUn_233 mFi_234 mAK_235 mIP_236 mUS_237 mSp_238 ub_239 uT_240 uK_241 uN_242 uF_243 uS_244 h H locs ls hP hD hS hl
    refine lv_iconst (v := 0) hx hb dX9_task_172 (by decide) ?_
    exact B173 0 x4_227 pT_228 pK_229 pN_230 pF_231 pS_232 mUn_233 mFi_234 mAK_235 mIP_236 mUS_237 mSp_238 ub_239 uT_240 uK_241 uN_242 uF_243 uS_244 h H locs ls hP hD hS (lv_sub hl [0, 1, 2, 3] rfl)
  have B68 : ∀ (pT_245 : Int32) (pK_246 : Nat → Int32) (pN_247 : Nat → Int32) (pF_248 : Nat → Int32) (pS_249 : Nat → Int32) (mUn_250 : Int32) (mFi_251 : Int32) (mAK_252 : Int32) (mIP_253 : Int32) (mUS_254 : Nat → Int32) (mSp_255 : Nat → Int64) (ub_256 : Nat → Nat) (uT_257 : Nat → Int32) (uK_258 : Nat → Nat → Int32) (uN_259 : Nat → Nat → Int32) (uF_260 : Nat → Nat → Int32) (uS_261 : Nat → Nat → Int32), wp_X9_task_b68 Qp pT_245 pK_246 pN_247 pF_248 pS_249 mUn_250 mFi_251 mAK_252 mIP_253 mUS_254 mSp_255 ub_256 uT_257 uK_258 uN_259 uF_260 uS_261 → ∀ (H : Heap) (locs : List Loc) (ls : Array Slot), va_P D vwCl (WM cI cJ cZ cK ad ud pT_245 pK_246 pN_247 pF_248 pS_249 qT qK qN qF qS mKe mUn_250 mFi_251 mRi mBe mWc mAK_252 mSh mIP_253 mUS_254 mWa mWi mSi mRo mSp_255 mRw mSn mBg mLa mMo mRm mOw mGo mFr mQu mCh mPB mPS mFs ub_256 uT_257 uK_258 uN_259 uF_260 uS_261) H → va_D A (WM cI cJ cZ cK ad ud pT_245 pK_246 pN_247 pF_248 pS_249 qT qK qN qF qS mKe mUn_250 mFi_251 mRi mBe mWc mAK_252 mSh mIP_253 mUS_254 mWa mWi mSi mRo mSp_255 mRw mSn mBg mLa mMo mRm mOw mGo mFr mQu mCh mPB mPS mFs ub_256 uT_257 uK_258 uN_259 uF_260 uS_261) → va_S A s.heap H locs → lv_has ls 9 [(0, .ref (ad 0))] → W p l e (headSpec wsX9_task rm_X9_task).room s m args below meth c H locs 0 0 Q (F0 m 68 ls []) := by
    intro pT_245 pK_246 pN_247 pF_248 pS_249 mUn_250 mFi_251 mAK_252 mIP_253 mUS_254 mSp_255 ub_256 uT_257 uK_258 uN_259 uF_260 uS_261 h H locs ls hP hD hS hl
    refine lv_aload_n hx hb dX9_task_68 rfl (lv_at hl 0 rfl) ?_
    refine lv_iconst (v := (-1)) hx hb dX9_task_69 (by decide) ?_
    refine cl_i hD hS hA (va_runV (As := [.int (-1)]) (rest := []) ⟨hx, hb, hml, hown, hts⟩ (ct_X9_found h H.size) (cwV 1 hts gX9_task_X9_found rfl rfl rfl (by decide +kernel) ⟨Nat.le_of_ble_eq_true rfl, Nat.le_of_ble_eq_true rfl⟩) ⟨CPre.blind, va_recv hAB.1 hP (ci := 9) (q0 := 0) rfl rfl, wd_pre hAB hP hD hS hA⟩ rfl rfl hl.1 rfl (lv_room (Nat.le_of_ble_eq_true rfl)) dX9_task_70 ⟨Nat.zero_le _, Nat.zero_le _⟩) (fun r_262 mFi_263 H locs h hP hD hS => ?_)
    have hP : va_P D vwCl (WM cI cJ cZ cK ad ud pT_245 pK_246 pN_247 pF_248 pS_249 qT qK qN qF qS mKe mUn_250 mFi_263 mRi mBe mWc mAK_252 mSh mIP_253 mUS_254 mWa mWi mSi mRo mSp_255 mRw mSn mBg mLa mMo mRm mOw mGo mFr mQu mCh mPB mPS mFs ub_256 uT_257 uK_258 uN_259 uF_260 uS_261) H := hP
    have hD : va_D A (WM cI cJ cZ cK ad ud pT_245 pK_246 pN_247 pF_248 pS_249 qT qK qN qF qS mKe mUn_250 mFi_263 mRi mBe mWc mAK_252 mSh mIP_253 mUS_254 mWa mWi mSi mRo mSp_255 mRw mSn mBg mLa mMo mRm mOw mGo mFr mQu mCh mPB mPS mFs ub_256 uT_257 uK_258 uN_259 uF_260 uS_261) := hD
    exact rt_i (pT_245, pK_246, pN_247, pF_248, pS_249, mUn_250, mFi_263, mAK_252, mIP_253, mUS_254, mSp_255, ub_256, uT_257, uK_258, uN_259, uF_260, uS_261) hQ hx hb hr hlk hP hD hS ⟨Nat.zero_le _, Nat.zero_le _⟩ dX9_task_73 h
  have B19 : ∀ (pT_264 : Int32) (pK_265 : Nat → Int32) (pN_266 : Nat → Int32) (pF_267 : Nat → Int32) (pS_268 : Nat → Int32) (mUn_269 : Int32) (mFi_270 : Int32) (mAK_271 : Int32) (mIP_272 : Int32) (mUS_273 : Nat → Int32) (mSp_274 : Nat → Int64) (ub_275 : Nat → Nat) (uT_276 : Nat → Int32) (uK_277 : Nat → Nat → Int32) (uN_278 : Nat → Nat → Int32) (uF_279 : Nat → Nat → Int32) (uS_280 : Nat → Nat → Int32), wp_X9_task_b19 Qp pT_264 pK_265 pN_266 pF_267 pS_268 mUn_269 mFi_270 mAK_271 mIP_272 mUS_273 mSp_274 ub_275 uT_276 uK_277 uN_278 uF_279 uS_280 → ∀ (H : Heap) (locs : List Loc) (ls : Array Slot), va_P D vwCl (WM cI cJ cZ cK ad ud pT_264 pK_265 pN_266 pF_267 pS_268 qT qK qN qF qS mKe mUn_269 mFi_270 mRi mBe mWc mAK_271 mSh mIP_272 mUS_273 mWa mWi mSi mRo mSp_274 mRw mSn mBg mLa mMo mRm mOw mGo mFr mQu mCh mPB mPS mFs ub_275 uT_276 uK_277 uN_278 uF_279 uS_280) H → va_D A (WM cI cJ cZ cK ad ud pT_264 pK_265 pN_266 pF_267 pS_268 qT qK qN qF qS mKe mUn_269 mFi_270 mRi mBe mWc mAK_271 mSh mIP_272 mUS_273 mWa mWi mSi mRo mSp_274 mRw mSn mBg mLa mMo mRm mOw mGo mFr mQu mCh mPB mPS mFs ub_275 uT_276 uK_277 uN_278 uF_279 uS_280) → va_S A s.heap H locs → lv_has ls 9 [(0, .ref (ad 0))] → W p l e (headSpec wsX9_task rm_X9_task).room s m args below meth c H locs 0 0 Q (F0 m 19 ls []) := by
    intro pT_264 pK_265 pN_266 pF_267 pS_268 mUn_269 mFi_270 mAK_271 mIP_272 mUS_273 mSp_274 ub_275 uT_276 uK_277 uN_278 uF_279 uS_280 h H locs ls hP hD hS hl
    refine lv_aload_n hx hb dX9_task_19 rfl (lv_at hl 0 rfl) ?_
    refine lv_iconst (v := (-1)) hx hb dX9_task_20 (by decide) ?_
    refine cl_i hD hS hA (va_runV (As := [.int (-1)]) (rest := []) ⟨hx, hb, hml, hown, hts⟩ (ct_X9_found h H.size) (cwV 1 hts gX9_task_X9_found rfl rfl rfl (by decide +kernel) ⟨Nat.le_of_ble_eq_true rfl, Nat.le_of_ble_eq_true rfl⟩) ⟨CPre.blind, va_recv hAB.1 hP (ci := 9) (q0 := 0) rfl rfl, wd_pre hAB hP hD hS hA⟩ rfl rfl hl.1 rfl (lv_room (Nat.le_of_ble_eq_true rfl)) dX9_task_21 ⟨Nat.zero_le _, Nat.zero_le _⟩) (fun r_281 mFi_282 H locs h hP hD hS => ?_)
    have hP : va_P D vwCl (WM cI cJ cZ cK ad ud pT_264 pK_265 pN_266 pF_267 pS_268 qT qK qN qF qS mKe mUn_269 mFi_282 mRi mBe mWc mAK_271 mSh mIP_272 mUS_273 mWa mWi mSi mRo mSp_274 mRw mSn mBg mLa mMo mRm mOw mGo mFr mQu mCh mPB mPS mFs ub_275 uT_276 uK_277 uN_278 uF_279 uS_280) H := hP
    have hD : va_D A (WM cI cJ cZ cK ad ud pT_264 pK_265 pN_266 pF_267 pS_268 qT qK qN qF qS mKe mUn_269 mFi_282 mRi mBe mWc mAK_271 mSh mIP_272 mUS_273 mWa mWi mSi mRo mSp_274 mRw mSn mBg mLa mMo mRm mOw mGo mFr mQu mCh mPB mPS mFs ub_275 uT_276 uK_277 uN_278 uF_279 uS_280) := hD
    exact rt_i (pT_264, pK_265, pN_266, pF_267, pS_268, mUn_269, mFi_282, mAK_271, mIP_272, mUS_273, mSp_274, ub_275, uT_276, uK_277, uN_278, uF_279, uS_280) hQ hx hb hr hlk hP hD hS ⟨Nat.zero_le _, Nat.zero_le _⟩ dX9_task_24 h
  refine lv_iload_n hx hb dX9_task_0 rfl (lv_at hl 1 rfl) ?_
  refine lv_i2l hx hb dX9_task_1 rfl ?_
  refine lv_lconst (v := 0) hx hb dX9_task_2 (by decide) ?_
  refine lv_ldc2 (v := 4) hx hb hown (hts (.constantLong RX9 128 4) (by decide +kernel)) dX9_task_3 ?_
  refine cl_i hD hS hA (va_runS (As := [.long (Int32.toInt64 a1), .long 0, .long 4]) (rest := []) ⟨hx, hb, hml, hown, hts⟩ (ct_X9_in h H.size) (va_cwS 3 hts gX9_task_X9_in rfl rfl rfl (by decide +kernel) ⟨Nat.le_of_ble_eq_true rfl, Nat.le_of_ble_eq_true rfl⟩) ⟨CPre.blind, wd_pre hAB hP hD hS hA⟩ rfl rfl hl.1 rfl (lv_room (Nat.le_of_ble_eq_true rfl)) dX9_task_6 ⟨Nat.zero_le _, Nat.zero_le _⟩) (fun r_283 u H locs h hP hD hS => ?_)
  refine lv_if_eq (tgt := 19) hx hb dX9_task_9 (by decide) (fun c_284 => ?_) (fun c_284 => ?_)
  · have h := h.1 c_284
    exact B19 pT pK pN pF pS mUn mFi mAK mIP mUS mSp ub uT uK uN uF uS h H locs ls hP hD hS (lv_sub hl [0] rfl)
  · have h := h.2 c_284
    refine lv_iload_n hx hb dX9_task_12 rfl (lv_at hl 2 rfl) ?_
    refine cl_i hD hS hA (va_runS (As := [.int a2]) (rest := []) ⟨hx, hb, hml, hown, hts⟩ (ct_X9_isBoard h H.size) (va_cwS 1 hts gX9_task_X9_isBoard rfl rfl rfl (by decide +kernel) ⟨Nat.le_of_ble_eq_true rfl, Nat.le_of_ble_eq_true rfl⟩) ⟨CPre.blind, wd_pre hAB hP hD hS hA⟩ rfl rfl hl.1 rfl (lv_room (Nat.le_of_ble_eq_true rfl)) dX9_task_13 ⟨Nat.zero_le _, Nat.zero_le _⟩) (fun r_285 u H locs h hP hD hS => ?_)
    refine lv_if_ne (tgt := 25) hx hb dX9_task_16 (by decide) (fun c_286 => ?_) (fun c_286 => ?_)
    · have h := h.1 c_286
      refine lv_aload_n hx hb dX9_task_25 rfl (lv_at hl 0 rfl) ?_
      refine va_get (D := D) (ci := 9) (C := RX9) (T := TX9) (N := 32) hx hb hts inn_X9_task_9 hown hAB.1 hP 0 rfl rfl 11 (by decide) (hts (.fieldLink RX9 35 "BarnBenchModel" "wide" "[I") (by decide +kernel)) (fun _ h9 => h9) rfl dX9_task_26 ?_
      refine lv_iload_n hx hb dX9_task_29 rfl (lv_at hl 2 rfl) ?_
      refine va_iald hx hb hAB.1 hP 14 0 rfl rfl h.1 dX9_task_30 ?_
      have h := h.2
      refine lv_if_ne (tgt := 41) hx hb dX9_task_31 (by decide) (fun c_287 => ?_) (fun c_287 => ?_)
      · have h := h.1 c_287
        refine lv_iload_n hx hb dX9_task_41 rfl (lv_at hl 1 rfl) ?_
        refine cl_i hD hS hA (va_runS (As := [.int a1]) (rest := []) ⟨hx, hb, hml, hown, hts⟩ (ct_X9_needs h H.size) (va_cwS 1 hts gX9_task_X9_needs rfl rfl rfl (by decide +kernel) ⟨Nat.le_of_ble_eq_true rfl, Nat.le_of_ble_eq_true rfl⟩) ⟨CPre.blind, wd_pre hAB hP hD hS hA⟩ rfl rfl hl.1 rfl (lv_room (Nat.le_of_ble_eq_true rfl)) dX9_task_42 ⟨Nat.zero_le _, Nat.zero_le _⟩) (fun r_288 u H locs h hP hD hS => ?_)
        refine lv_istore (lv' := [(4, .int r_288), (0, .ref (ad 0)), (1, .int a1), (2, .int a2), (3, .int a3)]) hx hb dX9_task_45 hl (by decide) rfl (fun ls hl => ?_)
        refine lv_iload_n hx hb dX9_task_47 rfl (lv_at hl 4 rfl) ?_
        refine lv_if_lt (tgt := 68) hx hb dX9_task_48 (by decide) (fun c_289 => ?_) (fun c_289 => ?_)
        · have h := h.1 c_289
          exact B68 pT pK pN pF pS mUn mFi mAK mIP mUS mSp ub uT uK uN uF uS h H locs ls hP hD hS (lv_sub hl [1] rfl)
        · have h := h.2 c_289
          refine lv_iload_n hx hb dX9_task_51 rfl (lv_at hl 4 rfl) ?_
          refine lv_i2l hx hb dX9_task_52 rfl ?_
          refine lv_iload hx hb dX9_task_53 (lv_at hl 0 rfl) ?_
          refine lv_i2l hx hb dX9_task_55 rfl ?_
          refine lv_ladd hx hb dX9_task_56 ?_
          refine lv_aload_n hx hb dX9_task_57 rfl (lv_at hl 1 rfl) ?_
          refine va_get (D := D) (ci := 9) (C := RX9) (T := TX9) (N := 32) hx hb hts inn_X9_task_9 hown hAB.1 hP 0 rfl rfl 12 (by decide) (hts (.fieldLink RX9 38 "BarnBenchModel" "size" "[I") (by decide +kernel)) (fun _ h9 => h9) rfl dX9_task_58 ?_
          refine lv_iload_n hx hb dX9_task_61 rfl (lv_at hl 3 rfl) ?_
          refine va_iald hx hb hAB.1 hP 15 0 rfl rfl h.1 dX9_task_62 ?_
          have h := h.2
          refine lv_i2l hx hb dX9_task_63 rfl ?_
          refine W.lcmp hx hb dX9_task_64 ?_
          refine lv_if_le (tgt := 74) hx hb dX9_task_65 (by decide) (fun c_290 => ?_) (fun c_290 => ?_)
          · have h := h.1 c_290
            refine lv_aload_n hx hb dX9_task_74 rfl (lv_at hl 1 rfl) ?_
            refine va_get (D := D) (ci := 9) (C := RX9) (T := TX9) (N := 32) hx hb hts inn_X9_task_9 hown hAB.1 hP 0 rfl rfl 14 (by decide) (hts (.fieldLink RX9 45 "BarnBenchModel" "spare" "[J") (by decide +kernel)) (fun _ h9 => h9) rfl dX9_task_75 ?_
            refine lv_astore (lv' := [(5, .ref (ad 17)), (4, .int r_288), (0, .ref (ad 0)), (1, .int a1), (2, .int a2), (3, .int a3)]) hx hb dX9_task_78 hl (by decide) rfl (fun ls hl => ?_)
            refine lv_iconst (v := 0) hx hb dX9_task_80 (by decide) ?_
            refine lv_istore (lv' := [(6, .int 0), (5, .ref (ad 17)), (4, .int r_288), (0, .ref (ad 0)), (1, .int a1), (2, .int a2), (3, .int a3)]) hx hb dX9_task_81 hl (by decide) rfl (fun ls hl => ?_)
            have L83 : ∀ (x83 : (Nat → Int64) → Prop) (hk83 : ∀ (mSp_293 : Nat → Int64), x83 mSp_293 → ∀ (H : Heap) (locs : List Loc) (ls : Array Slot), va_P D vwCl (WM cI cJ cZ cK ad ud pT pK pN pF pS qT qK qN qF qS mKe mUn mFi mRi mBe mWc mAK mSh mIP mUS mWa mWi mSi mRo mSp_293 mRw mSn mBg mLa mMo mRm mOw mGo mFr mQu mCh mPB mPS mFs ub uT uK uN uF uS) H → va_D A (WM cI cJ cZ cK ad ud pT pK pN pF pS qT qK qN qF qS mKe mUn mFi mRi mBe mWc mAK mSh mIP mUS mWa mWi mSi mRo mSp_293 mRw mSn mBg mLa mMo mRm mOw mGo mFr mQu mCh mPB mPS mFs ub uT uK uN uF uS) → va_S A s.heap H locs → lv_has ls 9 [(0, .ref (ad 0)), (1, .int a1), (4, .int r_288), (5, .ref (ad 17))] → W p l e (headSpec wsX9_task rm_X9_task).room s m args below meth c H locs 0 0 Q (F0 m 115 ls [])) (n83 : Nat) (x6_291 : Int32) (mSp_292 : Nat → Int64), wp_X9_task_L83 a2 a3 mRo r_288 x83 n83 x6_291 mSp_292 → ∀ (H : Heap) (locs : List Loc) (ls : Array Slot), va_P D vwCl (WM cI cJ cZ cK ad ud pT pK pN pF pS qT qK qN qF qS mKe mUn mFi mRi mBe mWc mAK mSh mIP mUS mWa mWi mSi mRo mSp_292 mRw mSn mBg mLa mMo mRm mOw mGo mFr mQu mCh mPB mPS mFs ub uT uK uN uF uS) H → va_D A (WM cI cJ cZ cK ad ud pT pK pN pF pS qT qK qN qF qS mKe mUn mFi mRi mBe mWc mAK mSh mIP mUS mWa mWi mSi mRo mSp_292 mRw mSn mBg mLa mMo mRm mOw mGo mFr mQu mCh mPB mPS mFs ub uT uK uN uF uS) → va_S A s.heap H locs → lv_has ls 9 [(0, .ref (ad 0)), (1, .int a1), (2, .int a2), (3, .int a3), (4, .int r_288), (5, .ref (ad 17)), (6, .int x6_291)] → W p l e (headSpec wsX9_task rm_X9_task).room s m args below meth c H locs 0 0 Q (F0 m 83 ls []) := by
              intro x83 hk83 n83
              induction n83 with
              | zero => intro x6_291 mSp_292 h; exact False.elim h
              | succ n83 ih83 =>
                intro x6_291 mSp_292 h H locs ls hP hD hS hl
                refine lv_iload hx hb dX9_task_83 (lv_at hl 6 rfl) ?_
                refine lv_iload hx hb dX9_task_85 (lv_at hl 4 rfl) ?_
                refine lv_icmp_ge (tgt := 115) hx hb dX9_task_87 (by decide) (fun c_294 => ?_) (fun c_294 => ?_)
                · have h := h.1 c_294
                  exact hk83 mSp_292 h H locs ls hP hD hS (lv_sub hl [0, 1, 4, 5] rfl)
                · have h := h.2 c_294
                  refine lv_aload hx hb dX9_task_90 (lv_at hl 5 rfl) ?_
                  refine lv_iload hx hb dX9_task_92 (lv_at hl 6 rfl) ?_
                  refine lv_aload_n hx hb dX9_task_94 rfl (lv_at hl 0 rfl) ?_
                  refine va_get (D := D) (ci := 9) (C := RX9) (T := TX9) (N := 32) hx hb hts inn_X9_task_9 hown hAB.1 hP 0 rfl rfl 13 (by decide) (hts (.fieldLink RX9 41 "BarnBenchModel" "rows" "[J") (by decide +kernel)) (fun _ h9 => h9) rfl dX9_task_95 ?_
                  refine lv_bipush (v := 24) hx hb dX9_task_98 (by decide) ?_
                  refine lv_iload_n hx hb dX9_task_100 rfl (lv_at hl 2 rfl) ?_
                  refine lv_imul hx hb dX9_task_101 ?_
                  refine lv_iload_n hx hb dX9_task_102 rfl (lv_at hl 3 rfl) ?_
                  refine lv_iadd hx hb dX9_task_103 ?_
                  refine lv_iload hx hb dX9_task_104 (lv_at hl 6 rfl) ?_
                  refine lv_iadd hx hb dX9_task_106 ?_
                  refine va_lald hx hb hAB.1 hP 16 1 rfl rfl h.1 dX9_task_107 ?_
                  have h := h.2
                  refine sM_17 hx hb hAB hP hD hS h.1 dX9_task_108 (fun mSp_295 H locs e_296 hP hD hS => ?_)
                  have h := h.2
                  have h := h mSp_295 e_296
                  obtain ⟨x6_297, e_298⟩ : ∃ y : Int32, y = x6_291 + 1 := ⟨_, rfl⟩
                  have h := h x6_297 e_298
                  refine lv_iinc (v := x6_297) (lv' := [(6, .int x6_297), (0, .ref (ad 0)), (1, .int a1), (2, .int a2), (3, .int a3), (4, .int r_288), (5, .ref (ad 17))]) hx hb dX9_task_109 hl (k := 6) rfl (by rw [e_298]; rfl) (by decide) rfl (fun ls hl => ?_)
                  refine lv_goto (tgt := 83) hx hb dX9_task_112 (by decide) ?_
                  exact ih83 x6_297 mSp_295 h H locs ls hP hD hS (lv_sub hl [1, 2, 3, 4, 5, 6, 0] rfl)
            obtain ⟨n83, h⟩ := h
            refine L83 _ (fun mSp_293 h H locs ls hP hD hS hl => ?_) n83 0 mSp h H locs ls hP hD hS (lv_sub hl [3, 4, 5, 6, 2, 1, 0] rfl)
            refine lv_aload hx hb dX9_task_115 (lv_at hl 3 rfl) ?_
            refine lv_iconst (v := 0) hx hb dX9_task_117 (by decide) ?_
            refine va_lald hx hb hAB.1 hP 17 1 rfl rfl h.1 dX9_task_118 ?_
            have h := h.2
            refine lv_lconst (v := 0) hx hb dX9_task_119 (by decide) ?_
            refine lv_ldc2 (v := 60) hx hb hown (hts (.constantLong RX9 133 60) (by decide +kernel)) dX9_task_120 ?_
            refine cl_i hD hS hA (va_runS (As := [.long (mSp_293 (Int32.toNatClampNeg 0)), .long 0, .long 60]) (rest := []) ⟨hx, hb, hml, hown, hts⟩ (ct_X9_in h H.size) (va_cwS 3 hts gX9_task_X9_in rfl rfl rfl (by decide +kernel) ⟨Nat.le_of_ble_eq_true rfl, Nat.le_of_ble_eq_true rfl⟩) ⟨CPre.blind, wd_pre hAB hP hD hS hA⟩ rfl rfl hl.1 rfl (lv_room (Nat.le_of_ble_eq_true rfl)) dX9_task_123 ⟨Nat.zero_le _, Nat.zero_le _⟩) (fun r_299 u H locs h hP hD hS => ?_)
            refine lv_istore (lv' := [(6, .int r_299), (0, .ref (ad 0)), (1, .int a1), (4, .int r_288), (5, .ref (ad 17))]) hx hb dX9_task_126 hl (by decide) rfl (fun ls hl => ?_)
            refine lv_iload hx hb dX9_task_128 (lv_at hl 3 rfl) ?_
            refine lv_iconst (v := 1) hx hb dX9_task_130 (by decide) ?_
            refine lv_icmp_le (tgt := 175) hx hb dX9_task_131 (by decide) (fun c_300 => ?_) (fun c_300 => ?_)
            · have h := h.1 c_300
              exact B175 r_288 r_299 pT pK pN pF pS mUn mFi mAK mIP mUS mSp_293 ub uT uK uN uF uS h H locs ls hP hD hS (lv_sub hl [1, 2, 3, 4, 0] rfl)
            · have h := h.2 c_300
              refine lv_iload hx hb dX9_task_134 (lv_at hl 0 rfl) ?_
              refine lv_if_eq (tgt := 172) hx hb dX9_task_136 (by decide) (fun c_301 => ?_) (fun c_301 => ?_)
              · have h := h.1 c_301
                exact B172 r_288 pT pK pN pF pS mUn mFi mAK mIP mUS mSp_293 ub uT uK uN uF uS h H locs ls hP hD hS (lv_sub hl [1, 2, 3, 4] rfl)
              · have h := h.2 c_301
                refine lv_aload hx hb dX9_task_139 (lv_at hl 4 rfl) ?_
                refine lv_iconst (v := 1) hx hb dX9_task_141 (by decide) ?_
                refine va_lald hx hb hAB.1 hP 17 1 rfl rfl h.1 dX9_task_142 ?_
                have h := h.2
                refine lv_lconst (v := 0) hx hb dX9_task_143 (by decide) ?_
                refine lv_aload hx hb dX9_task_144 (lv_at hl 4 rfl) ?_
                refine lv_iconst (v := 0) hx hb dX9_task_146 (by decide) ?_
                refine va_lald hx hb hAB.1 hP 17 1 rfl rfl h.1 dX9_task_147 ?_
                have h := h.2
                refine cl_i hD hS hA (va_runS (As := [.long (mSp_293 (Int32.toNatClampNeg 1)), .long 0, .long (mSp_293 (Int32.toNatClampNeg 0))]) (rest := []) ⟨hx, hb, hml, hown, hts⟩ (ct_X9_in h H.size) (va_cwS 3 hts gX9_task_X9_in rfl rfl rfl (by decide +kernel) ⟨Nat.le_of_ble_eq_true rfl, Nat.le_of_ble_eq_true rfl⟩) ⟨CPre.blind, wd_pre hAB hP hD hS hA⟩ rfl rfl hl.1 rfl (lv_room (Nat.le_of_ble_eq_true rfl)) dX9_task_148 ⟨Nat.zero_le _, Nat.zero_le _⟩) (fun r_302 u H locs h hP hD hS => ?_)
                refine lv_if_eq (tgt := 172) hx hb dX9_task_151 (by decide) (fun c_303 => ?_) (fun c_303 => ?_)
                · have h := h.1 c_303
                  exact B172 r_288 pT pK pN pF pS mUn mFi mAK mIP mUS mSp_293 ub uT uK uN uF uS h H locs ls hP hD hS (lv_sub hl [1, 2, 3, 4] rfl)
                · have h := h.2 c_303
                  refine lv_aload hx hb dX9_task_154 (lv_at hl 4 rfl) ?_
                  refine lv_iconst (v := 2) hx hb dX9_task_156 (by decide) ?_
                  refine va_lald hx hb hAB.1 hP 17 1 rfl rfl h.1 dX9_task_157 ?_
                  have h := h.2
                  refine lv_lconst (v := 0) hx hb dX9_task_158 (by decide) ?_
                  refine lv_ldc2 (v := 100000) hx hb hown (hts (.constantLong RX9 135 100000) (by decide +kernel)) dX9_task_159 ?_
                  refine cl_i hD hS hA (va_runS (As := [.long (mSp_293 (Int32.toNatClampNeg 2)), .long 0, .long 100000]) (rest := []) ⟨hx, hb, hml, hown, hts⟩ (ct_X9_in h H.size) (va_cwS 3 hts gX9_task_X9_in rfl rfl rfl (by decide +kernel) ⟨Nat.le_of_ble_eq_true rfl, Nat.le_of_ble_eq_true rfl⟩) ⟨CPre.blind, wd_pre hAB hP hD hS hA⟩ rfl rfl hl.1 rfl (lv_room (Nat.le_of_ble_eq_true rfl)) dX9_task_162 ⟨Nat.zero_le _, Nat.zero_le _⟩) (fun r_304 u H locs h hP hD hS => ?_)
                  refine lv_if_eq (tgt := 172) hx hb dX9_task_165 (by decide) (fun c_305 => ?_) (fun c_305 => ?_)
                  · have h := h.1 c_305
                    exact B172 r_288 pT pK pN pF pS mUn mFi mAK mIP mUS mSp_293 ub uT uK uN uF uS h H locs ls hP hD hS (lv_sub hl [1, 2, 3, 4] rfl)
                  · have h := h.2 c_305
                    refine lv_iconst (v := 1) hx hb dX9_task_168 (by decide) ?_
                    refine lv_goto (tgt := 173) hx hb dX9_task_169 (by decide) ?_
                    exact B173 1 r_288 pT pK pN pF pS mUn mFi mAK mIP mUS mSp_293 ub uT uK uN uF uS h H locs ls hP hD hS (lv_sub hl [1, 2, 3, 4] rfl)
          · have h := h.2 c_290
            exact B68 pT pK pN pF pS mUn mFi mAK mIP mUS mSp ub uT uK uN uF uS h H locs ls hP hD hS (lv_sub hl [1] rfl)
      · have h := h.2 c_287
        refine lv_aload_n hx hb dX9_task_34 rfl (lv_at hl 0 rfl) ?_
        refine lv_bipush (v := (-2)) hx hb dX9_task_35 (by decide) ?_
        refine cl_i hD hS hA (va_runV (As := [.int (-2)]) (rest := []) ⟨hx, hb, hml, hown, hts⟩ (ct_X9_found h H.size) (cwV 1 hts gX9_task_X9_found rfl rfl rfl (by decide +kernel) ⟨Nat.le_of_ble_eq_true rfl, Nat.le_of_ble_eq_true rfl⟩) ⟨CPre.blind, va_recv hAB.1 hP (ci := 9) (q0 := 0) rfl rfl, wd_pre hAB hP hD hS hA⟩ rfl rfl hl.1 rfl (lv_room (Nat.le_of_ble_eq_true rfl)) dX9_task_37 ⟨Nat.zero_le _, Nat.zero_le _⟩) (fun r_306 mFi_307 H locs h hP hD hS => ?_)
        have hP : va_P D vwCl (WM cI cJ cZ cK ad ud pT pK pN pF pS qT qK qN qF qS mKe mUn mFi_307 mRi mBe mWc mAK mSh mIP mUS mWa mWi mSi mRo mSp mRw mSn mBg mLa mMo mRm mOw mGo mFr mQu mCh mPB mPS mFs ub uT uK uN uF uS) H := hP
        have hD : va_D A (WM cI cJ cZ cK ad ud pT pK pN pF pS qT qK qN qF qS mKe mUn mFi_307 mRi mBe mWc mAK mSh mIP mUS mWa mWi mSi mRo mSp mRw mSn mBg mLa mMo mRm mOw mGo mFr mQu mCh mPB mPS mFs ub uT uK uN uF uS) := hD
        exact rt_i (pT, pK, pN, pF, pS, mUn, mFi_307, mAK, mIP, mUS, mSp, ub, uT, uK, uN, uF, uS) hQ hx hb hr hlk hP hD hS ⟨Nat.zero_le _, Nat.zero_le _⟩ dX9_task_40 h
    · have h := h.2 c_286
      exact B19 pT pK pN pF pS mUn mFi mAK mIP mUS mSp ub uT uK uN uF uS h H locs ls hP hD hS (lv_sub hl [0] rfl)
def wp_X9_followed_b38 (k4 : (Int32) → (Int32) → Prop) (y_5 : Int32) (y_6 : Int32) (x3_4 : Int32) : Prop :=
  ∀ x2_7 : Int32, x2_7 = (y_5 + y_6) → ∀ x3_9 : Int32, x3_9 = x3_4 + 1 → k4 x2_7 x3_9
def wp_X9_followed_L4 (a1 : Int32) (pF : Nat → Int32) (pT : Int32) (x4 : (Int32) → Prop) : Nat → (Int32) → (Int32) → Prop
  | 0, _, _ => False
  | n4 + 1, x2_1, x3_2 =>
  ((pT ≤ x3_2 → x4 x2_1) ∧
   (¬ pT ≤ x3_2 → vp_in ((12 * a1) + x3_2) 144 ∧ (((pF (Int32.toNatClampNeg ((12 * a1) + x3_2))) = 0 → wp_X9_followed_b38 (wp_X9_followed_L4 a1 pF pT x4 n4) x2_1 0 x3_2) ∧
   (¬ (pF (Int32.toNatClampNeg ((12 * a1) + x3_2))) = 0 → wp_X9_followed_b38 (wp_X9_followed_L4 a1 pF pT x4 n4) x2_1 1 x3_2))))
def wp_X9_followed (pT : Int32) (pF : Nat → Int32) (a1 : Int32) (Qp : Int32 → Prop) : Prop :=
  (∃ n4 : Nat, wp_X9_followed_L4 a1 pF pT (fun (x2_3 : Int32) => Qp x2_3) n4 0 0)
theorem inn_X9_followed_8 : ∀ w ∈ u_ws RX8 TX8 5, w ∈ wsX9_followed := fun _ h => List.mem_cons_of_mem _ (List.mem_append_right _ h)
theorem inn_X9_followed_9 : ∀ w ∈ u_ws RX9 TX9 32, w ∈ wsX9_followed := fun _ h => List.mem_cons_of_mem _ (List.mem_append_left _ (List.mem_append_right _ h))
def rm_X9_followed : Room := { frames := 0, cells := 0, slots := 0, locals := 0 }
set_option maxHeartbeats 4000000 in
set_option maxRecDepth 100000 in
theorem ct_X9_followed {l : Launch} {D : va_G} {cI cJ cZ cE cD cK : ClassId} {ad : Nat → Nat} {ud : Nat → Nat → Nat} {pT : Int32} {pK : Nat → Int32} {pN : Nat → Int32} {pF : Nat → Int32} {pS : Nat → Int32} {qT : Int32} {qK : Nat → Int32} {qN : Nat → Int32} {qF : Nat → Int32} {qS : Nat → Int32} {mKe : Int32} {mUn : Int32} {mFi : Int32} {mRi : Int32} {mBe : Int64} {mWc : Int32} {mAK : Int32} {mSh : Int32} {mIP : Int32} {mUS : Nat → Int32} {mWa : Nat → Int32} {mWi : Nat → Int32} {mSi : Nat → Int32} {mRo : Nat → Int64} {mSp : Nat → Int64} {mRw : Nat → Int32} {mSn : Nat → Int32} {mBg : Nat → Int32} {mLa : Nat → Int32} {mMo : Nat → Int32} {mRm : Nat → Int64} {mOw : Nat → Int64} {mGo : Nat → Int32} {mFr : Nat → Int32} {mQu : Nat → Int32} {mCh : Nat → Int64} {mPB : Nat → Int32} {mPS : Nat → Int32} {mFs : Nat → Int32} {ub : Nat → Nat} {uT : Nat → Int32} {uK : Nat → Nat → Int32} {uN : Nat → Nat → Int32} {uF : Nat → Nat → Int32} {uS : Nat → Nat → Int32}   {a1 : Int32} {Qp : Int32 → Prop}   (h : wp_X9_followed pT pF a1 Qp) : CTi l yX9_followed wsX9_followed rm_X9_followed D (tyL cI cJ cZ cE cD cK) [.ref (ad 0), .int a1] (WM cI cJ cZ cK ad ud pT pK pN pF pS qT qK qN qF qS mKe mUn mFi mRi mBe mWc mAK mSh mIP mUS mWa mWi mSi mRo mSp mRw mSn mBg mLa mMo mRm mOw mGo mFr mQu mCh mPB mPS mFs ub uT uK uN uF uS) (fun (r : Int32) (u : Unit) => Qp r ) (fun u : Unit => (WM cI cJ cZ cK ad ud pT pK pN pF pS qT qK qN qF qS mKe mUn mFi mRi mBe mWc mAK mSh mIP mUS mWa mWi mSi mRo mSp mRw mSn mBg mLa mMo mRm mOw mGo mFr mQu mCh mPB mPS mFs ub uT uK uN uF uS)) 0 0 := by
  refine ent_i (cc := cX9_followed) (maxL := 4) (ret := (some .int)) (by decide) rfl (Nat.le_of_ble_eq_true rfl) ?_
  intro p e s m args below meth c A Q hQ hx hb hr hml hown hts hlk hA hAB hP hD hS ls hl
  have hown : s.vm.findClass RX9 = some m.cls := hown
  have hl : lv_has ls 4 [(0, .ref (ad 0)), (1, .int a1)] := hl
  generalize hH : s.heap = H at hP ⊢
  have hS : va_S A s.heap H [] := by rw [← hH]; exact hS
  clear hH
  generalize ([] : List Loc) = locs at hS ⊢
  refine lv_iconst (v := 0) hx hb dX9_followed_0 (by decide) ?_
  refine lv_istore_n (lv' := [(2, .int 0), (0, .ref (ad 0)), (1, .int a1)]) hx hb dX9_followed_1 rfl hl (by decide) rfl (fun ls hl => ?_)
  refine lv_iconst (v := 0) hx hb dX9_followed_2 (by decide) ?_
  refine lv_istore_n (lv' := [(3, .int 0), (2, .int 0), (0, .ref (ad 0)), (1, .int a1)]) hx hb dX9_followed_3 rfl hl (by decide) rfl (fun ls hl => ?_)
  have L4 : ∀ (x4 : (Int32) → Prop) (hk4 : ∀ (x2_3 : Int32), x4 x2_3 → ∀ (H : Heap) (locs : List Loc) (ls : Array Slot), va_P D vwCl (WM cI cJ cZ cK ad ud pT pK pN pF pS qT qK qN qF qS mKe mUn mFi mRi mBe mWc mAK mSh mIP mUS mWa mWi mSi mRo mSp mRw mSn mBg mLa mMo mRm mOw mGo mFr mQu mCh mPB mPS mFs ub uT uK uN uF uS) H → va_D A (WM cI cJ cZ cK ad ud pT pK pN pF pS qT qK qN qF qS mKe mUn mFi mRi mBe mWc mAK mSh mIP mUS mWa mWi mSi mRo mSp mRw mSn mBg mLa mMo mRm mOw mGo mFr mQu mCh mPB mPS mFs ub uT uK uN uF uS) → va_S A s.heap H locs → lv_has ls 4 [(2, .int x2_3)] → W p l e (headSpec wsX9_followed rm_X9_followed).room s m args below meth c H locs 0 0 Q (F0 m 46 ls [])) (n4 : Nat) (x2_1 : Int32) (x3_2 : Int32), wp_X9_followed_L4 a1 pF pT x4 n4 x2_1 x3_2 → ∀ (H : Heap) (locs : List Loc) (ls : Array Slot), va_P D vwCl (WM cI cJ cZ cK ad ud pT pK pN pF pS qT qK qN qF qS mKe mUn mFi mRi mBe mWc mAK mSh mIP mUS mWa mWi mSi mRo mSp mRw mSn mBg mLa mMo mRm mOw mGo mFr mQu mCh mPB mPS mFs ub uT uK uN uF uS) H → va_D A (WM cI cJ cZ cK ad ud pT pK pN pF pS qT qK qN qF qS mKe mUn mFi mRi mBe mWc mAK mSh mIP mUS mWa mWi mSi mRo mSp mRw mSn mBg mLa mMo mRm mOw mGo mFr mQu mCh mPB mPS mFs ub uT uK uN uF uS) → va_S A s.heap H locs → lv_has ls 4 [(0, .ref (ad 0)), (1, .int a1), (2, .int x2_1), (3, .int x3_2)] → W p l e (headSpec wsX9_followed rm_X9_followed).room s m args below meth c H locs 0 0 Q (F0 m 4 ls []) := by
    intro x4 hk4 n4
    induction n4 with
    | zero => intro x2_1 x3_2 h; exact False.elim h
    | succ n4 ih4 =>
      intro x2_1 x3_2 h H locs ls hP hD hS hl
      have B38 : ∀ (y_5 : Int32) (y_6 : Int32) (x3_4 : Int32), wp_X9_followed_b38 (wp_X9_followed_L4 a1 pF pT x4 n4) y_5 y_6 x3_4 → ∀ (H : Heap) (locs : List Loc) (ls : Array Slot), va_P D vwCl (WM cI cJ cZ cK ad ud pT pK pN pF pS qT qK qN qF qS mKe mUn mFi mRi mBe mWc mAK mSh mIP mUS mWa mWi mSi mRo mSp mRw mSn mBg mLa mMo mRm mOw mGo mFr mQu mCh mPB mPS mFs ub uT uK uN uF uS) H → va_D A (WM cI cJ cZ cK ad ud pT pK pN pF pS qT qK qN qF qS mKe mUn mFi mRi mBe mWc mAK mSh mIP mUS mWa mWi mSi mRo mSp mRw mSn mBg mLa mMo mRm mOw mGo mFr mQu mCh mPB mPS mFs ub uT uK uN uF uS) → va_S A s.heap H locs → lv_has ls 4 [(0, .ref (ad 0)), (1, .int a1), (3, .int x3_4)] → W p l e (headSpec wsX9_followed rm_X9_followed).room s m args below meth c H locs 0 0 Q (F0 m 38 ls [.int y_6, .int y_5]) := by
        intro y_5 y_6 x3_4 h H locs ls hP hD hS hl
        refine lv_iadd hx hb dX9_followed_38 ?_
        refine lv_topi (fun x2_7 e_8 => ?_)
        have h := h x2_7 e_8
        refine lv_istore_n (lv' := [(2, .int x2_7), (0, .ref (ad 0)), (1, .int a1), (3, .int x3_4)]) hx hb dX9_followed_39 rfl hl (by decide) rfl (fun ls hl => ?_)
        obtain ⟨x3_9, e_10⟩ : ∃ y : Int32, y = x3_4 + 1 := ⟨_, rfl⟩
        have h := h x3_9 e_10
        refine lv_iinc (v := x3_9) (lv' := [(3, .int x3_9), (2, .int x2_7), (0, .ref (ad 0)), (1, .int a1)]) hx hb dX9_followed_40 hl (k := 3) rfl (by rw [e_10]; rfl) (by decide) rfl (fun ls hl => ?_)
        refine lv_goto (tgt := 4) hx hb dX9_followed_43 (by decide) ?_
        exact ih4 x2_7 x3_9 h H locs ls hP hD hS (lv_sub hl [2, 3, 1, 0] rfl)
      refine lv_iload_n hx hb dX9_followed_4 rfl (lv_at hl 3 rfl) ?_
      refine lv_aload_n hx hb dX9_followed_5 rfl (lv_at hl 0 rfl) ?_
      refine va_get (D := D) (ci := 9) (C := RX9) (T := TX9) (N := 32) hx hb hts inn_X9_followed_9 hown hAB.1 hP 0 rfl rfl 0 (by decide) (hts (.fieldLink RX9 10 "BarnBenchModel" "b" "LBarnBenchModel$Book;") (by decide +kernel)) (fun _ h9 => h9) rfl dX9_followed_6 ?_
      refine va_get (D := D) (ci := 8) (C := RX8) (T := TX8) (N := 5) hx hb hts inn_X9_followed_8 hown hAB.1 hP 1 rfl rfl 0 (by decide) (hts (.fieldLink RX9 94 "BarnBenchModel$Book" "tasks" "I") (by decide +kernel)) (fun _ h9 => h9) rfl dX9_followed_9 ?_
      refine lv_icmp_ge (tgt := 46) hx hb dX9_followed_12 (by decide) (fun c_11 => ?_) (fun c_11 => ?_)
      · have h := h.1 c_11
        exact hk4 x2_1 h H locs ls hP hD hS (lv_sub hl [2] rfl)
      · have h := h.2 c_11
        refine lv_iload_n hx hb dX9_followed_15 rfl (lv_at hl 2 rfl) ?_
        refine lv_aload_n hx hb dX9_followed_16 rfl (lv_at hl 0 rfl) ?_
        refine va_get (D := D) (ci := 9) (C := RX9) (T := TX9) (N := 32) hx hb hts inn_X9_followed_9 hown hAB.1 hP 0 rfl rfl 0 (by decide) (hts (.fieldLink RX9 10 "BarnBenchModel" "b" "LBarnBenchModel$Book;") (by decide +kernel)) (fun _ h9 => h9) rfl dX9_followed_17 ?_
        refine va_get (D := D) (ci := 8) (C := RX8) (T := TX8) (N := 5) hx hb hts inn_X9_followed_8 hown hAB.1 hP 1 rfl rfl 3 (by decide) (hts (.fieldLink RX9 147 "BarnBenchModel$Book" "follows" "[Z") (by decide +kernel)) (fun _ h9 => h9) rfl dX9_followed_20 ?_
        refine lv_bipush (v := 12) hx hb dX9_followed_23 (by decide) ?_
        refine lv_iload_n hx hb dX9_followed_25 rfl (lv_at hl 1 rfl) ?_
        refine lv_imul hx hb dX9_followed_26 ?_
        refine lv_iload_n hx hb dX9_followed_27 rfl (lv_at hl 3 rfl) ?_
        refine lv_iadd hx hb dX9_followed_28 ?_
        refine va_zald hx hb hAB.1 hP 4 2 rfl rfl h.1 dX9_followed_29 ?_
        have h := h.2
        refine lv_if_eq (tgt := 37) hx hb dX9_followed_30 (by decide) (fun c_12 => ?_) (fun c_12 => ?_)
        · have h := h.1 c_12
          refine lv_iconst (v := 0) hx hb dX9_followed_37 (by decide) ?_
          exact B38 x2_1 0 x3_2 h H locs ls hP hD hS (lv_sub hl [0, 1, 3] rfl)
        · have h := h.2 c_12
          refine lv_iconst (v := 1) hx hb dX9_followed_33 (by decide) ?_
          refine lv_goto (tgt := 38) hx hb dX9_followed_34 (by decide) ?_
          exact B38 x2_1 1 x3_2 h H locs ls hP hD hS (lv_sub hl [0, 1, 3] rfl)
  obtain ⟨n4, h⟩ := h
  refine L4 _ (fun x2_3 h H locs ls hP hD hS hl => ?_) n4 0 0 h H locs ls hP hD hS (lv_sub hl [2, 3, 1, 0] rfl)
  refine lv_iload_n hx hb dX9_followed_46 rfl (lv_at hl 0 rfl) ?_
  exact rt_i () hQ hx hb hr hlk hP hD hS ⟨Nat.zero_le _, Nat.zero_le _⟩ dX9_followed_47 h
def wp_X9_all_b118 (k13 : (Int32) → (Int32) → Prop) (y_9 : Int32) (y_10 : Int32) (x4_8 : Int32) : Prop :=
  ∀ x2_11 : Int32, x2_11 = (y_9 ||| y_10) → ∀ x4_13 : Int32, x4_13 = x4_8 + 1 → k13 x2_11 x4_13
def wp_X9_all_b96 (k45 : (Int32) → (Int32) → Prop) (y_22 : Int32) (x6_21 : Int32) : Prop :=
  ∀ x6_23 : Int32, x6_23 = x6_21 + 1 → k45 y_22 x6_23
def wp_X9_all_b95 (k45 : (Int32) → (Int32) → Prop) (x6_25 : Int32) : Prop :=
  wp_X9_all_b96 k45 0 x6_25
def wp_X9_all_b91 (k45 : (Int32) → (Int32) → Prop) (x6_26 : Int32) : Prop :=
  wp_X9_all_b96 k45 1 x6_26
def wp_X9_all_L45 (pF : Nat → Int32) (pT : Int32) (x2_5 : Int32) (x4_6 : Int32) (x45 : (Int32) → Prop) : Nat → (Int32) → (Int32) → Prop
  | 0, _, _ => False
  | n45 + 1, x5_18, x6_19 =>
  ((pT ≤ x6_19 → x45 x5_18) ∧
   (¬ pT ≤ x6_19 → ((¬ x5_18 = 0 → wp_X9_all_b91 (wp_X9_all_L45 pF pT x2_5 x4_6 x45 n45) x6_19) ∧
   (x5_18 = 0 → ((¬ ((x2_5 >>> (x6_19 &&& 31)) &&& 1) = 1 → wp_X9_all_b95 (wp_X9_all_L45 pF pT x2_5 x4_6 x45 n45) x6_19) ∧
   (((x2_5 >>> (x6_19 &&& 31)) &&& 1) = 1 → vp_in ((12 * x6_19) + x4_6) 144 ∧ (((pF (Int32.toNatClampNeg ((12 * x6_19) + x4_6))) = 0 → wp_X9_all_b95 (wp_X9_all_L45 pF pT x2_5 x4_6 x45 n45) x6_19) ∧
   (¬ (pF (Int32.toNatClampNeg ((12 * x6_19) + x4_6))) = 0 → wp_X9_all_b91 (wp_X9_all_L45 pF pT x2_5 x4_6 x45 n45) x6_19))))))))
def wp_X9_all_L13 (a1 : Int32) (pF : Nat → Int32) (pT : Int32) (x13 : (Int32) → Prop) : Nat → (Int32) → (Int32) → Prop
  | 0, _, _ => False
  | n13 + 1, x2_5, x4_6 =>
  ((pT ≤ x4_6 → x13 x2_5) ∧
   (¬ pT ≤ x4_6 → vp_in ((12 * a1) + x4_6) 144 ∧ ∀ x5_16 : Int32, x5_16 = (pF (Int32.toNatClampNeg ((12 * a1) + x4_6))) → (∃ n45 : Nat, wp_X9_all_L45 pF pT x2_5 x4_6 (fun (x5_20 : Int32) => ((x5_20 = 0 → wp_X9_all_b118 (wp_X9_all_L13 a1 pF pT x13 n13) x2_5 0 x4_6) ∧
   (¬ x5_20 = 0 → wp_X9_all_b118 (wp_X9_all_L13 a1 pF pT x13 n13) x2_5 (1 <<< (x4_6 &&& 31)) x4_6))) n45 x5_16 0)))
def wp_X9_all_L4 (a1 : Int32) (pF : Nat → Int32) (pT : Int32) (x4 : (Int32) → Prop) : Nat → (Int32) → (Int32) → Prop
  | 0, _, _ => False
  | n4 + 1, x2_1, x3_2 =>
  ((12 < x3_2 → x4 x2_1) ∧
   (¬ 12 < x3_2 → (∃ n13 : Nat, wp_X9_all_L13 a1 pF pT (fun (x2_7 : Int32) => ∀ x3_32 : Int32, x3_32 = x3_2 + 1 → (wp_X9_all_L4 a1 pF pT x4 n4) x2_7 x3_32) n13 x2_1 0)))
def wp_X9_all (pT : Int32) (pF : Nat → Int32) (a1 : Int32) (Qp : Int32 → Prop) : Prop :=
  (∃ n4 : Nat, wp_X9_all_L4 a1 pF pT (fun (x2_3 : Int32) => Qp x2_3) n4 0 0)
theorem inn_X9_all_8 : ∀ w ∈ u_ws RX8 TX8 5, w ∈ wsX9_all := fun _ h => List.mem_cons_of_mem _ (List.mem_append_right _ h)
theorem inn_X9_all_9 : ∀ w ∈ u_ws RX9 TX9 32, w ∈ wsX9_all := fun _ h => List.mem_cons_of_mem _ (List.mem_append_left _ (List.mem_append_right _ h))
def rm_X9_all : Room := { frames := 0, cells := 0, slots := 0, locals := 0 }
set_option maxHeartbeats 4000000 in
set_option maxRecDepth 100000 in
theorem ct_X9_all {l : Launch} {D : va_G} {cI cJ cZ cE cD cK : ClassId} {ad : Nat → Nat} {ud : Nat → Nat → Nat} {pT : Int32} {pK : Nat → Int32} {pN : Nat → Int32} {pF : Nat → Int32} {pS : Nat → Int32} {qT : Int32} {qK : Nat → Int32} {qN : Nat → Int32} {qF : Nat → Int32} {qS : Nat → Int32} {mKe : Int32} {mUn : Int32} {mFi : Int32} {mRi : Int32} {mBe : Int64} {mWc : Int32} {mAK : Int32} {mSh : Int32} {mIP : Int32} {mUS : Nat → Int32} {mWa : Nat → Int32} {mWi : Nat → Int32} {mSi : Nat → Int32} {mRo : Nat → Int64} {mSp : Nat → Int64} {mRw : Nat → Int32} {mSn : Nat → Int32} {mBg : Nat → Int32} {mLa : Nat → Int32} {mMo : Nat → Int32} {mRm : Nat → Int64} {mOw : Nat → Int64} {mGo : Nat → Int32} {mFr : Nat → Int32} {mQu : Nat → Int32} {mCh : Nat → Int64} {mPB : Nat → Int32} {mPS : Nat → Int32} {mFs : Nat → Int32} {ub : Nat → Nat} {uT : Nat → Int32} {uK : Nat → Nat → Int32} {uN : Nat → Nat → Int32} {uF : Nat → Nat → Int32} {uS : Nat → Nat → Int32}   {a1 : Int32} {Qp : Int32 → Prop}   (h : wp_X9_all pT pF a1 Qp) : CTi l yX9_all wsX9_all rm_X9_all D (tyL cI cJ cZ cE cD cK) [.ref (ad 0), .int a1] (WM cI cJ cZ cK ad ud pT pK pN pF pS qT qK qN qF qS mKe mUn mFi mRi mBe mWc mAK mSh mIP mUS mWa mWi mSi mRo mSp mRw mSn mBg mLa mMo mRm mOw mGo mFr mQu mCh mPB mPS mFs ub uT uK uN uF uS) (fun (r : Int32) (u : Unit) => Qp r ) (fun u : Unit => (WM cI cJ cZ cK ad ud pT pK pN pF pS qT qK qN qF qS mKe mUn mFi mRi mBe mWc mAK mSh mIP mUS mWa mWi mSi mRo mSp mRw mSn mBg mLa mMo mRm mOw mGo mFr mQu mCh mPB mPS mFs ub uT uK uN uF uS)) 0 0 := by
  refine ent_i (cc := cX9_all) (maxL := 7) (ret := (some .int)) (by decide) rfl (Nat.le_of_ble_eq_true rfl) ?_
  intro p e s m args below meth c A Q hQ hx hb hr hml hown hts hlk hA hAB hP hD hS ls hl
  have hown : s.vm.findClass RX9 = some m.cls := hown
  have hl : lv_has ls 7 [(0, .ref (ad 0)), (1, .int a1)] := hl
  generalize hH : s.heap = H at hP ⊢
  have hS : va_S A s.heap H [] := by rw [← hH]; exact hS
  clear hH
  generalize ([] : List Loc) = locs at hS ⊢
  refine lv_iconst (v := 0) hx hb dX9_all_0 (by decide) ?_
  refine lv_istore_n (lv' := [(2, .int 0), (0, .ref (ad 0)), (1, .int a1)]) hx hb dX9_all_1 rfl hl (by decide) rfl (fun ls hl => ?_)
  refine lv_iconst (v := 0) hx hb dX9_all_2 (by decide) ?_
  refine lv_istore_n (lv' := [(3, .int 0), (2, .int 0), (0, .ref (ad 0)), (1, .int a1)]) hx hb dX9_all_3 rfl hl (by decide) rfl (fun ls hl => ?_)
  have L4 : ∀ (x4 : (Int32) → Prop) (hk4 : ∀ (x2_3 : Int32), x4 x2_3 → ∀ (H : Heap) (locs : List Loc) (ls : Array Slot), va_P D vwCl (WM cI cJ cZ cK ad ud pT pK pN pF pS qT qK qN qF qS mKe mUn mFi mRi mBe mWc mAK mSh mIP mUS mWa mWi mSi mRo mSp mRw mSn mBg mLa mMo mRm mOw mGo mFr mQu mCh mPB mPS mFs ub uT uK uN uF uS) H → va_D A (WM cI cJ cZ cK ad ud pT pK pN pF pS qT qK qN qF qS mKe mUn mFi mRi mBe mWc mAK mSh mIP mUS mWa mWi mSi mRo mSp mRw mSn mBg mLa mMo mRm mOw mGo mFr mQu mCh mPB mPS mFs ub uT uK uN uF uS) → va_S A s.heap H locs → lv_has ls 7 [(2, .int x2_3)] → W p l e (headSpec wsX9_all rm_X9_all).room s m args below meth c H locs 0 0 Q (F0 m 132 ls [])) (n4 : Nat) (x2_1 : Int32) (x3_2 : Int32), wp_X9_all_L4 a1 pF pT x4 n4 x2_1 x3_2 → ∀ (H : Heap) (locs : List Loc) (ls : Array Slot), va_P D vwCl (WM cI cJ cZ cK ad ud pT pK pN pF pS qT qK qN qF qS mKe mUn mFi mRi mBe mWc mAK mSh mIP mUS mWa mWi mSi mRo mSp mRw mSn mBg mLa mMo mRm mOw mGo mFr mQu mCh mPB mPS mFs ub uT uK uN uF uS) H → va_D A (WM cI cJ cZ cK ad ud pT pK pN pF pS qT qK qN qF qS mKe mUn mFi mRi mBe mWc mAK mSh mIP mUS mWa mWi mSi mRo mSp mRw mSn mBg mLa mMo mRm mOw mGo mFr mQu mCh mPB mPS mFs ub uT uK uN uF uS) → va_S A s.heap H locs → lv_has ls 7 [(0, .ref (ad 0)), (1, .int a1), (2, .int x2_1), (3, .int x3_2)] → W p l e (headSpec wsX9_all rm_X9_all).room s m args below meth c H locs 0 0 Q (F0 m 4 ls []) := by
    intro x4 hk4 n4
    induction n4 with
    | zero => intro x2_1 x3_2 h; exact False.elim h
    | succ n4 ih4 =>
      intro x2_1 x3_2 h H locs ls hP hD hS hl
      refine lv_iload_n hx hb dX9_all_4 rfl (lv_at hl 3 rfl) ?_
      refine lv_bipush (v := 12) hx hb dX9_all_5 (by decide) ?_
      refine lv_icmp_gt (tgt := 132) hx hb dX9_all_7 (by decide) (fun c_4 => ?_) (fun c_4 => ?_)
      · have h := h.1 c_4
        exact hk4 x2_1 h H locs ls hP hD hS (lv_sub hl [2] rfl)
      · have h := h.2 c_4
        refine lv_iconst (v := 0) hx hb dX9_all_10 (by decide) ?_
        refine lv_istore (lv' := [(4, .int 0), (0, .ref (ad 0)), (1, .int a1), (2, .int x2_1), (3, .int x3_2)]) hx hb dX9_all_11 hl (by decide) rfl (fun ls hl => ?_)
        have L13 : ∀ (x13 : (Int32) → Prop) (hk13 : ∀ (x2_7 : Int32), x13 x2_7 → ∀ (H : Heap) (locs : List Loc) (ls : Array Slot), va_P D vwCl (WM cI cJ cZ cK ad ud pT pK pN pF pS qT qK qN qF qS mKe mUn mFi mRi mBe mWc mAK mSh mIP mUS mWa mWi mSi mRo mSp mRw mSn mBg mLa mMo mRm mOw mGo mFr mQu mCh mPB mPS mFs ub uT uK uN uF uS) H → va_D A (WM cI cJ cZ cK ad ud pT pK pN pF pS qT qK qN qF qS mKe mUn mFi mRi mBe mWc mAK mSh mIP mUS mWa mWi mSi mRo mSp mRw mSn mBg mLa mMo mRm mOw mGo mFr mQu mCh mPB mPS mFs ub uT uK uN uF uS) → va_S A s.heap H locs → lv_has ls 7 [(0, .ref (ad 0)), (1, .int a1), (2, .int x2_7), (3, .int x3_2)] → W p l e (headSpec wsX9_all rm_X9_all).room s m args below meth c H locs 0 0 Q (F0 m 126 ls [])) (n13 : Nat) (x2_5 : Int32) (x4_6 : Int32), wp_X9_all_L13 a1 pF pT x13 n13 x2_5 x4_6 → ∀ (H : Heap) (locs : List Loc) (ls : Array Slot), va_P D vwCl (WM cI cJ cZ cK ad ud pT pK pN pF pS qT qK qN qF qS mKe mUn mFi mRi mBe mWc mAK mSh mIP mUS mWa mWi mSi mRo mSp mRw mSn mBg mLa mMo mRm mOw mGo mFr mQu mCh mPB mPS mFs ub uT uK uN uF uS) H → va_D A (WM cI cJ cZ cK ad ud pT pK pN pF pS qT qK qN qF qS mKe mUn mFi mRi mBe mWc mAK mSh mIP mUS mWa mWi mSi mRo mSp mRw mSn mBg mLa mMo mRm mOw mGo mFr mQu mCh mPB mPS mFs ub uT uK uN uF uS) → va_S A s.heap H locs → lv_has ls 7 [(0, .ref (ad 0)), (1, .int a1), (2, .int x2_5), (3, .int x3_2), (4, .int x4_6)] → W p l e (headSpec wsX9_all rm_X9_all).room s m args below meth c H locs 0 0 Q (F0 m 13 ls []) := by
          intro x13 hk13 n13
          induction n13 with
          | zero => intro x2_5 x4_6 h; exact False.elim h
          | succ n13 ih13 =>
            intro x2_5 x4_6 h H locs ls hP hD hS hl
            have B118 : ∀ (y_9 : Int32) (y_10 : Int32) (x4_8 : Int32), wp_X9_all_b118 (wp_X9_all_L13 a1 pF pT x13 n13) y_9 y_10 x4_8 → ∀ (H : Heap) (locs : List Loc) (ls : Array Slot), va_P D vwCl (WM cI cJ cZ cK ad ud pT pK pN pF pS qT qK qN qF qS mKe mUn mFi mRi mBe mWc mAK mSh mIP mUS mWa mWi mSi mRo mSp mRw mSn mBg mLa mMo mRm mOw mGo mFr mQu mCh mPB mPS mFs ub uT uK uN uF uS) H → va_D A (WM cI cJ cZ cK ad ud pT pK pN pF pS qT qK qN qF qS mKe mUn mFi mRi mBe mWc mAK mSh mIP mUS mWa mWi mSi mRo mSp mRw mSn mBg mLa mMo mRm mOw mGo mFr mQu mCh mPB mPS mFs ub uT uK uN uF uS) → va_S A s.heap H locs → lv_has ls 7 [(0, .ref (ad 0)), (1, .int a1), (3, .int x3_2), (4, .int x4_8)] → W p l e (headSpec wsX9_all rm_X9_all).room s m args below meth c H locs 0 0 Q (F0 m 118 ls [.int y_10, .int y_9]) := by
              intro y_9 y_10 x4_8 h H locs ls hP hD hS hl
              refine lv_ior hx hb dX9_all_118 ?_
              refine lv_topi (fun x2_11 e_12 => ?_)
              have h := h x2_11 e_12
              refine lv_istore_n (lv' := [(2, .int x2_11), (0, .ref (ad 0)), (1, .int a1), (3, .int x3_2), (4, .int x4_8)]) hx hb dX9_all_119 rfl hl (by decide) rfl (fun ls hl => ?_)
              obtain ⟨x4_13, e_14⟩ : ∃ y : Int32, y = x4_8 + 1 := ⟨_, rfl⟩
              have h := h x4_13 e_14
              refine lv_iinc (v := x4_13) (lv' := [(4, .int x4_13), (2, .int x2_11), (0, .ref (ad 0)), (1, .int a1), (3, .int x3_2)]) hx hb dX9_all_120 hl (k := 4) rfl (by rw [e_14]; rfl) (by decide) rfl (fun ls hl => ?_)
              refine lv_goto (tgt := 13) hx hb dX9_all_123 (by decide) ?_
              exact ih13 x2_11 x4_13 h H locs ls hP hD hS (lv_sub hl [2, 3, 1, 4, 0] rfl)
            refine lv_iload hx hb dX9_all_13 (lv_at hl 4 rfl) ?_
            refine lv_aload_n hx hb dX9_all_15 rfl (lv_at hl 0 rfl) ?_
            refine va_get (D := D) (ci := 9) (C := RX9) (T := TX9) (N := 32) hx hb hts inn_X9_all_9 hown hAB.1 hP 0 rfl rfl 0 (by decide) (hts (.fieldLink RX9 10 "BarnBenchModel" "b" "LBarnBenchModel$Book;") (by decide +kernel)) (fun _ h9 => h9) rfl dX9_all_16 ?_
            refine va_get (D := D) (ci := 8) (C := RX8) (T := TX8) (N := 5) hx hb hts inn_X9_all_8 hown hAB.1 hP 1 rfl rfl 0 (by decide) (hts (.fieldLink RX9 94 "BarnBenchModel$Book" "tasks" "I") (by decide +kernel)) (fun _ h9 => h9) rfl dX9_all_19 ?_
            refine lv_icmp_ge (tgt := 126) hx hb dX9_all_22 (by decide) (fun c_15 => ?_) (fun c_15 => ?_)
            · have h := h.1 c_15
              exact hk13 x2_5 h H locs ls hP hD hS (lv_sub hl [0, 1, 2, 3] rfl)
            · have h := h.2 c_15
              refine lv_aload_n hx hb dX9_all_25 rfl (lv_at hl 0 rfl) ?_
              refine va_get (D := D) (ci := 9) (C := RX9) (T := TX9) (N := 32) hx hb hts inn_X9_all_9 hown hAB.1 hP 0 rfl rfl 0 (by decide) (hts (.fieldLink RX9 10 "BarnBenchModel" "b" "LBarnBenchModel$Book;") (by decide +kernel)) (fun _ h9 => h9) rfl dX9_all_26 ?_
              refine va_get (D := D) (ci := 8) (C := RX8) (T := TX8) (N := 5) hx hb hts inn_X9_all_8 hown hAB.1 hP 1 rfl rfl 3 (by decide) (hts (.fieldLink RX9 147 "BarnBenchModel$Book" "follows" "[Z") (by decide +kernel)) (fun _ h9 => h9) rfl dX9_all_29 ?_
              refine lv_bipush (v := 12) hx hb dX9_all_32 (by decide) ?_
              refine lv_iload_n hx hb dX9_all_34 rfl (lv_at hl 1 rfl) ?_
              refine lv_imul hx hb dX9_all_35 ?_
              refine lv_iload hx hb dX9_all_36 (lv_at hl 4 rfl) ?_
              refine lv_iadd hx hb dX9_all_38 ?_
              refine va_zald hx hb hAB.1 hP 4 2 rfl rfl h.1 dX9_all_39 ?_
              have h := h.2
              refine lv_topi (fun x5_16 e_17 => ?_)
              have h := h x5_16 e_17
              refine lv_istore (lv' := [(5, .int x5_16), (0, .ref (ad 0)), (1, .int a1), (2, .int x2_5), (3, .int x3_2), (4, .int x4_6)]) hx hb dX9_all_40 hl (by decide) rfl (fun ls hl => ?_)
              refine lv_iconst (v := 0) hx hb dX9_all_42 (by decide) ?_
              refine lv_istore (lv' := [(6, .int 0), (5, .int x5_16), (0, .ref (ad 0)), (1, .int a1), (2, .int x2_5), (3, .int x3_2), (4, .int x4_6)]) hx hb dX9_all_43 hl (by decide) rfl (fun ls hl => ?_)
              have L45 : ∀ (x45 : (Int32) → Prop) (hk45 : ∀ (x5_20 : Int32), x45 x5_20 → ∀ (H : Heap) (locs : List Loc) (ls : Array Slot), va_P D vwCl (WM cI cJ cZ cK ad ud pT pK pN pF pS qT qK qN qF qS mKe mUn mFi mRi mBe mWc mAK mSh mIP mUS mWa mWi mSi mRo mSp mRw mSn mBg mLa mMo mRm mOw mGo mFr mQu mCh mPB mPS mFs ub uT uK uN uF uS) H → va_D A (WM cI cJ cZ cK ad ud pT pK pN pF pS qT qK qN qF qS mKe mUn mFi mRi mBe mWc mAK mSh mIP mUS mWa mWi mSi mRo mSp mRw mSn mBg mLa mMo mRm mOw mGo mFr mQu mCh mPB mPS mFs ub uT uK uN uF uS) → va_S A s.heap H locs → lv_has ls 7 [(0, .ref (ad 0)), (1, .int a1), (2, .int x2_5), (3, .int x3_2), (4, .int x4_6), (5, .int x5_20)] → W p l e (headSpec wsX9_all rm_X9_all).room s m args below meth c H locs 0 0 Q (F0 m 104 ls [])) (n45 : Nat) (x5_18 : Int32) (x6_19 : Int32), wp_X9_all_L45 pF pT x2_5 x4_6 x45 n45 x5_18 x6_19 → ∀ (H : Heap) (locs : List Loc) (ls : Array Slot), va_P D vwCl (WM cI cJ cZ cK ad ud pT pK pN pF pS qT qK qN qF qS mKe mUn mFi mRi mBe mWc mAK mSh mIP mUS mWa mWi mSi mRo mSp mRw mSn mBg mLa mMo mRm mOw mGo mFr mQu mCh mPB mPS mFs ub uT uK uN uF uS) H → va_D A (WM cI cJ cZ cK ad ud pT pK pN pF pS qT qK qN qF qS mKe mUn mFi mRi mBe mWc mAK mSh mIP mUS mWa mWi mSi mRo mSp mRw mSn mBg mLa mMo mRm mOw mGo mFr mQu mCh mPB mPS mFs ub uT uK uN uF uS) → va_S A s.heap H locs → lv_has ls 7 [(0, .ref (ad 0)), (1, .int a1), (2, .int x2_5), (3, .int x3_2), (4, .int x4_6), (5, .int x5_18), (6, .int x6_19)] → W p l e (headSpec wsX9_all rm_X9_all).room s m args below meth c H locs 0 0 Q (F0 m 45 ls []) := by
                intro x45 hk45 n45
                induction n45 with
                | zero => intro x5_18 x6_19 h; exact False.elim h
                | succ n45 ih45 =>
                  intro x5_18 x6_19 h H locs ls hP hD hS hl
                  have B96 : ∀ (y_22 : Int32) (x6_21 : Int32), wp_X9_all_b96 (wp_X9_all_L45 pF pT x2_5 x4_6 x45 n45) y_22 x6_21 → ∀ (H : Heap) (locs : List Loc) (ls : Array Slot), va_P D vwCl (WM cI cJ cZ cK ad ud pT pK pN pF pS qT qK qN qF qS mKe mUn mFi mRi mBe mWc mAK mSh mIP mUS mWa mWi mSi mRo mSp mRw mSn mBg mLa mMo mRm mOw mGo mFr mQu mCh mPB mPS mFs ub uT uK uN uF uS) H → va_D A (WM cI cJ cZ cK ad ud pT pK pN pF pS qT qK qN qF qS mKe mUn mFi mRi mBe mWc mAK mSh mIP mUS mWa mWi mSi mRo mSp mRw mSn mBg mLa mMo mRm mOw mGo mFr mQu mCh mPB mPS mFs ub uT uK uN uF uS) → va_S A s.heap H locs → lv_has ls 7 [(0, .ref (ad 0)), (1, .int a1), (2, .int x2_5), (3, .int x3_2), (4, .int x4_6), (6, .int x6_21)] → W p l e (headSpec wsX9_all rm_X9_all).room s m args below meth c H locs 0 0 Q (F0 m 96 ls [.int y_22]) := by
                    intro y_22 x6_21 h H locs ls hP hD hS hl
                    refine lv_istore (lv' := [(5, .int y_22), (0, .ref (ad 0)), (1, .int a1), (2, .int x2_5), (3, .int x3_2), (4, .int x4_6), (6, .int x6_21)]) hx hb dX9_all_96 hl (by decide) rfl (fun ls hl => ?_)
                    obtain ⟨x6_23, e_24⟩ : ∃ y : Int32, y = x6_21 + 1 := ⟨_, rfl⟩
                    have h := h x6_23 e_24
                    refine lv_iinc (v := x6_23) (lv' := [(6, .int x6_23), (5, .int y_22), (0, .ref (ad 0)), (1, .int a1), (2, .int x2_5), (3, .int x3_2), (4, .int x4_6)]) hx hb dX9_all_98 hl (k := 6) rfl (by rw [e_24]; rfl) (by decide) rfl (fun ls hl => ?_)
                    refine lv_goto (tgt := 45) hx hb dX9_all_101 (by decide) ?_
                    exact ih45 y_22 x6_23 h H locs ls hP hD hS (lv_sub hl [2, 3, 4, 5, 6, 1, 0] rfl)
                  have B95 : ∀ (x6_25 : Int32), wp_X9_all_b95 (wp_X9_all_L45 pF pT x2_5 x4_6 x45 n45) x6_25 → ∀ (H : Heap) (locs : List Loc) (ls : Array Slot), va_P D vwCl (WM cI cJ cZ cK ad ud pT pK pN pF pS qT qK qN qF qS mKe mUn mFi mRi mBe mWc mAK mSh mIP mUS mWa mWi mSi mRo mSp mRw mSn mBg mLa mMo mRm mOw mGo mFr mQu mCh mPB mPS mFs ub uT uK uN uF uS) H → va_D A (WM cI cJ cZ cK ad ud pT pK pN pF pS qT qK qN qF qS mKe mUn mFi mRi mBe mWc mAK mSh mIP mUS mWa mWi mSi mRo mSp mRw mSn mBg mLa mMo mRm mOw mGo mFr mQu mCh mPB mPS mFs ub uT uK uN uF uS) → va_S A s.heap H locs → lv_has ls 7 [(0, .ref (ad 0)), (1, .int a1), (2, .int x2_5), (3, .int x3_2), (4, .int x4_6), (6, .int x6_25)] → W p l e (headSpec wsX9_all rm_X9_all).room s m args below meth c H locs 0 0 Q (F0 m 95 ls []) := by
                    intro x6_25 h H locs ls hP hD hS hl
                    refine lv_iconst (v := 0) hx hb dX9_all_95 (by decide) ?_
                    exact B96 0 x6_25 h H locs ls hP hD hS (lv_sub hl [0, 1, 2, 3, 4, 5] rfl)
                  have B91 : ∀ (x6_26 : Int32), wp_X9_all_b91 (wp_X9_all_L45 pF pT x2_5 x4_6 x45 n45) x6_26 → ∀ (H : Heap) (locs : List Loc) (ls : Array Slot), va_P D vwCl (WM cI cJ cZ cK ad ud pT pK pN pF pS qT qK qN qF qS mKe mUn mFi mRi mBe mWc mAK mSh mIP mUS mWa mWi mSi mRo mSp mRw mSn mBg mLa mMo mRm mOw mGo mFr mQu mCh mPB mPS mFs ub uT uK uN uF uS) H → va_D A (WM cI cJ cZ cK ad ud pT pK pN pF pS qT qK qN qF qS mKe mUn mFi mRi mBe mWc mAK mSh mIP mUS mWa mWi mSi mRo mSp mRw mSn mBg mLa mMo mRm mOw mGo mFr mQu mCh mPB mPS mFs ub uT uK uN uF uS) → va_S A s.heap H locs → lv_has ls 7 [(0, .ref (ad 0)), (1, .int a1), (2, .int x2_5), (3, .int x3_2), (4, .int x4_6), (6, .int x6_26)] → W p l e (headSpec wsX9_all rm_X9_all).room s m args below meth c H locs 0 0 Q (F0 m 91 ls []) := by
                    intro x6_26 h H locs ls hP hD hS hl
                    refine lv_iconst (v := 1) hx hb dX9_all_91 (by decide) ?_
                    refine lv_goto (tgt := 96) hx hb dX9_all_92 (by decide) ?_
                    exact B96 1 x6_26 h H locs ls hP hD hS (lv_sub hl [0, 1, 2, 3, 4, 5] rfl)
                  refine lv_iload hx hb dX9_all_45 (lv_at hl 6 rfl) ?_
                  refine lv_aload_n hx hb dX9_all_47 rfl (lv_at hl 0 rfl) ?_
                  refine va_get (D := D) (ci := 9) (C := RX9) (T := TX9) (N := 32) hx hb hts inn_X9_all_9 hown hAB.1 hP 0 rfl rfl 0 (by decide) (hts (.fieldLink RX9 10 "BarnBenchModel" "b" "LBarnBenchModel$Book;") (by decide +kernel)) (fun _ h9 => h9) rfl dX9_all_48 ?_
                  refine va_get (D := D) (ci := 8) (C := RX8) (T := TX8) (N := 5) hx hb hts inn_X9_all_8 hown hAB.1 hP 1 rfl rfl 0 (by decide) (hts (.fieldLink RX9 94 "BarnBenchModel$Book" "tasks" "I") (by decide +kernel)) (fun _ h9 => h9) rfl dX9_all_51 ?_
                  refine lv_icmp_ge (tgt := 104) hx hb dX9_all_54 (by decide) (fun c_27 => ?_) (fun c_27 => ?_)
                  · have h := h.1 c_27
                    exact hk45 x5_18 h H locs ls hP hD hS (lv_sub hl [0, 1, 2, 3, 4, 5] rfl)
                  · have h := h.2 c_27
                    refine lv_iload hx hb dX9_all_57 (lv_at hl 5 rfl) ?_
                    refine lv_if_ne (tgt := 91) hx hb dX9_all_59 (by decide) (fun c_28 => ?_) (fun c_28 => ?_)
                    · have h := h.1 c_28
                      exact B91 x6_19 h H locs ls hP hD hS (lv_sub hl [0, 1, 2, 3, 4, 6] rfl)
                    · have h := h.2 c_28
                      refine lv_iload_n hx hb dX9_all_62 rfl (lv_at hl 2 rfl) ?_
                      refine lv_iload hx hb dX9_all_63 (lv_at hl 6 rfl) ?_
                      refine lv_ishr hx hb dX9_all_65 ?_
                      refine lv_iconst (v := 1) hx hb dX9_all_66 (by decide) ?_
                      refine lv_iand hx hb dX9_all_67 ?_
                      refine lv_iconst (v := 1) hx hb dX9_all_68 (by decide) ?_
                      refine lv_icmp_ne (tgt := 95) hx hb dX9_all_69 (by decide) (fun c_29 => ?_) (fun c_29 => ?_)
                      · have h := h.1 c_29
                        exact B95 x6_19 h H locs ls hP hD hS (lv_sub hl [0, 1, 2, 3, 4, 6] rfl)
                      · have h := h.2 c_29
                        refine lv_aload_n hx hb dX9_all_72 rfl (lv_at hl 0 rfl) ?_
                        refine va_get (D := D) (ci := 9) (C := RX9) (T := TX9) (N := 32) hx hb hts inn_X9_all_9 hown hAB.1 hP 0 rfl rfl 0 (by decide) (hts (.fieldLink RX9 10 "BarnBenchModel" "b" "LBarnBenchModel$Book;") (by decide +kernel)) (fun _ h9 => h9) rfl dX9_all_73 ?_
                        refine va_get (D := D) (ci := 8) (C := RX8) (T := TX8) (N := 5) hx hb hts inn_X9_all_8 hown hAB.1 hP 1 rfl rfl 3 (by decide) (hts (.fieldLink RX9 147 "BarnBenchModel$Book" "follows" "[Z") (by decide +kernel)) (fun _ h9 => h9) rfl dX9_all_76 ?_
                        refine lv_bipush (v := 12) hx hb dX9_all_79 (by decide) ?_
                        refine lv_iload hx hb dX9_all_81 (lv_at hl 6 rfl) ?_
                        refine lv_imul hx hb dX9_all_83 ?_
                        refine lv_iload hx hb dX9_all_84 (lv_at hl 4 rfl) ?_
                        refine lv_iadd hx hb dX9_all_86 ?_
                        refine va_zald hx hb hAB.1 hP 4 2 rfl rfl h.1 dX9_all_87 ?_
                        have h := h.2
                        refine lv_if_eq (tgt := 95) hx hb dX9_all_88 (by decide) (fun c_30 => ?_) (fun c_30 => ?_)
                        · have h := h.1 c_30
                          exact B95 x6_19 h H locs ls hP hD hS (lv_sub hl [0, 1, 2, 3, 4, 6] rfl)
                        · have h := h.2 c_30
                          exact B91 x6_19 h H locs ls hP hD hS (lv_sub hl [0, 1, 2, 3, 4, 6] rfl)
              obtain ⟨n45, h⟩ := h
              refine L45 _ (fun x5_20 h H locs ls hP hD hS hl => ?_) n45 x5_16 0 h H locs ls hP hD hS (lv_sub hl [2, 3, 4, 5, 6, 1, 0] rfl)
              refine lv_iload_n hx hb dX9_all_104 rfl (lv_at hl 2 rfl) ?_
              refine lv_iload hx hb dX9_all_105 (lv_at hl 5 rfl) ?_
              refine lv_if_eq (tgt := 117) hx hb dX9_all_107 (by decide) (fun c_31 => ?_) (fun c_31 => ?_)
              · have h := h.1 c_31
                refine lv_iconst (v := 0) hx hb dX9_all_117 (by decide) ?_
                exact B118 x2_5 0 x4_6 h H locs ls hP hD hS (lv_sub hl [0, 1, 3, 4] rfl)
              · have h := h.2 c_31
                refine lv_iconst (v := 1) hx hb dX9_all_110 (by decide) ?_
                refine lv_iload hx hb dX9_all_111 (lv_at hl 4 rfl) ?_
                refine lv_ishl hx hb dX9_all_113 ?_
                refine lv_goto (tgt := 118) hx hb dX9_all_114 (by decide) ?_
                exact B118 x2_5 (1 <<< (x4_6 &&& 31)) x4_6 h H locs ls hP hD hS (lv_sub hl [0, 1, 3, 4] rfl)
        obtain ⟨n13, h⟩ := h
        refine L13 _ (fun x2_7 h H locs ls hP hD hS hl => ?_) n13 x2_1 0 h H locs ls hP hD hS (lv_sub hl [1, 2, 3, 4, 0] rfl)
        obtain ⟨x3_32, e_33⟩ : ∃ y : Int32, y = x3_2 + 1 := ⟨_, rfl⟩
        have h := h x3_32 e_33
        refine lv_iinc (v := x3_32) (lv' := [(3, .int x3_32), (0, .ref (ad 0)), (1, .int a1), (2, .int x2_7)]) hx hb dX9_all_126 hl (k := 3) rfl (by rw [e_33]; rfl) (by decide) rfl (fun ls hl => ?_)
        refine lv_goto (tgt := 4) hx hb dX9_all_129 (by decide) ?_
        exact ih4 x2_7 x3_32 h H locs ls hP hD hS (lv_sub hl [1, 2, 3, 0] rfl)
  obtain ⟨n4, h⟩ := h
  refine L4 _ (fun x2_3 h H locs ls hP hD hS hl => ?_) n4 0 0 h H locs ls hP hD hS (lv_sub hl [2, 3, 1, 0] rfl)
  refine lv_iload_n hx hb dX9_all_132 rfl (lv_at hl 0 rfl) ?_
  exact rt_i () hQ hx hb hr hlk hP hD hS ⟨Nat.zero_le _, Nat.zero_le _⟩ dX9_all_133 h
def wp_X9_after_b16 (Qp : Int32 → (Nat → Int32) → (Int32) → (Int32) → (Int32) → (Int32) → (Int32) → (Nat → Int32) → (Nat → Nat) → (Nat → Int32) → (Nat → Nat → Int32) → (Nat → Nat → Int32) → (Nat → Nat → Int32) → (Nat → Nat → Int32) → Prop) (pF_1 : Nat → Int32) (mUn_2 : Int32) (mFi_3 : Int32) (mRi_4 : Int32) (mAK_5 : Int32) (mIP_6 : Int32) (mUS_7 : Nat → Int32) (ub_8 : Nat → Nat) (uT_9 : Nat → Int32) (uK_10 : Nat → Nat → Int32) (uN_11 : Nat → Nat → Int32) (uF_12 : Nat → Nat → Int32) (uS_13 : Nat → Nat → Int32) : Prop :=
  wp_X9_found mFi_3 (-1) (fun (r_14 : Int32) (mFi_15 : Int32) => Qp r_14 pF_1 mUn_2 mFi_15 mRi_4 mAK_5 mIP_6 mUS_7 ub_8 uT_9 uK_10 uN_11 uF_12 uS_13)
def wp_X9_after_b95 (k58 : (Int32) → (Int32) → Prop) (y_28 : Int32) (y_29 : Int32) (x5_27 : Int32) : Prop :=
  ∀ x4_30 : Int32, x4_30 = (y_28 ||| y_29) → ∀ x5_32 : Int32, x5_32 = x5_27 + 1 → k58 x4_30 x5_32
def wp_X9_after_L58 (pT : Int32) (pF_22 : Nat → Int32) (x58 : (Int32) → Prop) : Nat → (Int32) → (Int32) → Prop
  | 0, _, _ => False
  | n58 + 1, x4_24, x5_25 =>
  ((pT ≤ x5_25 → x58 x4_24) ∧
   (¬ pT ≤ x5_25 → wp_X9_all pT pF_22 x5_25 (fun (r_35 : Int32) => ((¬ ((r_35 >>> (x5_25 &&& 31)) &&& 1) = 1 → wp_X9_after_b95 (wp_X9_after_L58 pT pF_22 x58 n58) x4_24 0 x5_25) ∧
   (((r_35 >>> (x5_25 &&& 31)) &&& 1) = 1 → wp_X9_after_b95 (wp_X9_after_L58 pT pF_22 x58 n58) x4_24 (1 <<< (x5_25 &&& 31)) x5_25)))))
def wp_X9_after (pT : Int32) (pK : Nat → Int32) (pN : Nat → Int32) (pF : Nat → Int32) (pS : Nat → Int32) (mUn : Int32) (mFi : Int32) (mRi : Int32) (mAK : Int32) (mIP : Int32) (mUS : Nat → Int32) (ub : Nat → Nat) (uT : Nat → Int32) (uK : Nat → Nat → Int32) (uN : Nat → Nat → Int32) (uF : Nat → Nat → Int32) (uS : Nat → Nat → Int32) (a1 : Int32) (a2 : Int32) (Qp : Int32 → (Nat → Int32) → (Int32) → (Int32) → (Int32) → (Int32) → (Int32) → (Nat → Int32) → (Nat → Nat) → (Nat → Int32) → (Nat → Nat → Int32) → (Nat → Nat → Int32) → (Nat → Nat → Int32) → (Nat → Nat → Int32) → Prop) : Prop :=
  wp_X9_isTask pT a1 (fun (r_16 : Int32) => ((r_16 = 0 → wp_X9_after_b16 Qp pF mUn mFi mRi mAK mIP mUS ub uT uK uN uF uS) ∧
   (¬ r_16 = 0 → wp_X9_isTask pT a2 (fun (r_18 : Int32) => ((¬ r_18 = 0 → vp_in ((12 * a1) + a2) 144 ∧ ∀ x3_20 : Int32, x3_20 = (pF (Int32.toNatClampNeg ((12 * a1) + a2))) → vp_in ((12 * a1) + a2) 144 ∧ ∀ pF_22 : Nat → Int32, pF_22 = upd pF (Int32.toNatClampNeg ((12 * a1) + a2)) (vp_nar .boolean 1) → (∃ n58 : Nat, wp_X9_after_L58 pT pF_22 (fun (x4_26 : Int32) => vp_in ((12 * a1) + a2) 144 ∧ ∀ pF_37 : Nat → Int32, pF_37 = upd pF_22 (Int32.toNatClampNeg ((12 * a1) + a2)) (vp_nar .boolean x3_20) → ((x4_26 = 0 → wp_X9_remember pT pK pN pF_37 pS mUn mAK mIP mUS ub uT uK uN uF uS 0 (fun (mUn_40 : Int32) (mAK_41 : Int32) (mIP_42 : Int32) (mUS_43 : Nat → Int32) (ub_44 : Nat → Nat) (uT_45 : Nat → Int32) (uK_46 : Nat → Nat → Int32) (uN_47 : Nat → Nat → Int32) (uF_48 : Nat → Nat → Int32) (uS_49 : Nat → Nat → Int32) => vp_in ((12 * a1) + a2) 144 ∧ ∀ pF_50 : Nat → Int32, pF_50 = upd pF_37 (Int32.toNatClampNeg ((12 * a1) + a2)) (vp_nar .boolean 1) → wp_X9_followed pT pF_50 a1 (fun (r_52 : Int32) => Qp r_52 pF_50 mUn_40 mFi mRi mAK_41 mIP_42 mUS_43 ub_44 uT_45 uK_46 uN_47 uF_48 uS_49))) ∧
   (¬ x4_26 = 0 → ∀ mRi_53 : Int32, mRi_53 = x4_26 → wp_X9_found mFi (-6) (fun (r_55 : Int32) (mFi_56 : Int32) => Qp r_55 pF_37 mUn mFi_56 mRi_53 mAK mIP mUS ub uT uK uN uF uS)))) n58 0 0)) ∧
   (r_18 = 0 → wp_X9_after_b16 Qp pF mUn mFi mRi mAK mIP mUS ub uT uK uN uF uS))))))
theorem inn_X9_after_8 : ∀ w ∈ u_ws RX8 TX8 5, w ∈ wsX9_after := fun _ h => List.mem_cons_of_mem _ (List.mem_append_right _ h)
theorem inn_X9_after_9 : ∀ w ∈ u_ws RX9 TX9 32, w ∈ wsX9_after := fun _ h => List.mem_cons_of_mem _ (List.mem_append_left _ (List.mem_append_right _ h))
def rm_X9_after : Room := { frames := 2, cells := 0, slots := 0, locals := 46 }
set_option maxHeartbeats 4000000 in
set_option maxRecDepth 100000 in
theorem ct_X9_after {l : Launch} {D : va_G} {cI cJ cZ cE cD cK : ClassId} {ad : Nat → Nat} {ud : Nat → Nat → Nat} {pT : Int32} {pK : Nat → Int32} {pN : Nat → Int32} {pF : Nat → Int32} {pS : Nat → Int32} {qT : Int32} {qK : Nat → Int32} {qN : Nat → Int32} {qF : Nat → Int32} {qS : Nat → Int32} {mKe : Int32} {mUn : Int32} {mFi : Int32} {mRi : Int32} {mBe : Int64} {mWc : Int32} {mAK : Int32} {mSh : Int32} {mIP : Int32} {mUS : Nat → Int32} {mWa : Nat → Int32} {mWi : Nat → Int32} {mSi : Nat → Int32} {mRo : Nat → Int64} {mSp : Nat → Int64} {mRw : Nat → Int32} {mSn : Nat → Int32} {mBg : Nat → Int32} {mLa : Nat → Int32} {mMo : Nat → Int32} {mRm : Nat → Int64} {mOw : Nat → Int64} {mGo : Nat → Int32} {mFr : Nat → Int32} {mQu : Nat → Int32} {mCh : Nat → Int64} {mPB : Nat → Int32} {mPS : Nat → Int32} {mFs : Nat → Int32} {ub : Nat → Nat} {uT : Nat → Int32} {uK : Nat → Nat → Int32} {uN : Nat → Nat → Int32} {uF : Nat → Nat → Int32} {uS : Nat → Nat → Int32}   {a1 : Int32} {a2 : Int32} {Qp : Int32 → (Nat → Int32) → (Int32) → (Int32) → (Int32) → (Int32) → (Int32) → (Nat → Int32) → (Nat → Nat) → (Nat → Int32) → (Nat → Nat → Int32) → (Nat → Nat → Int32) → (Nat → Nat → Int32) → (Nat → Nat → Int32) → Prop}   (h : wp_X9_after pT pK pN pF pS mUn mFi mRi mAK mIP mUS ub uT uK uN uF uS a1 a2 Qp) : CTi l yX9_after wsX9_after rm_X9_after D (tyL cI cJ cZ cE cD cK) [.ref (ad 0), .int a1, .int a2] (WM cI cJ cZ cK ad ud pT pK pN pF pS qT qK qN qF qS mKe mUn mFi mRi mBe mWc mAK mSh mIP mUS mWa mWi mSi mRo mSp mRw mSn mBg mLa mMo mRm mOw mGo mFr mQu mCh mPB mPS mFs ub uT uK uN uF uS) (fun (r : Int32) (u : (Nat → Int32) × (Int32) × (Int32) × (Int32) × (Int32) × (Int32) × (Nat → Int32) × (Nat → Nat) × (Nat → Int32) × (Nat → Nat → Int32) × (Nat → Nat → Int32) × (Nat → Nat → Int32) × (Nat → Nat → Int32)) => Qp r u.1 u.2.1 u.2.2.1 u.2.2.2.1 u.2.2.2.2.1 u.2.2.2.2.2.1 u.2.2.2.2.2.2.1 u.2.2.2.2.2.2.2.1 u.2.2.2.2.2.2.2.2.1 u.2.2.2.2.2.2.2.2.2.1 u.2.2.2.2.2.2.2.2.2.2.1 u.2.2.2.2.2.2.2.2.2.2.2.1 u.2.2.2.2.2.2.2.2.2.2.2.2) (fun u : (Nat → Int32) × (Int32) × (Int32) × (Int32) × (Int32) × (Int32) × (Nat → Int32) × (Nat → Nat) × (Nat → Int32) × (Nat → Nat → Int32) × (Nat → Nat → Int32) × (Nat → Nat → Int32) × (Nat → Nat → Int32) => (WM cI cJ cZ cK ad ud pT pK pN u.1 pS qT qK qN qF qS mKe u.2.1 u.2.2.1 u.2.2.2.1 mBe mWc u.2.2.2.2.1 mSh u.2.2.2.2.2.1 u.2.2.2.2.2.2.1 mWa mWi mSi mRo mSp mRw mSn mBg mLa mMo mRm mOw mGo mFr mQu mCh mPB mPS mFs u.2.2.2.2.2.2.2.1 u.2.2.2.2.2.2.2.2.1 u.2.2.2.2.2.2.2.2.2.1 u.2.2.2.2.2.2.2.2.2.2.1 u.2.2.2.2.2.2.2.2.2.2.2.1 u.2.2.2.2.2.2.2.2.2.2.2.2)) 0 0 := by
  refine ent_i (cc := cX9_after) (maxL := 6) (ret := (some .int)) (by decide) rfl (Nat.le_of_ble_eq_true rfl) ?_
  intro p e s m args below meth c A Q hQ hx hb hr hml hown hts hlk hA hAB hP hD hS ls hl
  have hown : s.vm.findClass RX9 = some m.cls := hown
  have hl : lv_has ls 6 [(0, .ref (ad 0)), (1, .int a1), (2, .int a2)] := hl
  generalize hH : s.heap = H at hP ⊢
  have hS : va_S A s.heap H [] := by rw [← hH]; exact hS
  clear hH
  generalize ([] : List Loc) = locs at hS ⊢
  have B16 : ∀ (pF_1 : Nat → Int32) (mUn_2 : Int32) (mFi_3 : Int32) (mRi_4 : Int32) (mAK_5 : Int32) (mIP_6 : Int32) (mUS_7 : Nat → Int32) (ub_8 : Nat → Nat) (uT_9 : Nat → Int32) (uK_10 : Nat → Nat → Int32) (uN_11 : Nat → Nat → Int32) (uF_12 : Nat → Nat → Int32) (uS_13 : Nat → Nat → Int32), wp_X9_after_b16 Qp pF_1 mUn_2 mFi_3 mRi_4 mAK_5 mIP_6 mUS_7 ub_8 uT_9 uK_10 uN_11 uF_12 uS_13 → ∀ (H : Heap) (locs : List Loc) (ls : Array Slot), va_P D vwCl (WM cI cJ cZ cK ad ud pT pK pN pF_1 pS qT qK qN qF qS mKe mUn_2 mFi_3 mRi_4 mBe mWc mAK_5 mSh mIP_6 mUS_7 mWa mWi mSi mRo mSp mRw mSn mBg mLa mMo mRm mOw mGo mFr mQu mCh mPB mPS mFs ub_8 uT_9 uK_10 uN_11 uF_12 uS_13) H → va_D A (WM cI cJ cZ cK ad ud pT pK pN pF_1 pS qT qK qN qF qS mKe mUn_2 mFi_3 mRi_4 mBe mWc mAK_5 mSh mIP_6 mUS_7 mWa mWi mSi mRo mSp mRw mSn mBg mLa mMo mRm mOw mGo mFr mQu mCh mPB mPS mFs ub_8 uT_9 uK_10 uN_11 uF_12 uS_13) → va_S A s.heap H locs → lv_has ls 6 [(0, .ref (ad 0))] → W p l e (headSpec wsX9_after rm_X9_after).room s m args below meth c H locs 0 0 Q (F0 m 16 ls []) := by
    intro pF_1 mUn_2 mFi_3 mRi_4 mAK_5 mIP_6 mUS_7 ub_8 uT_9 uK_10 uN_11 uF_12 uS_13 h H locs ls hP hD hS hl
    refine lv_aload_n hx hb dX9_after_16 rfl (lv_at hl 0 rfl) ?_
    refine lv_iconst (v := (-1)) hx hb dX9_after_17 (by decide) ?_
    refine cl_i hD hS hA (va_runV (As := [.int (-1)]) (rest := []) ⟨hx, hb, hml, hown, hts⟩ (ct_X9_found h H.size) (cwV 1 hts gX9_after_X9_found rfl rfl rfl (by decide +kernel) ⟨Nat.le_of_ble_eq_true rfl, Nat.le_of_ble_eq_true rfl⟩) ⟨CPre.blind, va_recv hAB.1 hP (ci := 9) (q0 := 0) rfl rfl, wd_pre hAB hP hD hS hA⟩ rfl rfl hl.1 rfl (lv_room (Nat.le_of_ble_eq_true rfl)) dX9_after_18 ⟨Nat.zero_le _, Nat.zero_le _⟩) (fun r_14 mFi_15 H locs h hP hD hS => ?_)
    have hP : va_P D vwCl (WM cI cJ cZ cK ad ud pT pK pN pF_1 pS qT qK qN qF qS mKe mUn_2 mFi_15 mRi_4 mBe mWc mAK_5 mSh mIP_6 mUS_7 mWa mWi mSi mRo mSp mRw mSn mBg mLa mMo mRm mOw mGo mFr mQu mCh mPB mPS mFs ub_8 uT_9 uK_10 uN_11 uF_12 uS_13) H := hP
    have hD : va_D A (WM cI cJ cZ cK ad ud pT pK pN pF_1 pS qT qK qN qF qS mKe mUn_2 mFi_15 mRi_4 mBe mWc mAK_5 mSh mIP_6 mUS_7 mWa mWi mSi mRo mSp mRw mSn mBg mLa mMo mRm mOw mGo mFr mQu mCh mPB mPS mFs ub_8 uT_9 uK_10 uN_11 uF_12 uS_13) := hD
    exact rt_i (pF_1, mUn_2, mFi_15, mRi_4, mAK_5, mIP_6, mUS_7, ub_8, uT_9, uK_10, uN_11, uF_12, uS_13) hQ hx hb hr hlk hP hD hS ⟨Nat.zero_le _, Nat.zero_le _⟩ dX9_after_21 h
  refine lv_aload_n hx hb dX9_after_0 rfl (lv_at hl 0 rfl) ?_
  refine lv_iload_n hx hb dX9_after_1 rfl (lv_at hl 1 rfl) ?_
  refine cl_i hD hS hA (va_runV (As := [.int a1]) (rest := []) ⟨hx, hb, hml, hown, hts⟩ (ct_X9_isTask h H.size) (cwV 1 hts gX9_after_X9_isTask rfl rfl rfl (by decide +kernel) ⟨Nat.le_of_ble_eq_true rfl, Nat.le_of_ble_eq_true rfl⟩) ⟨CPre.blind, va_recv hAB.1 hP (ci := 9) (q0 := 0) rfl rfl, wd_pre hAB hP hD hS hA⟩ rfl rfl hl.1 rfl (lv_room (Nat.le_of_ble_eq_true rfl)) dX9_after_2 ⟨Nat.zero_le _, Nat.zero_le _⟩) (fun r_16 u H locs h hP hD hS => ?_)
  refine lv_if_eq (tgt := 16) hx hb dX9_after_5 (by decide) (fun c_17 => ?_) (fun c_17 => ?_)
  · have h := h.1 c_17
    exact B16 pF mUn mFi mRi mAK mIP mUS ub uT uK uN uF uS h H locs ls hP hD hS (lv_sub hl [0] rfl)
  · have h := h.2 c_17
    refine lv_aload_n hx hb dX9_after_8 rfl (lv_at hl 0 rfl) ?_
    refine lv_iload_n hx hb dX9_after_9 rfl (lv_at hl 2 rfl) ?_
    refine cl_i hD hS hA (va_runV (As := [.int a2]) (rest := []) ⟨hx, hb, hml, hown, hts⟩ (ct_X9_isTask h H.size) (cwV 1 hts gX9_after_X9_isTask rfl rfl rfl (by decide +kernel) ⟨Nat.le_of_ble_eq_true rfl, Nat.le_of_ble_eq_true rfl⟩) ⟨CPre.blind, va_recv hAB.1 hP (ci := 9) (q0 := 0) rfl rfl, wd_pre hAB hP hD hS hA⟩ rfl rfl hl.1 rfl (lv_room (Nat.le_of_ble_eq_true rfl)) dX9_after_10 ⟨Nat.zero_le _, Nat.zero_le _⟩) (fun r_18 u H locs h hP hD hS => ?_)
    refine lv_if_ne (tgt := 22) hx hb dX9_after_13 (by decide) (fun c_19 => ?_) (fun c_19 => ?_)
    · have h := h.1 c_19
      refine lv_aload_n hx hb dX9_after_22 rfl (lv_at hl 0 rfl) ?_
      refine va_get (D := D) (ci := 9) (C := RX9) (T := TX9) (N := 32) hx hb hts inn_X9_after_9 hown hAB.1 hP 0 rfl rfl 0 (by decide) (hts (.fieldLink RX9 10 "BarnBenchModel" "b" "LBarnBenchModel$Book;") (by decide +kernel)) (fun _ h9 => h9) rfl dX9_after_23 ?_
      refine va_get (D := D) (ci := 8) (C := RX8) (T := TX8) (N := 5) hx hb hts inn_X9_after_8 hown hAB.1 hP 1 rfl rfl 3 (by decide) (hts (.fieldLink RX9 147 "BarnBenchModel$Book" "follows" "[Z") (by decide +kernel)) (fun _ h9 => h9) rfl dX9_after_26 ?_
      refine lv_bipush (v := 12) hx hb dX9_after_29 (by decide) ?_
      refine lv_iload_n hx hb dX9_after_31 rfl (lv_at hl 1 rfl) ?_
      refine lv_imul hx hb dX9_after_32 ?_
      refine lv_iload_n hx hb dX9_after_33 rfl (lv_at hl 2 rfl) ?_
      refine lv_iadd hx hb dX9_after_34 ?_
      refine va_zald hx hb hAB.1 hP 4 2 rfl rfl h.1 dX9_after_35 ?_
      have h := h.2
      refine lv_topi (fun x3_20 e_21 => ?_)
      have h := h x3_20 e_21
      refine lv_istore_n (lv' := [(3, .int x3_20), (0, .ref (ad 0)), (1, .int a1), (2, .int a2)]) hx hb dX9_after_36 rfl hl (by decide) rfl (fun ls hl => ?_)
      refine lv_aload_n hx hb dX9_after_37 rfl (lv_at hl 1 rfl) ?_
      refine va_get (D := D) (ci := 9) (C := RX9) (T := TX9) (N := 32) hx hb hts inn_X9_after_9 hown hAB.1 hP 0 rfl rfl 0 (by decide) (hts (.fieldLink RX9 10 "BarnBenchModel" "b" "LBarnBenchModel$Book;") (by decide +kernel)) (fun _ h9 => h9) rfl dX9_after_38 ?_
      refine va_get (D := D) (ci := 8) (C := RX8) (T := TX8) (N := 5) hx hb hts inn_X9_after_8 hown hAB.1 hP 1 rfl rfl 3 (by decide) (hts (.fieldLink RX9 147 "BarnBenchModel$Book" "follows" "[Z") (by decide +kernel)) (fun _ h9 => h9) rfl dX9_after_41 ?_
      refine lv_bipush (v := 12) hx hb dX9_after_44 (by decide) ?_
      refine lv_iload_n hx hb dX9_after_46 rfl (lv_at hl 2 rfl) ?_
      refine lv_imul hx hb dX9_after_47 ?_
      refine lv_iload_n hx hb dX9_after_48 rfl (lv_at hl 3 rfl) ?_
      refine lv_iadd hx hb dX9_after_49 ?_
      refine lv_iconst (v := 1) hx hb dX9_after_50 (by decide) ?_
      refine sM_4 hx hb hAB hP hD hS h.1 dX9_after_51 (fun pF_22 H locs e_23 hP hD hS => ?_)
      have h := h.2
      have h := h pF_22 e_23
      refine lv_iconst (v := 0) hx hb dX9_after_52 (by decide) ?_
      refine lv_istore (lv' := [(4, .int 0), (3, .int x3_20), (0, .ref (ad 0)), (1, .int a1), (2, .int a2)]) hx hb dX9_after_53 hl (by decide) rfl (fun ls hl => ?_)
      refine lv_iconst (v := 0) hx hb dX9_after_55 (by decide) ?_
      refine lv_istore (lv' := [(5, .int 0), (4, .int 0), (3, .int x3_20), (0, .ref (ad 0)), (1, .int a1), (2, .int a2)]) hx hb dX9_after_56 hl (by decide) rfl (fun ls hl => ?_)
      have L58 : ∀ (x58 : (Int32) → Prop) (hk58 : ∀ (x4_26 : Int32), x58 x4_26 → ∀ (H : Heap) (locs : List Loc) (ls : Array Slot), va_P D vwCl (WM cI cJ cZ cK ad ud pT pK pN pF_22 pS qT qK qN qF qS mKe mUn mFi mRi mBe mWc mAK mSh mIP mUS mWa mWi mSi mRo mSp mRw mSn mBg mLa mMo mRm mOw mGo mFr mQu mCh mPB mPS mFs ub uT uK uN uF uS) H → va_D A (WM cI cJ cZ cK ad ud pT pK pN pF_22 pS qT qK qN qF qS mKe mUn mFi mRi mBe mWc mAK mSh mIP mUS mWa mWi mSi mRo mSp mRw mSn mBg mLa mMo mRm mOw mGo mFr mQu mCh mPB mPS mFs ub uT uK uN uF uS) → va_S A s.heap H locs → lv_has ls 6 [(0, .ref (ad 0)), (1, .int a1), (2, .int a2), (3, .int x3_20), (4, .int x4_26)] → W p l e (headSpec wsX9_after rm_X9_after).room s m args below meth c H locs 0 0 Q (F0 m 104 ls [])) (n58 : Nat) (x4_24 : Int32) (x5_25 : Int32), wp_X9_after_L58 pT pF_22 x58 n58 x4_24 x5_25 → ∀ (H : Heap) (locs : List Loc) (ls : Array Slot), va_P D vwCl (WM cI cJ cZ cK ad ud pT pK pN pF_22 pS qT qK qN qF qS mKe mUn mFi mRi mBe mWc mAK mSh mIP mUS mWa mWi mSi mRo mSp mRw mSn mBg mLa mMo mRm mOw mGo mFr mQu mCh mPB mPS mFs ub uT uK uN uF uS) H → va_D A (WM cI cJ cZ cK ad ud pT pK pN pF_22 pS qT qK qN qF qS mKe mUn mFi mRi mBe mWc mAK mSh mIP mUS mWa mWi mSi mRo mSp mRw mSn mBg mLa mMo mRm mOw mGo mFr mQu mCh mPB mPS mFs ub uT uK uN uF uS) → va_S A s.heap H locs → lv_has ls 6 [(0, .ref (ad 0)), (1, .int a1), (2, .int a2), (3, .int x3_20), (4, .int x4_24), (5, .int x5_25)] → W p l e (headSpec wsX9_after rm_X9_after).room s m args below meth c H locs 0 0 Q (F0 m 58 ls []) := by
        intro x58 hk58 n58
        induction n58 with
        | zero => intro x4_24 x5_25 h; exact False.elim h
        | succ n58 ih58 =>
          intro x4_24 x5_25 h H locs ls hP hD hS hl
          have B95 : ∀ (y_28 : Int32) (y_29 : Int32) (x5_27 : Int32), wp_X9_after_b95 (wp_X9_after_L58 pT pF_22 x58 n58) y_28 y_29 x5_27 → ∀ (H : Heap) (locs : List Loc) (ls : Array Slot), va_P D vwCl (WM cI cJ cZ cK ad ud pT pK pN pF_22 pS qT qK qN qF qS mKe mUn mFi mRi mBe mWc mAK mSh mIP mUS mWa mWi mSi mRo mSp mRw mSn mBg mLa mMo mRm mOw mGo mFr mQu mCh mPB mPS mFs ub uT uK uN uF uS) H → va_D A (WM cI cJ cZ cK ad ud pT pK pN pF_22 pS qT qK qN qF qS mKe mUn mFi mRi mBe mWc mAK mSh mIP mUS mWa mWi mSi mRo mSp mRw mSn mBg mLa mMo mRm mOw mGo mFr mQu mCh mPB mPS mFs ub uT uK uN uF uS) → va_S A s.heap H locs → lv_has ls 6 [(0, .ref (ad 0)), (1, .int a1), (2, .int a2), (3, .int x3_20), (5, .int x5_27)] → W p l e (headSpec wsX9_after rm_X9_after).room s m args below meth c H locs 0 0 Q (F0 m 95 ls [.int y_29, .int y_28]) := by
            intro y_28 y_29 x5_27 h H locs ls hP hD hS hl
            refine lv_ior hx hb dX9_after_95 ?_
            refine lv_topi (fun x4_30 e_31 => ?_)
            have h := h x4_30 e_31
            refine lv_istore (lv' := [(4, .int x4_30), (0, .ref (ad 0)), (1, .int a1), (2, .int a2), (3, .int x3_20), (5, .int x5_27)]) hx hb dX9_after_96 hl (by decide) rfl (fun ls hl => ?_)
            obtain ⟨x5_32, e_33⟩ : ∃ y : Int32, y = x5_27 + 1 := ⟨_, rfl⟩
            have h := h x5_32 e_33
            refine lv_iinc (v := x5_32) (lv' := [(5, .int x5_32), (4, .int x4_30), (0, .ref (ad 0)), (1, .int a1), (2, .int a2), (3, .int x3_20)]) hx hb dX9_after_98 hl (k := 5) rfl (by rw [e_33]; rfl) (by decide) rfl (fun ls hl => ?_)
            refine lv_goto (tgt := 58) hx hb dX9_after_101 (by decide) ?_
            exact ih58 x4_30 x5_32 h H locs ls hP hD hS (lv_sub hl [2, 3, 4, 5, 1, 0] rfl)
          refine lv_iload hx hb dX9_after_58 (lv_at hl 5 rfl) ?_
          refine lv_aload_n hx hb dX9_after_60 rfl (lv_at hl 0 rfl) ?_
          refine va_get (D := D) (ci := 9) (C := RX9) (T := TX9) (N := 32) hx hb hts inn_X9_after_9 hown hAB.1 hP 0 rfl rfl 0 (by decide) (hts (.fieldLink RX9 10 "BarnBenchModel" "b" "LBarnBenchModel$Book;") (by decide +kernel)) (fun _ h9 => h9) rfl dX9_after_61 ?_
          refine va_get (D := D) (ci := 8) (C := RX8) (T := TX8) (N := 5) hx hb hts inn_X9_after_8 hown hAB.1 hP 1 rfl rfl 0 (by decide) (hts (.fieldLink RX9 94 "BarnBenchModel$Book" "tasks" "I") (by decide +kernel)) (fun _ h9 => h9) rfl dX9_after_64 ?_
          refine lv_icmp_ge (tgt := 104) hx hb dX9_after_67 (by decide) (fun c_34 => ?_) (fun c_34 => ?_)
          · have h := h.1 c_34
            exact hk58 x4_24 h H locs ls hP hD hS (lv_sub hl [0, 1, 2, 3, 4] rfl)
          · have h := h.2 c_34
            refine lv_iload hx hb dX9_after_70 (lv_at hl 4 rfl) ?_
            refine lv_aload_n hx hb dX9_after_72 rfl (lv_at hl 0 rfl) ?_
            refine lv_iload hx hb dX9_after_73 (lv_at hl 5 rfl) ?_
            refine cl_i hD hS hA (va_runV (As := [.int x5_25]) (rest := [.int x4_24]) ⟨hx, hb, hml, hown, hts⟩ (ct_X9_all h H.size) (cwV 1 hts gX9_after_X9_all rfl rfl rfl (by decide +kernel) ⟨Nat.le_of_ble_eq_true rfl, Nat.le_of_ble_eq_true rfl⟩) ⟨CPre.blind, va_recv hAB.1 hP (ci := 9) (q0 := 0) rfl rfl, wd_pre hAB hP hD hS hA⟩ rfl rfl hl.1 rfl (lv_room (Nat.le_of_ble_eq_true rfl)) dX9_after_75 ⟨Nat.zero_le _, Nat.zero_le _⟩) (fun r_35 u H locs h hP hD hS => ?_)
            refine lv_iload hx hb dX9_after_78 (lv_at hl 5 rfl) ?_
            refine lv_ishr hx hb dX9_after_80 ?_
            refine lv_iconst (v := 1) hx hb dX9_after_81 (by decide) ?_
            refine lv_iand hx hb dX9_after_82 ?_
            refine lv_iconst (v := 1) hx hb dX9_after_83 (by decide) ?_
            refine lv_icmp_ne (tgt := 94) hx hb dX9_after_84 (by decide) (fun c_36 => ?_) (fun c_36 => ?_)
            · have h := h.1 c_36
              refine lv_iconst (v := 0) hx hb dX9_after_94 (by decide) ?_
              exact B95 x4_24 0 x5_25 h H locs ls hP hD hS (lv_sub hl [0, 1, 2, 3, 5] rfl)
            · have h := h.2 c_36
              refine lv_iconst (v := 1) hx hb dX9_after_87 (by decide) ?_
              refine lv_iload hx hb dX9_after_88 (lv_at hl 5 rfl) ?_
              refine lv_ishl hx hb dX9_after_90 ?_
              refine lv_goto (tgt := 95) hx hb dX9_after_91 (by decide) ?_
              exact B95 x4_24 (1 <<< (x5_25 &&& 31)) x5_25 h H locs ls hP hD hS (lv_sub hl [0, 1, 2, 3, 5] rfl)
      obtain ⟨n58, h⟩ := h
      refine L58 _ (fun x4_26 h H locs ls hP hD hS hl => ?_) n58 0 0 h H locs ls hP hD hS (lv_sub hl [3, 4, 5, 2, 1, 0] rfl)
      refine lv_aload_n hx hb dX9_after_104 rfl (lv_at hl 0 rfl) ?_
      refine va_get (D := D) (ci := 9) (C := RX9) (T := TX9) (N := 32) hx hb hts inn_X9_after_9 hown hAB.1 hP 0 rfl rfl 0 (by decide) (hts (.fieldLink RX9 10 "BarnBenchModel" "b" "LBarnBenchModel$Book;") (by decide +kernel)) (fun _ h9 => h9) rfl dX9_after_105 ?_
      refine va_get (D := D) (ci := 8) (C := RX8) (T := TX8) (N := 5) hx hb hts inn_X9_after_8 hown hAB.1 hP 1 rfl rfl 3 (by decide) (hts (.fieldLink RX9 147 "BarnBenchModel$Book" "follows" "[Z") (by decide +kernel)) (fun _ h9 => h9) rfl dX9_after_108 ?_
      refine lv_bipush (v := 12) hx hb dX9_after_111 (by decide) ?_
      refine lv_iload_n hx hb dX9_after_113 rfl (lv_at hl 1 rfl) ?_
      refine lv_imul hx hb dX9_after_114 ?_
      refine lv_iload_n hx hb dX9_after_115 rfl (lv_at hl 2 rfl) ?_
      refine lv_iadd hx hb dX9_after_116 ?_
      refine lv_iload_n hx hb dX9_after_117 rfl (lv_at hl 3 rfl) ?_
      refine sM_4 hx hb hAB hP hD hS h.1 dX9_after_118 (fun pF_37 H locs e_38 hP hD hS => ?_)
      have h := h.2
      have h := h pF_37 e_38
      refine lv_iload hx hb dX9_after_119 (lv_at hl 4 rfl) ?_
      refine lv_if_eq (tgt := 137) hx hb dX9_after_121 (by decide) (fun c_39 => ?_) (fun c_39 => ?_)
      · have h := h.1 c_39
        refine lv_aload_n hx hb dX9_after_137 rfl (lv_at hl 0 rfl) ?_
        refine lv_iconst (v := 0) hx hb dX9_after_138 (by decide) ?_
        refine cl_v hD hS hA (va_runV (As := [.int 0]) (rest := []) ⟨hx, hb, hml, hown, hts⟩ (ct_X9_remember h H.size) (cwV 1 hts gX9_after_X9_remember rfl rfl rfl (by decide +kernel) ⟨Nat.le_of_ble_eq_true rfl, Nat.le_of_ble_eq_true rfl⟩) ⟨CPre.blind, va_recv hAB.1 hP (ci := 9) (q0 := 0) rfl rfl, wd_pre hAB hP hD hS hA⟩ rfl rfl hl.1 rfl (lv_room (Nat.le_of_ble_eq_true rfl)) dX9_after_139 ⟨Nat.zero_le _, Nat.zero_le _⟩) (fun u H locs h hP hD hS => ?_)
        obtain ⟨mUn_40, mAK_41, mIP_42, mUS_43, ub_44, uT_45, uK_46, uN_47, uF_48, uS_49⟩ := u
        have hP : va_P D vwCl (WM cI cJ cZ cK ad ud pT pK pN pF_37 pS qT qK qN qF qS mKe mUn_40 mFi mRi mBe mWc mAK_41 mSh mIP_42 mUS_43 mWa mWi mSi mRo mSp mRw mSn mBg mLa mMo mRm mOw mGo mFr mQu mCh mPB mPS mFs ub_44 uT_45 uK_46 uN_47 uF_48 uS_49) H := hP
        have hD : va_D A (WM cI cJ cZ cK ad ud pT pK pN pF_37 pS qT qK qN qF qS mKe mUn_40 mFi mRi mBe mWc mAK_41 mSh mIP_42 mUS_43 mWa mWi mSi mRo mSp mRw mSn mBg mLa mMo mRm mOw mGo mFr mQu mCh mPB mPS mFs ub_44 uT_45 uK_46 uN_47 uF_48 uS_49) := hD
        refine lv_aload_n hx hb dX9_after_142 rfl (lv_at hl 0 rfl) ?_
        refine va_get (D := D) (ci := 9) (C := RX9) (T := TX9) (N := 32) hx hb hts inn_X9_after_9 hown hAB.1 hP 0 rfl rfl 0 (by decide) (hts (.fieldLink RX9 10 "BarnBenchModel" "b" "LBarnBenchModel$Book;") (by decide +kernel)) (fun _ h9 => h9) rfl dX9_after_143 ?_
        refine va_get (D := D) (ci := 8) (C := RX8) (T := TX8) (N := 5) hx hb hts inn_X9_after_8 hown hAB.1 hP 1 rfl rfl 3 (by decide) (hts (.fieldLink RX9 147 "BarnBenchModel$Book" "follows" "[Z") (by decide +kernel)) (fun _ h9 => h9) rfl dX9_after_146 ?_
        refine lv_bipush (v := 12) hx hb dX9_after_149 (by decide) ?_
        refine lv_iload_n hx hb dX9_after_151 rfl (lv_at hl 1 rfl) ?_
        refine lv_imul hx hb dX9_after_152 ?_
        refine lv_iload_n hx hb dX9_after_153 rfl (lv_at hl 2 rfl) ?_
        refine lv_iadd hx hb dX9_after_154 ?_
        refine lv_iconst (v := 1) hx hb dX9_after_155 (by decide) ?_
        refine sM_4 hx hb hAB hP hD hS h.1 dX9_after_156 (fun pF_50 H locs e_51 hP hD hS => ?_)
        have h := h.2
        have h := h pF_50 e_51
        refine lv_aload_n hx hb dX9_after_157 rfl (lv_at hl 0 rfl) ?_
        refine lv_iload_n hx hb dX9_after_158 rfl (lv_at hl 1 rfl) ?_
        refine cl_i hD hS hA (va_runV (As := [.int a1]) (rest := []) ⟨hx, hb, hml, hown, hts⟩ (ct_X9_followed h H.size) (cwV 1 hts gX9_after_X9_followed rfl rfl rfl (by decide +kernel) ⟨Nat.le_of_ble_eq_true rfl, Nat.le_of_ble_eq_true rfl⟩) ⟨CPre.blind, va_recv hAB.1 hP (ci := 9) (q0 := 0) rfl rfl, wd_pre hAB hP hD hS hA⟩ rfl rfl hl.1 rfl (lv_room (Nat.le_of_ble_eq_true rfl)) dX9_after_159 ⟨Nat.zero_le _, Nat.zero_le _⟩) (fun r_52 u H locs h hP hD hS => ?_)
        exact rt_i (pF_50, mUn_40, mFi, mRi, mAK_41, mIP_42, mUS_43, ub_44, uT_45, uK_46, uN_47, uF_48, uS_49) hQ hx hb hr hlk hP hD hS ⟨Nat.zero_le _, Nat.zero_le _⟩ dX9_after_162 h
      · have h := h.2 c_39
        refine lv_aload_n hx hb dX9_after_124 rfl (lv_at hl 0 rfl) ?_
        refine lv_iload hx hb dX9_after_125 (lv_at hl 4 rfl) ?_
        refine fM_0_ring hx hb hAB hP hD hS hts inn_X9_after_9 hown (hts (.fieldLink RX9 157 "BarnBenchModel" "ring" "I") (by decide +kernel)) dX9_after_127 (fun mRi_53 H locs e_54 hP hD hS => ?_)
        have h := h mRi_53 e_54
        refine lv_aload_n hx hb dX9_after_130 rfl (lv_at hl 0 rfl) ?_
        refine lv_bipush (v := (-6)) hx hb dX9_after_131 (by decide) ?_
        refine cl_i hD hS hA (va_runV (As := [.int (-6)]) (rest := []) ⟨hx, hb, hml, hown, hts⟩ (ct_X9_found h H.size) (cwV 1 hts gX9_after_X9_found rfl rfl rfl (by decide +kernel) ⟨Nat.le_of_ble_eq_true rfl, Nat.le_of_ble_eq_true rfl⟩) ⟨CPre.blind, va_recv hAB.1 hP (ci := 9) (q0 := 0) rfl rfl, wd_pre hAB hP hD hS hA⟩ rfl rfl hl.1 rfl (lv_room (Nat.le_of_ble_eq_true rfl)) dX9_after_133 ⟨Nat.zero_le _, Nat.zero_le _⟩) (fun r_55 mFi_56 H locs h hP hD hS => ?_)
        have hP : va_P D vwCl (WM cI cJ cZ cK ad ud pT pK pN pF_37 pS qT qK qN qF qS mKe mUn mFi_56 mRi_53 mBe mWc mAK mSh mIP mUS mWa mWi mSi mRo mSp mRw mSn mBg mLa mMo mRm mOw mGo mFr mQu mCh mPB mPS mFs ub uT uK uN uF uS) H := hP
        have hD : va_D A (WM cI cJ cZ cK ad ud pT pK pN pF_37 pS qT qK qN qF qS mKe mUn mFi_56 mRi_53 mBe mWc mAK mSh mIP mUS mWa mWi mSi mRo mSp mRw mSn mBg mLa mMo mRm mOw mGo mFr mQu mCh mPB mPS mFs ub uT uK uN uF uS) := hD
        exact rt_i (pF_37, mUn, mFi_56, mRi_53, mAK, mIP, mUS, ub, uT, uK, uN, uF, uS) hQ hx hb hr hlk hP hD hS ⟨Nat.zero_le _, Nat.zero_le _⟩ dX9_after_136 h
    · have h := h.2 c_19
      exact B16 pF mUn mFi mRi mAK mIP mUS ub uT uK uN uF uS h H locs ls hP hD hS (lv_sub hl [0] rfl)
def wp_X9_away_b16 (Qp : Int32 → (Nat → Int32) → (Int32) → (Int32) → (Int32) → (Int32) → (Nat → Int32) → (Nat → Nat) → (Nat → Int32) → (Nat → Nat → Int32) → (Nat → Nat → Int32) → (Nat → Nat → Int32) → (Nat → Nat → Int32) → Prop) (pF_1 : Nat → Int32) (mUn_2 : Int32) (mFi_3 : Int32) (mAK_4 : Int32) (mIP_5 : Int32) (mUS_6 : Nat → Int32) (ub_7 : Nat → Nat) (uT_8 : Nat → Int32) (uK_9 : Nat → Nat → Int32) (uN_10 : Nat → Nat → Int32) (uF_11 : Nat → Nat → Int32) (uS_12 : Nat → Nat → Int32) : Prop :=
  wp_X9_found mFi_3 (-1) (fun (r_13 : Int32) (mFi_14 : Int32) => Qp r_13 pF_1 mUn_2 mFi_14 mAK_4 mIP_5 mUS_6 ub_7 uT_8 uK_9 uN_10 uF_11 uS_12)
def wp_X9_away (pT : Int32) (pK : Nat → Int32) (pN : Nat → Int32) (pF : Nat → Int32) (pS : Nat → Int32) (mUn : Int32) (mFi : Int32) (mAK : Int32) (mIP : Int32) (mUS : Nat → Int32) (ub : Nat → Nat) (uT : Nat → Int32) (uK : Nat → Nat → Int32) (uN : Nat → Nat → Int32) (uF : Nat → Nat → Int32) (uS : Nat → Nat → Int32) (a1 : Int32) (a2 : Int32) (Qp : Int32 → (Nat → Int32) → (Int32) → (Int32) → (Int32) → (Int32) → (Nat → Int32) → (Nat → Nat) → (Nat → Int32) → (Nat → Nat → Int32) → (Nat → Nat → Int32) → (Nat → Nat → Int32) → (Nat → Nat → Int32) → Prop) : Prop :=
  wp_X9_isTask pT a1 (fun (r_15 : Int32) => ((r_15 = 0 → wp_X9_away_b16 Qp pF mUn mFi mAK mIP mUS ub uT uK uN uF uS) ∧
   (¬ r_15 = 0 → wp_X9_isTask pT a2 (fun (r_17 : Int32) => ((¬ r_17 = 0 → vp_in ((12 * a1) + a2) 144 ∧ ((¬ (pF (Int32.toNatClampNeg ((12 * a1) + a2))) = 0 → wp_X9_remember pT pK pN pF pS mUn mAK mIP mUS ub uT uK uN uF uS 0 (fun (mUn_20 : Int32) (mAK_21 : Int32) (mIP_22 : Int32) (mUS_23 : Nat → Int32) (ub_24 : Nat → Nat) (uT_25 : Nat → Int32) (uK_26 : Nat → Nat → Int32) (uN_27 : Nat → Nat → Int32) (uF_28 : Nat → Nat → Int32) (uS_29 : Nat → Nat → Int32) => vp_in ((12 * a1) + a2) 144 ∧ ∀ pF_30 : Nat → Int32, pF_30 = upd pF (Int32.toNatClampNeg ((12 * a1) + a2)) (vp_nar .boolean 0) → wp_X9_followed pT pF_30 a1 (fun (r_32 : Int32) => Qp r_32 pF_30 mUn_20 mFi mAK_21 mIP_22 mUS_23 ub_24 uT_25 uK_26 uN_27 uF_28 uS_29))) ∧
   ((pF (Int32.toNatClampNeg ((12 * a1) + a2))) = 0 → wp_X9_found mFi (-7) (fun (r_33 : Int32) (mFi_34 : Int32) => Qp r_33 pF mUn mFi_34 mAK mIP mUS ub uT uK uN uF uS)))) ∧
   (r_17 = 0 → wp_X9_away_b16 Qp pF mUn mFi mAK mIP mUS ub uT uK uN uF uS))))))
theorem inn_X9_away_8 : ∀ w ∈ u_ws RX8 TX8 5, w ∈ wsX9_away := fun _ h => List.mem_cons_of_mem _ (List.mem_append_right _ h)
theorem inn_X9_away_9 : ∀ w ∈ u_ws RX9 TX9 32, w ∈ wsX9_away := fun _ h => List.mem_cons_of_mem _ (List.mem_append_left _ (List.mem_append_right _ h))
def rm_X9_away : Room := { frames := 2, cells := 0, slots := 0, locals := 46 }
set_option maxHeartbeats 4000000 in
set_option maxRecDepth 100000 in
theorem ct_X9_away {l : Launch} {D : va_G} {cI cJ cZ cE cD cK : ClassId} {ad : Nat → Nat} {ud : Nat → Nat → Nat} {pT : Int32} {pK : Nat → Int32} {pN : Nat → Int32} {pF : Nat → Int32} {pS : Nat → Int32} {qT : Int32} {qK : Nat → Int32} {qN : Nat → Int32} {qF : Nat → Int32} {qS : Nat → Int32} {mKe : Int32} {mUn : Int32} {mFi : Int32} {mRi : Int32} {mBe : Int64} {mWc : Int32} {mAK : Int32} {mSh : Int32} {mIP : Int32} {mUS : Nat → Int32} {mWa : Nat → Int32} {mWi : Nat → Int32} {mSi : Nat → Int32} {mRo : Nat → Int64} {mSp : Nat → Int64} {mRw : Nat → Int32} {mSn : Nat → Int32} {mBg : Nat → Int32} {mLa : Nat → Int32} {mMo : Nat → Int32} {mRm : Nat → Int64} {mOw : Nat → Int64} {mGo : Nat → Int32} {mFr : Nat → Int32} {mQu : Nat → Int32} {mCh : Nat → Int64} {mPB : Nat → Int32} {mPS : Nat → Int32} {mFs : Nat → Int32} {ub : Nat → Nat} {uT : Nat → Int32} {uK : Nat → Nat → Int32} {uN : Nat → Nat → Int32} {uF : Nat → Nat → Int32} {uS : Nat → Nat → Int32}   {a1 : Int32} {a2 : Int32} {Qp : Int32 → (Nat → Int32) → (Int32) → (Int32) → (Int32) → (Int32) → (Nat → Int32) → (Nat → Nat) → (Nat → Int32) → (Nat → Nat → Int32) → (Nat → Nat → Int32) → (Nat → Nat → Int32) → (Nat → Nat → Int32) → Prop}   (h : wp_X9_away pT pK pN pF pS mUn mFi mAK mIP mUS ub uT uK uN uF uS a1 a2 Qp) : CTi l yX9_away wsX9_away rm_X9_away D (tyL cI cJ cZ cE cD cK) [.ref (ad 0), .int a1, .int a2] (WM cI cJ cZ cK ad ud pT pK pN pF pS qT qK qN qF qS mKe mUn mFi mRi mBe mWc mAK mSh mIP mUS mWa mWi mSi mRo mSp mRw mSn mBg mLa mMo mRm mOw mGo mFr mQu mCh mPB mPS mFs ub uT uK uN uF uS) (fun (r : Int32) (u : (Nat → Int32) × (Int32) × (Int32) × (Int32) × (Int32) × (Nat → Int32) × (Nat → Nat) × (Nat → Int32) × (Nat → Nat → Int32) × (Nat → Nat → Int32) × (Nat → Nat → Int32) × (Nat → Nat → Int32)) => Qp r u.1 u.2.1 u.2.2.1 u.2.2.2.1 u.2.2.2.2.1 u.2.2.2.2.2.1 u.2.2.2.2.2.2.1 u.2.2.2.2.2.2.2.1 u.2.2.2.2.2.2.2.2.1 u.2.2.2.2.2.2.2.2.2.1 u.2.2.2.2.2.2.2.2.2.2.1 u.2.2.2.2.2.2.2.2.2.2.2) (fun u : (Nat → Int32) × (Int32) × (Int32) × (Int32) × (Int32) × (Nat → Int32) × (Nat → Nat) × (Nat → Int32) × (Nat → Nat → Int32) × (Nat → Nat → Int32) × (Nat → Nat → Int32) × (Nat → Nat → Int32) => (WM cI cJ cZ cK ad ud pT pK pN u.1 pS qT qK qN qF qS mKe u.2.1 u.2.2.1 mRi mBe mWc u.2.2.2.1 mSh u.2.2.2.2.1 u.2.2.2.2.2.1 mWa mWi mSi mRo mSp mRw mSn mBg mLa mMo mRm mOw mGo mFr mQu mCh mPB mPS mFs u.2.2.2.2.2.2.1 u.2.2.2.2.2.2.2.1 u.2.2.2.2.2.2.2.2.1 u.2.2.2.2.2.2.2.2.2.1 u.2.2.2.2.2.2.2.2.2.2.1 u.2.2.2.2.2.2.2.2.2.2.2)) 0 0 := by
  refine ent_i (cc := cX9_away) (maxL := 3) (ret := (some .int)) (by decide) rfl (Nat.le_of_ble_eq_true rfl) ?_
  intro p e s m args below meth c A Q hQ hx hb hr hml hown hts hlk hA hAB hP hD hS ls hl
  have hown : s.vm.findClass RX9 = some m.cls := hown
  have hl : lv_has ls 3 [(0, .ref (ad 0)), (1, .int a1), (2, .int a2)] := hl
  generalize hH : s.heap = H at hP ⊢
  have hS : va_S A s.heap H [] := by rw [← hH]; exact hS
  clear hH
  generalize ([] : List Loc) = locs at hS ⊢
  have B16 : ∀ (pF_1 : Nat → Int32) (mUn_2 : Int32) (mFi_3 : Int32) (mAK_4 : Int32) (mIP_5 : Int32) (mUS_6 : Nat → Int32) (ub_7 : Nat → Nat) (uT_8 : Nat → Int32) (uK_9 : Nat → Nat → Int32) (uN_10 : Nat → Nat → Int32) (uF_11 : Nat → Nat → Int32) (uS_12 : Nat → Nat → Int32), wp_X9_away_b16 Qp pF_1 mUn_2 mFi_3 mAK_4 mIP_5 mUS_6 ub_7 uT_8 uK_9 uN_10 uF_11 uS_12 → ∀ (H : Heap) (locs : List Loc) (ls : Array Slot), va_P D vwCl (WM cI cJ cZ cK ad ud pT pK pN pF_1 pS qT qK qN qF qS mKe mUn_2 mFi_3 mRi mBe mWc mAK_4 mSh mIP_5 mUS_6 mWa mWi mSi mRo mSp mRw mSn mBg mLa mMo mRm mOw mGo mFr mQu mCh mPB mPS mFs ub_7 uT_8 uK_9 uN_10 uF_11 uS_12) H → va_D A (WM cI cJ cZ cK ad ud pT pK pN pF_1 pS qT qK qN qF qS mKe mUn_2 mFi_3 mRi mBe mWc mAK_4 mSh mIP_5 mUS_6 mWa mWi mSi mRo mSp mRw mSn mBg mLa mMo mRm mOw mGo mFr mQu mCh mPB mPS mFs ub_7 uT_8 uK_9 uN_10 uF_11 uS_12) → va_S A s.heap H locs → lv_has ls 3 [(0, .ref (ad 0))] → W p l e (headSpec wsX9_away rm_X9_away).room s m args below meth c H locs 0 0 Q (F0 m 16 ls []) := by
    intro pF_1 mUn_2 mFi_3 mAK_4 mIP_5 mUS_6 ub_7 uT_8 uK_9 uN_10 uF_11 uS_12 h H locs ls hP hD hS hl
    refine lv_aload_n hx hb dX9_away_16 rfl (lv_at hl 0 rfl) ?_
    refine lv_iconst (v := (-1)) hx hb dX9_away_17 (by decide) ?_
    refine cl_i hD hS hA (va_runV (As := [.int (-1)]) (rest := []) ⟨hx, hb, hml, hown, hts⟩ (ct_X9_found h H.size) (cwV 1 hts gX9_away_X9_found rfl rfl rfl (by decide +kernel) ⟨Nat.le_of_ble_eq_true rfl, Nat.le_of_ble_eq_true rfl⟩) ⟨CPre.blind, va_recv hAB.1 hP (ci := 9) (q0 := 0) rfl rfl, wd_pre hAB hP hD hS hA⟩ rfl rfl hl.1 rfl (lv_room (Nat.le_of_ble_eq_true rfl)) dX9_away_18 ⟨Nat.zero_le _, Nat.zero_le _⟩) (fun r_13 mFi_14 H locs h hP hD hS => ?_)
    have hP : va_P D vwCl (WM cI cJ cZ cK ad ud pT pK pN pF_1 pS qT qK qN qF qS mKe mUn_2 mFi_14 mRi mBe mWc mAK_4 mSh mIP_5 mUS_6 mWa mWi mSi mRo mSp mRw mSn mBg mLa mMo mRm mOw mGo mFr mQu mCh mPB mPS mFs ub_7 uT_8 uK_9 uN_10 uF_11 uS_12) H := hP
    have hD : va_D A (WM cI cJ cZ cK ad ud pT pK pN pF_1 pS qT qK qN qF qS mKe mUn_2 mFi_14 mRi mBe mWc mAK_4 mSh mIP_5 mUS_6 mWa mWi mSi mRo mSp mRw mSn mBg mLa mMo mRm mOw mGo mFr mQu mCh mPB mPS mFs ub_7 uT_8 uK_9 uN_10 uF_11 uS_12) := hD
    exact rt_i (pF_1, mUn_2, mFi_14, mAK_4, mIP_5, mUS_6, ub_7, uT_8, uK_9, uN_10, uF_11, uS_12) hQ hx hb hr hlk hP hD hS ⟨Nat.zero_le _, Nat.zero_le _⟩ dX9_away_21 h
  refine lv_aload_n hx hb dX9_away_0 rfl (lv_at hl 0 rfl) ?_
  refine lv_iload_n hx hb dX9_away_1 rfl (lv_at hl 1 rfl) ?_
  refine cl_i hD hS hA (va_runV (As := [.int a1]) (rest := []) ⟨hx, hb, hml, hown, hts⟩ (ct_X9_isTask h H.size) (cwV 1 hts gX9_away_X9_isTask rfl rfl rfl (by decide +kernel) ⟨Nat.le_of_ble_eq_true rfl, Nat.le_of_ble_eq_true rfl⟩) ⟨CPre.blind, va_recv hAB.1 hP (ci := 9) (q0 := 0) rfl rfl, wd_pre hAB hP hD hS hA⟩ rfl rfl hl.1 rfl (lv_room (Nat.le_of_ble_eq_true rfl)) dX9_away_2 ⟨Nat.zero_le _, Nat.zero_le _⟩) (fun r_15 u H locs h hP hD hS => ?_)
  refine lv_if_eq (tgt := 16) hx hb dX9_away_5 (by decide) (fun c_16 => ?_) (fun c_16 => ?_)
  · have h := h.1 c_16
    exact B16 pF mUn mFi mAK mIP mUS ub uT uK uN uF uS h H locs ls hP hD hS (lv_sub hl [0] rfl)
  · have h := h.2 c_16
    refine lv_aload_n hx hb dX9_away_8 rfl (lv_at hl 0 rfl) ?_
    refine lv_iload_n hx hb dX9_away_9 rfl (lv_at hl 2 rfl) ?_
    refine cl_i hD hS hA (va_runV (As := [.int a2]) (rest := []) ⟨hx, hb, hml, hown, hts⟩ (ct_X9_isTask h H.size) (cwV 1 hts gX9_away_X9_isTask rfl rfl rfl (by decide +kernel) ⟨Nat.le_of_ble_eq_true rfl, Nat.le_of_ble_eq_true rfl⟩) ⟨CPre.blind, va_recv hAB.1 hP (ci := 9) (q0 := 0) rfl rfl, wd_pre hAB hP hD hS hA⟩ rfl rfl hl.1 rfl (lv_room (Nat.le_of_ble_eq_true rfl)) dX9_away_10 ⟨Nat.zero_le _, Nat.zero_le _⟩) (fun r_17 u H locs h hP hD hS => ?_)
    refine lv_if_ne (tgt := 22) hx hb dX9_away_13 (by decide) (fun c_18 => ?_) (fun c_18 => ?_)
    · have h := h.1 c_18
      refine lv_aload_n hx hb dX9_away_22 rfl (lv_at hl 0 rfl) ?_
      refine va_get (D := D) (ci := 9) (C := RX9) (T := TX9) (N := 32) hx hb hts inn_X9_away_9 hown hAB.1 hP 0 rfl rfl 0 (by decide) (hts (.fieldLink RX9 10 "BarnBenchModel" "b" "LBarnBenchModel$Book;") (by decide +kernel)) (fun _ h9 => h9) rfl dX9_away_23 ?_
      refine va_get (D := D) (ci := 8) (C := RX8) (T := TX8) (N := 5) hx hb hts inn_X9_away_8 hown hAB.1 hP 1 rfl rfl 3 (by decide) (hts (.fieldLink RX9 147 "BarnBenchModel$Book" "follows" "[Z") (by decide +kernel)) (fun _ h9 => h9) rfl dX9_away_26 ?_
      refine lv_bipush (v := 12) hx hb dX9_away_29 (by decide) ?_
      refine lv_iload_n hx hb dX9_away_31 rfl (lv_at hl 1 rfl) ?_
      refine lv_imul hx hb dX9_away_32 ?_
      refine lv_iload_n hx hb dX9_away_33 rfl (lv_at hl 2 rfl) ?_
      refine lv_iadd hx hb dX9_away_34 ?_
      refine va_zald hx hb hAB.1 hP 4 2 rfl rfl h.1 dX9_away_35 ?_
      have h := h.2
      refine lv_if_ne (tgt := 46) hx hb dX9_away_36 (by decide) (fun c_19 => ?_) (fun c_19 => ?_)
      · have h := h.1 c_19
        refine lv_aload_n hx hb dX9_away_46 rfl (lv_at hl 0 rfl) ?_
        refine lv_iconst (v := 0) hx hb dX9_away_47 (by decide) ?_
        refine cl_v hD hS hA (va_runV (As := [.int 0]) (rest := []) ⟨hx, hb, hml, hown, hts⟩ (ct_X9_remember h H.size) (cwV 1 hts gX9_away_X9_remember rfl rfl rfl (by decide +kernel) ⟨Nat.le_of_ble_eq_true rfl, Nat.le_of_ble_eq_true rfl⟩) ⟨CPre.blind, va_recv hAB.1 hP (ci := 9) (q0 := 0) rfl rfl, wd_pre hAB hP hD hS hA⟩ rfl rfl hl.1 rfl (lv_room (Nat.le_of_ble_eq_true rfl)) dX9_away_48 ⟨Nat.zero_le _, Nat.zero_le _⟩) (fun u H locs h hP hD hS => ?_)
        obtain ⟨mUn_20, mAK_21, mIP_22, mUS_23, ub_24, uT_25, uK_26, uN_27, uF_28, uS_29⟩ := u
        have hP : va_P D vwCl (WM cI cJ cZ cK ad ud pT pK pN pF pS qT qK qN qF qS mKe mUn_20 mFi mRi mBe mWc mAK_21 mSh mIP_22 mUS_23 mWa mWi mSi mRo mSp mRw mSn mBg mLa mMo mRm mOw mGo mFr mQu mCh mPB mPS mFs ub_24 uT_25 uK_26 uN_27 uF_28 uS_29) H := hP
        have hD : va_D A (WM cI cJ cZ cK ad ud pT pK pN pF pS qT qK qN qF qS mKe mUn_20 mFi mRi mBe mWc mAK_21 mSh mIP_22 mUS_23 mWa mWi mSi mRo mSp mRw mSn mBg mLa mMo mRm mOw mGo mFr mQu mCh mPB mPS mFs ub_24 uT_25 uK_26 uN_27 uF_28 uS_29) := hD
        refine lv_aload_n hx hb dX9_away_51 rfl (lv_at hl 0 rfl) ?_
        refine va_get (D := D) (ci := 9) (C := RX9) (T := TX9) (N := 32) hx hb hts inn_X9_away_9 hown hAB.1 hP 0 rfl rfl 0 (by decide) (hts (.fieldLink RX9 10 "BarnBenchModel" "b" "LBarnBenchModel$Book;") (by decide +kernel)) (fun _ h9 => h9) rfl dX9_away_52 ?_
        refine va_get (D := D) (ci := 8) (C := RX8) (T := TX8) (N := 5) hx hb hts inn_X9_away_8 hown hAB.1 hP 1 rfl rfl 3 (by decide) (hts (.fieldLink RX9 147 "BarnBenchModel$Book" "follows" "[Z") (by decide +kernel)) (fun _ h9 => h9) rfl dX9_away_55 ?_
        refine lv_bipush (v := 12) hx hb dX9_away_58 (by decide) ?_
        refine lv_iload_n hx hb dX9_away_60 rfl (lv_at hl 1 rfl) ?_
        refine lv_imul hx hb dX9_away_61 ?_
        refine lv_iload_n hx hb dX9_away_62 rfl (lv_at hl 2 rfl) ?_
        refine lv_iadd hx hb dX9_away_63 ?_
        refine lv_iconst (v := 0) hx hb dX9_away_64 (by decide) ?_
        refine sM_4 hx hb hAB hP hD hS h.1 dX9_away_65 (fun pF_30 H locs e_31 hP hD hS => ?_)
        have h := h.2
        have h := h pF_30 e_31
        refine lv_aload_n hx hb dX9_away_66 rfl (lv_at hl 0 rfl) ?_
        refine lv_iload_n hx hb dX9_away_67 rfl (lv_at hl 1 rfl) ?_
        refine cl_i hD hS hA (va_runV (As := [.int a1]) (rest := []) ⟨hx, hb, hml, hown, hts⟩ (ct_X9_followed h H.size) (cwV 1 hts gX9_away_X9_followed rfl rfl rfl (by decide +kernel) ⟨Nat.le_of_ble_eq_true rfl, Nat.le_of_ble_eq_true rfl⟩) ⟨CPre.blind, va_recv hAB.1 hP (ci := 9) (q0 := 0) rfl rfl, wd_pre hAB hP hD hS hA⟩ rfl rfl hl.1 rfl (lv_room (Nat.le_of_ble_eq_true rfl)) dX9_away_68 ⟨Nat.zero_le _, Nat.zero_le _⟩) (fun r_32 u H locs h hP hD hS => ?_)
        exact rt_i (pF_30, mUn_20, mFi, mAK_21, mIP_22, mUS_23, ub_24, uT_25, uK_26, uN_27, uF_28, uS_29) hQ hx hb hr hlk hP hD hS ⟨Nat.zero_le _, Nat.zero_le _⟩ dX9_away_71 h
      · have h := h.2 c_19
        refine lv_aload_n hx hb dX9_away_39 rfl (lv_at hl 0 rfl) ?_
        refine lv_bipush (v := (-7)) hx hb dX9_away_40 (by decide) ?_
        refine cl_i hD hS hA (va_runV (As := [.int (-7)]) (rest := []) ⟨hx, hb, hml, hown, hts⟩ (ct_X9_found h H.size) (cwV 1 hts gX9_away_X9_found rfl rfl rfl (by decide +kernel) ⟨Nat.le_of_ble_eq_true rfl, Nat.le_of_ble_eq_true rfl⟩) ⟨CPre.blind, va_recv hAB.1 hP (ci := 9) (q0 := 0) rfl rfl, wd_pre hAB hP hD hS hA⟩ rfl rfl hl.1 rfl (lv_room (Nat.le_of_ble_eq_true rfl)) dX9_away_42 ⟨Nat.zero_le _, Nat.zero_le _⟩) (fun r_33 mFi_34 H locs h hP hD hS => ?_)
        have hP : va_P D vwCl (WM cI cJ cZ cK ad ud pT pK pN pF pS qT qK qN qF qS mKe mUn mFi_34 mRi mBe mWc mAK mSh mIP mUS mWa mWi mSi mRo mSp mRw mSn mBg mLa mMo mRm mOw mGo mFr mQu mCh mPB mPS mFs ub uT uK uN uF uS) H := hP
        have hD : va_D A (WM cI cJ cZ cK ad ud pT pK pN pF pS qT qK qN qF qS mKe mUn mFi_34 mRi mBe mWc mAK mSh mIP mUS mWa mWi mSi mRo mSp mRw mSn mBg mLa mMo mRm mOw mGo mFr mQu mCh mPB mPS mFs ub uT uK uN uF uS) := hD
        exact rt_i (pF, mUn, mFi_34, mAK, mIP, mUS, ub, uT, uK, uN, uF, uS) hQ hx hb hr hlk hP hD hS ⟨Nat.zero_le _, Nat.zero_le _⟩ dX9_away_45 h
    · have h := h.2 c_18
      exact B16 pF mUn mFi mAK mIP mUS ub uT uK uN uF uS h H locs ls hP hD hS (lv_sub hl [0] rfl)
def wp_X9_as_b20 (Qp : Int32 → (Int32) → Prop) (mFi_1 : Int32) : Prop :=
  wp_X9_found mFi_1 (-1) (fun (r_2 : Int32) (mFi_3 : Int32) => Qp r_2 mFi_3)
def wp_X9_as (pT : Int32) (pK : Nat → Int32) (mFi : Int32) (a1 : Int32) (a2 : Int32) (Qp : Int32 → (Int32) → Prop) : Prop :=
  wp_X9_isTask pT a1 (fun (r_4 : Int32) => ((r_4 = 0 → wp_X9_as_b20 Qp mFi) ∧
   (¬ r_4 = 0 → wp_X9_in (Int32.toInt64 a2) 0 4 (fun (r_6 : Int32) => ((¬ r_6 = 0 → vp_in a1 12 ∧ wp_X9_isUnder (pK (Int32.toNatClampNeg a1)) a2 (fun (r_8 : Int32) => ((r_8 = 0 → wp_X9_found mFi (-4) (fun (r_10 : Int32) (mFi_11 : Int32) => Qp r_10 mFi_11)) ∧
   (¬ r_8 = 0 → Qp a1 mFi)))) ∧
   (r_6 = 0 → wp_X9_as_b20 Qp mFi))))))
theorem inn_X9_as_8 : ∀ w ∈ u_ws RX8 TX8 5, w ∈ wsX9_as := fun _ h => List.mem_cons_of_mem _ (List.mem_append_right _ h)
theorem inn_X9_as_9 : ∀ w ∈ u_ws RX9 TX9 32, w ∈ wsX9_as := fun _ h => List.mem_cons_of_mem _ (List.mem_append_left _ (List.mem_append_right _ h))
def rm_X9_as : Room := { frames := 3, cells := 0, slots := 0, locals := 63 }
set_option maxHeartbeats 4000000 in
set_option maxRecDepth 100000 in
theorem ct_X9_as {l : Launch} {D : va_G} {cI cJ cZ cE cD cK : ClassId} {ad : Nat → Nat} {ud : Nat → Nat → Nat} {pT : Int32} {pK : Nat → Int32} {pN : Nat → Int32} {pF : Nat → Int32} {pS : Nat → Int32} {qT : Int32} {qK : Nat → Int32} {qN : Nat → Int32} {qF : Nat → Int32} {qS : Nat → Int32} {mKe : Int32} {mUn : Int32} {mFi : Int32} {mRi : Int32} {mBe : Int64} {mWc : Int32} {mAK : Int32} {mSh : Int32} {mIP : Int32} {mUS : Nat → Int32} {mWa : Nat → Int32} {mWi : Nat → Int32} {mSi : Nat → Int32} {mRo : Nat → Int64} {mSp : Nat → Int64} {mRw : Nat → Int32} {mSn : Nat → Int32} {mBg : Nat → Int32} {mLa : Nat → Int32} {mMo : Nat → Int32} {mRm : Nat → Int64} {mOw : Nat → Int64} {mGo : Nat → Int32} {mFr : Nat → Int32} {mQu : Nat → Int32} {mCh : Nat → Int64} {mPB : Nat → Int32} {mPS : Nat → Int32} {mFs : Nat → Int32} {ub : Nat → Nat} {uT : Nat → Int32} {uK : Nat → Nat → Int32} {uN : Nat → Nat → Int32} {uF : Nat → Nat → Int32} {uS : Nat → Nat → Int32}   {a1 : Int32} {a2 : Int32} {Qp : Int32 → (Int32) → Prop}   (h : wp_X9_as pT pK mFi a1 a2 Qp) : CTi l yX9_as wsX9_as rm_X9_as D (tyL cI cJ cZ cE cD cK) [.ref (ad 0), .int a1, .int a2] (WM cI cJ cZ cK ad ud pT pK pN pF pS qT qK qN qF qS mKe mUn mFi mRi mBe mWc mAK mSh mIP mUS mWa mWi mSi mRo mSp mRw mSn mBg mLa mMo mRm mOw mGo mFr mQu mCh mPB mPS mFs ub uT uK uN uF uS) (fun (r : Int32) (u : (Int32)) => Qp r u) (fun u : (Int32) => (WM cI cJ cZ cK ad ud pT pK pN pF pS qT qK qN qF qS mKe mUn u mRi mBe mWc mAK mSh mIP mUS mWa mWi mSi mRo mSp mRw mSn mBg mLa mMo mRm mOw mGo mFr mQu mCh mPB mPS mFs ub uT uK uN uF uS)) 0 0 := by
  refine ent_i (cc := cX9_as) (maxL := 3) (ret := (some .int)) (by decide) rfl (Nat.le_of_ble_eq_true rfl) ?_
  intro p e s m args below meth c A Q hQ hx hb hr hml hown hts hlk hA hAB hP hD hS ls hl
  have hown : s.vm.findClass RX9 = some m.cls := hown
  have hl : lv_has ls 3 [(0, .ref (ad 0)), (1, .int a1), (2, .int a2)] := hl
  generalize hH : s.heap = H at hP ⊢
  have hS : va_S A s.heap H [] := by rw [← hH]; exact hS
  clear hH
  generalize ([] : List Loc) = locs at hS ⊢
  have B20 : ∀ (mFi_1 : Int32), wp_X9_as_b20 Qp mFi_1 → ∀ (H : Heap) (locs : List Loc) (ls : Array Slot), va_P D vwCl (WM cI cJ cZ cK ad ud pT pK pN pF pS qT qK qN qF qS mKe mUn mFi_1 mRi mBe mWc mAK mSh mIP mUS mWa mWi mSi mRo mSp mRw mSn mBg mLa mMo mRm mOw mGo mFr mQu mCh mPB mPS mFs ub uT uK uN uF uS) H → va_D A (WM cI cJ cZ cK ad ud pT pK pN pF pS qT qK qN qF qS mKe mUn mFi_1 mRi mBe mWc mAK mSh mIP mUS mWa mWi mSi mRo mSp mRw mSn mBg mLa mMo mRm mOw mGo mFr mQu mCh mPB mPS mFs ub uT uK uN uF uS) → va_S A s.heap H locs → lv_has ls 3 [(0, .ref (ad 0))] → W p l e (headSpec wsX9_as rm_X9_as).room s m args below meth c H locs 0 0 Q (F0 m 20 ls []) := by
    intro mFi_1 h H locs ls hP hD hS hl
    refine lv_aload_n hx hb dX9_as_20 rfl (lv_at hl 0 rfl) ?_
    refine lv_iconst (v := (-1)) hx hb dX9_as_21 (by decide) ?_
    refine cl_i hD hS hA (va_runV (As := [.int (-1)]) (rest := []) ⟨hx, hb, hml, hown, hts⟩ (ct_X9_found h H.size) (cwV 1 hts gX9_as_X9_found rfl rfl rfl (by decide +kernel) ⟨Nat.le_of_ble_eq_true rfl, Nat.le_of_ble_eq_true rfl⟩) ⟨CPre.blind, va_recv hAB.1 hP (ci := 9) (q0 := 0) rfl rfl, wd_pre hAB hP hD hS hA⟩ rfl rfl hl.1 rfl (lv_room (Nat.le_of_ble_eq_true rfl)) dX9_as_22 ⟨Nat.zero_le _, Nat.zero_le _⟩) (fun r_2 mFi_3 H locs h hP hD hS => ?_)
    have hP : va_P D vwCl (WM cI cJ cZ cK ad ud pT pK pN pF pS qT qK qN qF qS mKe mUn mFi_3 mRi mBe mWc mAK mSh mIP mUS mWa mWi mSi mRo mSp mRw mSn mBg mLa mMo mRm mOw mGo mFr mQu mCh mPB mPS mFs ub uT uK uN uF uS) H := hP
    have hD : va_D A (WM cI cJ cZ cK ad ud pT pK pN pF pS qT qK qN qF qS mKe mUn mFi_3 mRi mBe mWc mAK mSh mIP mUS mWa mWi mSi mRo mSp mRw mSn mBg mLa mMo mRm mOw mGo mFr mQu mCh mPB mPS mFs ub uT uK uN uF uS) := hD
    exact rt_i (mFi_3) hQ hx hb hr hlk hP hD hS ⟨Nat.zero_le _, Nat.zero_le _⟩ dX9_as_25 h
  refine lv_aload_n hx hb dX9_as_0 rfl (lv_at hl 0 rfl) ?_
  refine lv_iload_n hx hb dX9_as_1 rfl (lv_at hl 1 rfl) ?_
  refine cl_i hD hS hA (va_runV (As := [.int a1]) (rest := []) ⟨hx, hb, hml, hown, hts⟩ (ct_X9_isTask h H.size) (cwV 1 hts gX9_as_X9_isTask rfl rfl rfl (by decide +kernel) ⟨Nat.le_of_ble_eq_true rfl, Nat.le_of_ble_eq_true rfl⟩) ⟨CPre.blind, va_recv hAB.1 hP (ci := 9) (q0 := 0) rfl rfl, wd_pre hAB hP hD hS hA⟩ rfl rfl hl.1 rfl (lv_room (Nat.le_of_ble_eq_true rfl)) dX9_as_2 ⟨Nat.zero_le _, Nat.zero_le _⟩) (fun r_4 u H locs h hP hD hS => ?_)
  refine lv_if_eq (tgt := 20) hx hb dX9_as_5 (by decide) (fun c_5 => ?_) (fun c_5 => ?_)
  · have h := h.1 c_5
    exact B20 mFi h H locs ls hP hD hS (lv_sub hl [0] rfl)
  · have h := h.2 c_5
    refine lv_iload_n hx hb dX9_as_8 rfl (lv_at hl 2 rfl) ?_
    refine lv_i2l hx hb dX9_as_9 rfl ?_
    refine lv_lconst (v := 0) hx hb dX9_as_10 (by decide) ?_
    refine lv_ldc2 (v := 4) hx hb hown (hts (.constantLong RX9 128 4) (by decide +kernel)) dX9_as_11 ?_
    refine cl_i hD hS hA (va_runS (As := [.long (Int32.toInt64 a2), .long 0, .long 4]) (rest := []) ⟨hx, hb, hml, hown, hts⟩ (ct_X9_in h H.size) (va_cwS 3 hts gX9_as_X9_in rfl rfl rfl (by decide +kernel) ⟨Nat.le_of_ble_eq_true rfl, Nat.le_of_ble_eq_true rfl⟩) ⟨CPre.blind, wd_pre hAB hP hD hS hA⟩ rfl rfl hl.1 rfl (lv_room (Nat.le_of_ble_eq_true rfl)) dX9_as_14 ⟨Nat.zero_le _, Nat.zero_le _⟩) (fun r_6 u H locs h hP hD hS => ?_)
    refine lv_if_ne (tgt := 26) hx hb dX9_as_17 (by decide) (fun c_7 => ?_) (fun c_7 => ?_)
    · have h := h.1 c_7
      refine lv_aload_n hx hb dX9_as_26 rfl (lv_at hl 0 rfl) ?_
      refine va_get (D := D) (ci := 9) (C := RX9) (T := TX9) (N := 32) hx hb hts inn_X9_as_9 hown hAB.1 hP 0 rfl rfl 0 (by decide) (hts (.fieldLink RX9 10 "BarnBenchModel" "b" "LBarnBenchModel$Book;") (by decide +kernel)) (fun _ h9 => h9) rfl dX9_as_27 ?_
      refine va_get (D := D) (ci := 8) (C := RX8) (T := TX8) (N := 5) hx hb hts inn_X9_as_8 hown hAB.1 hP 1 rfl rfl 1 (by decide) (hts (.fieldLink RX9 141 "BarnBenchModel$Book" "kinds" "[I") (by decide +kernel)) (fun _ h9 => h9) rfl dX9_as_30 ?_
      refine lv_iload_n hx hb dX9_as_33 rfl (lv_at hl 1 rfl) ?_
      refine va_iald hx hb hAB.1 hP 2 0 rfl rfl h.1 dX9_as_34 ?_
      have h := h.2
      refine lv_iload_n hx hb dX9_as_35 rfl (lv_at hl 2 rfl) ?_
      refine cl_i hD hS hA (va_runS (As := [.int (pK (Int32.toNatClampNeg a1)), .int a2]) (rest := []) ⟨hx, hb, hml, hown, hts⟩ (ct_X9_isUnder h H.size) (va_cwS 2 hts gX9_as_X9_isUnder rfl rfl rfl (by decide +kernel) ⟨Nat.le_of_ble_eq_true rfl, Nat.le_of_ble_eq_true rfl⟩) ⟨CPre.blind, wd_pre hAB hP hD hS hA⟩ rfl rfl hl.1 rfl (lv_room (Nat.le_of_ble_eq_true rfl)) dX9_as_36 ⟨Nat.zero_le _, Nat.zero_le _⟩) (fun r_8 u H locs h hP hD hS => ?_)
      refine lv_if_eq (tgt := 46) hx hb dX9_as_39 (by decide) (fun c_9 => ?_) (fun c_9 => ?_)
      · have h := h.1 c_9
        refine lv_aload_n hx hb dX9_as_46 rfl (lv_at hl 0 rfl) ?_
        refine lv_bipush (v := (-4)) hx hb dX9_as_47 (by decide) ?_
        refine cl_i hD hS hA (va_runV (As := [.int (-4)]) (rest := []) ⟨hx, hb, hml, hown, hts⟩ (ct_X9_found h H.size) (cwV 1 hts gX9_as_X9_found rfl rfl rfl (by decide +kernel) ⟨Nat.le_of_ble_eq_true rfl, Nat.le_of_ble_eq_true rfl⟩) ⟨CPre.blind, va_recv hAB.1 hP (ci := 9) (q0 := 0) rfl rfl, wd_pre hAB hP hD hS hA⟩ rfl rfl hl.1 rfl (lv_room (Nat.le_of_ble_eq_true rfl)) dX9_as_49 ⟨Nat.zero_le _, Nat.zero_le _⟩) (fun r_10 mFi_11 H locs h hP hD hS => ?_)
        have hP : va_P D vwCl (WM cI cJ cZ cK ad ud pT pK pN pF pS qT qK qN qF qS mKe mUn mFi_11 mRi mBe mWc mAK mSh mIP mUS mWa mWi mSi mRo mSp mRw mSn mBg mLa mMo mRm mOw mGo mFr mQu mCh mPB mPS mFs ub uT uK uN uF uS) H := hP
        have hD : va_D A (WM cI cJ cZ cK ad ud pT pK pN pF pS qT qK qN qF qS mKe mUn mFi_11 mRi mBe mWc mAK mSh mIP mUS mWa mWi mSi mRo mSp mRw mSn mBg mLa mMo mRm mOw mGo mFr mQu mCh mPB mPS mFs ub uT uK uN uF uS) := hD
        exact rt_i (mFi_11) hQ hx hb hr hlk hP hD hS ⟨Nat.zero_le _, Nat.zero_le _⟩ dX9_as_52 h
      · have h := h.2 c_9
        refine lv_iload_n hx hb dX9_as_42 rfl (lv_at hl 1 rfl) ?_
        refine lv_goto (tgt := 52) hx hb dX9_as_43 (by decide) ?_
        exact rt_i (mFi) hQ hx hb hr hlk hP hD hS ⟨Nat.zero_le _, Nat.zero_le _⟩ dX9_as_52 h
    · have h := h.2 c_7
      exact B20 mFi h H locs ls hP hD hS (lv_sub hl [0] rfl)
def wp_X9_ask_b20 (Qp : Int32 → (Int32) → Prop) (mFi_1 : Int32) : Prop :=
  wp_X9_found mFi_1 (-1) (fun (r_2 : Int32) (mFi_3 : Int32) => Qp r_2 mFi_3)
def wp_X9_ask (pT : Int32) (pK : Nat → Int32) (pN : Nat → Int32) (mFi : Int32) (a1 : Int32) (a2 : Int32) (Qp : Int32 → (Int32) → Prop) : Prop :=
  wp_X9_isTask pT a1 (fun (r_4 : Int32) => ((r_4 = 0 → wp_X9_ask_b20 Qp mFi) ∧
   (¬ r_4 = 0 → wp_X9_in (Int32.toInt64 a2) 0 5 (fun (r_6 : Int32) => ((¬ r_6 = 0 → ((¬ a2 = 0 → wp_X9_number pN a1 (a2 - 1) (fun (r_9 : Int32) => Qp r_9 mFi)) ∧
   (a2 = 0 → vp_in a1 12 ∧ Qp (pK (Int32.toNatClampNeg a1)) mFi))) ∧
   (r_6 = 0 → wp_X9_ask_b20 Qp mFi))))))
theorem inn_X9_ask_8 : ∀ w ∈ u_ws RX8 TX8 5, w ∈ wsX9_ask := fun _ h => List.mem_cons_of_mem _ (List.mem_append_right _ h)
theorem inn_X9_ask_9 : ∀ w ∈ u_ws RX9 TX9 32, w ∈ wsX9_ask := fun _ h => List.mem_cons_of_mem _ (List.mem_append_left _ (List.mem_append_right _ h))
def rm_X9_ask : Room := { frames := 2, cells := 0, slots := 0, locals := 46 }
set_option maxHeartbeats 4000000 in
set_option maxRecDepth 100000 in
theorem ct_X9_ask {l : Launch} {D : va_G} {cI cJ cZ cE cD cK : ClassId} {ad : Nat → Nat} {ud : Nat → Nat → Nat} {pT : Int32} {pK : Nat → Int32} {pN : Nat → Int32} {pF : Nat → Int32} {pS : Nat → Int32} {qT : Int32} {qK : Nat → Int32} {qN : Nat → Int32} {qF : Nat → Int32} {qS : Nat → Int32} {mKe : Int32} {mUn : Int32} {mFi : Int32} {mRi : Int32} {mBe : Int64} {mWc : Int32} {mAK : Int32} {mSh : Int32} {mIP : Int32} {mUS : Nat → Int32} {mWa : Nat → Int32} {mWi : Nat → Int32} {mSi : Nat → Int32} {mRo : Nat → Int64} {mSp : Nat → Int64} {mRw : Nat → Int32} {mSn : Nat → Int32} {mBg : Nat → Int32} {mLa : Nat → Int32} {mMo : Nat → Int32} {mRm : Nat → Int64} {mOw : Nat → Int64} {mGo : Nat → Int32} {mFr : Nat → Int32} {mQu : Nat → Int32} {mCh : Nat → Int64} {mPB : Nat → Int32} {mPS : Nat → Int32} {mFs : Nat → Int32} {ub : Nat → Nat} {uT : Nat → Int32} {uK : Nat → Nat → Int32} {uN : Nat → Nat → Int32} {uF : Nat → Nat → Int32} {uS : Nat → Nat → Int32}   {a1 : Int32} {a2 : Int32} {Qp : Int32 → (Int32) → Prop}   (h : wp_X9_ask pT pK pN mFi a1 a2 Qp) : CTi l yX9_ask wsX9_ask rm_X9_ask D (tyL cI cJ cZ cE cD cK) [.ref (ad 0), .int a1, .int a2] (WM cI cJ cZ cK ad ud pT pK pN pF pS qT qK qN qF qS mKe mUn mFi mRi mBe mWc mAK mSh mIP mUS mWa mWi mSi mRo mSp mRw mSn mBg mLa mMo mRm mOw mGo mFr mQu mCh mPB mPS mFs ub uT uK uN uF uS) (fun (r : Int32) (u : (Int32)) => Qp r u) (fun u : (Int32) => (WM cI cJ cZ cK ad ud pT pK pN pF pS qT qK qN qF qS mKe mUn u mRi mBe mWc mAK mSh mIP mUS mWa mWi mSi mRo mSp mRw mSn mBg mLa mMo mRm mOw mGo mFr mQu mCh mPB mPS mFs ub uT uK uN uF uS)) 0 0 := by
  refine ent_i (cc := cX9_ask) (maxL := 3) (ret := (some .int)) (by decide) rfl (Nat.le_of_ble_eq_true rfl) ?_
  intro p e s m args below meth c A Q hQ hx hb hr hml hown hts hlk hA hAB hP hD hS ls hl
  have hown : s.vm.findClass RX9 = some m.cls := hown
  have hl : lv_has ls 3 [(0, .ref (ad 0)), (1, .int a1), (2, .int a2)] := hl
  generalize hH : s.heap = H at hP ⊢
  have hS : va_S A s.heap H [] := by rw [← hH]; exact hS
  clear hH
  generalize ([] : List Loc) = locs at hS ⊢
  have B20 : ∀ (mFi_1 : Int32), wp_X9_ask_b20 Qp mFi_1 → ∀ (H : Heap) (locs : List Loc) (ls : Array Slot), va_P D vwCl (WM cI cJ cZ cK ad ud pT pK pN pF pS qT qK qN qF qS mKe mUn mFi_1 mRi mBe mWc mAK mSh mIP mUS mWa mWi mSi mRo mSp mRw mSn mBg mLa mMo mRm mOw mGo mFr mQu mCh mPB mPS mFs ub uT uK uN uF uS) H → va_D A (WM cI cJ cZ cK ad ud pT pK pN pF pS qT qK qN qF qS mKe mUn mFi_1 mRi mBe mWc mAK mSh mIP mUS mWa mWi mSi mRo mSp mRw mSn mBg mLa mMo mRm mOw mGo mFr mQu mCh mPB mPS mFs ub uT uK uN uF uS) → va_S A s.heap H locs → lv_has ls 3 [(0, .ref (ad 0))] → W p l e (headSpec wsX9_ask rm_X9_ask).room s m args below meth c H locs 0 0 Q (F0 m 20 ls []) := by
    intro mFi_1 h H locs ls hP hD hS hl
    refine lv_aload_n hx hb dX9_ask_20 rfl (lv_at hl 0 rfl) ?_
    refine lv_iconst (v := (-1)) hx hb dX9_ask_21 (by decide) ?_
    refine cl_i hD hS hA (va_runV (As := [.int (-1)]) (rest := []) ⟨hx, hb, hml, hown, hts⟩ (ct_X9_found h H.size) (cwV 1 hts gX9_ask_X9_found rfl rfl rfl (by decide +kernel) ⟨Nat.le_of_ble_eq_true rfl, Nat.le_of_ble_eq_true rfl⟩) ⟨CPre.blind, va_recv hAB.1 hP (ci := 9) (q0 := 0) rfl rfl, wd_pre hAB hP hD hS hA⟩ rfl rfl hl.1 rfl (lv_room (Nat.le_of_ble_eq_true rfl)) dX9_ask_22 ⟨Nat.zero_le _, Nat.zero_le _⟩) (fun r_2 mFi_3 H locs h hP hD hS => ?_)
    have hP : va_P D vwCl (WM cI cJ cZ cK ad ud pT pK pN pF pS qT qK qN qF qS mKe mUn mFi_3 mRi mBe mWc mAK mSh mIP mUS mWa mWi mSi mRo mSp mRw mSn mBg mLa mMo mRm mOw mGo mFr mQu mCh mPB mPS mFs ub uT uK uN uF uS) H := hP
    have hD : va_D A (WM cI cJ cZ cK ad ud pT pK pN pF pS qT qK qN qF qS mKe mUn mFi_3 mRi mBe mWc mAK mSh mIP mUS mWa mWi mSi mRo mSp mRw mSn mBg mLa mMo mRm mOw mGo mFr mQu mCh mPB mPS mFs ub uT uK uN uF uS) := hD
    exact rt_i (mFi_3) hQ hx hb hr hlk hP hD hS ⟨Nat.zero_le _, Nat.zero_le _⟩ dX9_ask_25 h
  refine lv_aload_n hx hb dX9_ask_0 rfl (lv_at hl 0 rfl) ?_
  refine lv_iload_n hx hb dX9_ask_1 rfl (lv_at hl 1 rfl) ?_
  refine cl_i hD hS hA (va_runV (As := [.int a1]) (rest := []) ⟨hx, hb, hml, hown, hts⟩ (ct_X9_isTask h H.size) (cwV 1 hts gX9_ask_X9_isTask rfl rfl rfl (by decide +kernel) ⟨Nat.le_of_ble_eq_true rfl, Nat.le_of_ble_eq_true rfl⟩) ⟨CPre.blind, va_recv hAB.1 hP (ci := 9) (q0 := 0) rfl rfl, wd_pre hAB hP hD hS hA⟩ rfl rfl hl.1 rfl (lv_room (Nat.le_of_ble_eq_true rfl)) dX9_ask_2 ⟨Nat.zero_le _, Nat.zero_le _⟩) (fun r_4 u H locs h hP hD hS => ?_)
  refine lv_if_eq (tgt := 20) hx hb dX9_ask_5 (by decide) (fun c_5 => ?_) (fun c_5 => ?_)
  · have h := h.1 c_5
    exact B20 mFi h H locs ls hP hD hS (lv_sub hl [0] rfl)
  · have h := h.2 c_5
    refine lv_iload_n hx hb dX9_ask_8 rfl (lv_at hl 2 rfl) ?_
    refine lv_i2l hx hb dX9_ask_9 rfl ?_
    refine lv_lconst (v := 0) hx hb dX9_ask_10 (by decide) ?_
    refine lv_ldc2 (v := 5) hx hb hown (hts (.constantLong RX9 167 5) (by decide +kernel)) dX9_ask_11 ?_
    refine cl_i hD hS hA (va_runS (As := [.long (Int32.toInt64 a2), .long 0, .long 5]) (rest := []) ⟨hx, hb, hml, hown, hts⟩ (ct_X9_in h H.size) (va_cwS 3 hts gX9_ask_X9_in rfl rfl rfl (by decide +kernel) ⟨Nat.le_of_ble_eq_true rfl, Nat.le_of_ble_eq_true rfl⟩) ⟨CPre.blind, wd_pre hAB hP hD hS hA⟩ rfl rfl hl.1 rfl (lv_room (Nat.le_of_ble_eq_true rfl)) dX9_ask_14 ⟨Nat.zero_le _, Nat.zero_le _⟩) (fun r_6 u H locs h hP hD hS => ?_)
    refine lv_if_ne (tgt := 26) hx hb dX9_ask_17 (by decide) (fun c_7 => ?_) (fun c_7 => ?_)
    · have h := h.1 c_7
      refine lv_iload_n hx hb dX9_ask_26 rfl (lv_at hl 2 rfl) ?_
      refine lv_if_ne (tgt := 42) hx hb dX9_ask_27 (by decide) (fun c_8 => ?_) (fun c_8 => ?_)
      · have h := h.1 c_8
        refine lv_aload_n hx hb dX9_ask_42 rfl (lv_at hl 0 rfl) ?_
        refine lv_iload_n hx hb dX9_ask_43 rfl (lv_at hl 1 rfl) ?_
        refine lv_iload_n hx hb dX9_ask_44 rfl (lv_at hl 2 rfl) ?_
        refine lv_iconst (v := 1) hx hb dX9_ask_45 (by decide) ?_
        refine lv_isub hx hb dX9_ask_46 ?_
        refine cl_i hD hS hA (va_runV (As := [.int a1, .int (a2 - 1)]) (rest := []) ⟨hx, hb, hml, hown, hts⟩ (ct_X9_number h H.size) (cwV 2 hts gX9_ask_X9_number rfl rfl rfl (by decide +kernel) ⟨Nat.le_of_ble_eq_true rfl, Nat.le_of_ble_eq_true rfl⟩) ⟨CPre.blind, va_recv hAB.1 hP (ci := 9) (q0 := 0) rfl rfl, wd_pre hAB hP hD hS hA⟩ rfl rfl hl.1 rfl (lv_room (Nat.le_of_ble_eq_true rfl)) dX9_ask_47 ⟨Nat.zero_le _, Nat.zero_le _⟩) (fun r_9 u H locs h hP hD hS => ?_)
        exact rt_i (mFi) hQ hx hb hr hlk hP hD hS ⟨Nat.zero_le _, Nat.zero_le _⟩ dX9_ask_50 h
      · have h := h.2 c_8
        refine lv_aload_n hx hb dX9_ask_30 rfl (lv_at hl 0 rfl) ?_
        refine va_get (D := D) (ci := 9) (C := RX9) (T := TX9) (N := 32) hx hb hts inn_X9_ask_9 hown hAB.1 hP 0 rfl rfl 0 (by decide) (hts (.fieldLink RX9 10 "BarnBenchModel" "b" "LBarnBenchModel$Book;") (by decide +kernel)) (fun _ h9 => h9) rfl dX9_ask_31 ?_
        refine va_get (D := D) (ci := 8) (C := RX8) (T := TX8) (N := 5) hx hb hts inn_X9_ask_8 hown hAB.1 hP 1 rfl rfl 1 (by decide) (hts (.fieldLink RX9 141 "BarnBenchModel$Book" "kinds" "[I") (by decide +kernel)) (fun _ h9 => h9) rfl dX9_ask_34 ?_
        refine lv_iload_n hx hb dX9_ask_37 rfl (lv_at hl 1 rfl) ?_
        refine va_iald hx hb hAB.1 hP 2 0 rfl rfl h.1 dX9_ask_38 ?_
        have h := h.2
        refine lv_goto (tgt := 50) hx hb dX9_ask_39 (by decide) ?_
        exact rt_i (mFi) hQ hx hb hr hlk hP hD hS ⟨Nat.zero_le _, Nat.zero_le _⟩ dX9_ask_50 h
    · have h := h.2 c_7
      exact B20 mFi h H locs ls hP hD hS (lv_sub hl [0] rfl)
def wp_X9_follows_b16 (Qp : Int32 → (Int32) → Prop) (mFi_1 : Int32) : Prop :=
  wp_X9_found mFi_1 (-1) (fun (r_2 : Int32) (mFi_3 : Int32) => Qp r_2 mFi_3)
def wp_X9_follows (pT : Int32) (pF : Nat → Int32) (mFi : Int32) (a1 : Int32) (a2 : Int32) (Qp : Int32 → (Int32) → Prop) : Prop :=
  wp_X9_isTask pT a1 (fun (r_4 : Int32) => ((r_4 = 0 → wp_X9_follows_b16 Qp mFi) ∧
   (¬ r_4 = 0 → wp_X9_isTask pT a2 (fun (r_6 : Int32) => ((¬ r_6 = 0 → vp_in ((12 * a1) + a2) 144 ∧ (((pF (Int32.toNatClampNeg ((12 * a1) + a2))) = 0 → wp_X9_all pT pF a1 (fun (r_9 : Int32) => ((¬ ((r_9 >>> (a2 &&& 31)) &&& 1) = 1 → Qp 0 mFi) ∧
   (((r_9 >>> (a2 &&& 31)) &&& 1) = 1 → Qp 2 mFi)))) ∧
   (¬ (pF (Int32.toNatClampNeg ((12 * a1) + a2))) = 0 → Qp 1 mFi))) ∧
   (r_6 = 0 → wp_X9_follows_b16 Qp mFi))))))
theorem inn_X9_follows_8 : ∀ w ∈ u_ws RX8 TX8 5, w ∈ wsX9_follows := fun _ h => List.mem_cons_of_mem _ (List.mem_append_right _ h)
theorem inn_X9_follows_9 : ∀ w ∈ u_ws RX9 TX9 32, w ∈ wsX9_follows := fun _ h => List.mem_cons_of_mem _ (List.mem_append_left _ (List.mem_append_right _ h))
def rm_X9_follows : Room := { frames := 2, cells := 0, slots := 0, locals := 46 }
set_option maxHeartbeats 4000000 in
set_option maxRecDepth 100000 in
theorem ct_X9_follows {l : Launch} {D : va_G} {cI cJ cZ cE cD cK : ClassId} {ad : Nat → Nat} {ud : Nat → Nat → Nat} {pT : Int32} {pK : Nat → Int32} {pN : Nat → Int32} {pF : Nat → Int32} {pS : Nat → Int32} {qT : Int32} {qK : Nat → Int32} {qN : Nat → Int32} {qF : Nat → Int32} {qS : Nat → Int32} {mKe : Int32} {mUn : Int32} {mFi : Int32} {mRi : Int32} {mBe : Int64} {mWc : Int32} {mAK : Int32} {mSh : Int32} {mIP : Int32} {mUS : Nat → Int32} {mWa : Nat → Int32} {mWi : Nat → Int32} {mSi : Nat → Int32} {mRo : Nat → Int64} {mSp : Nat → Int64} {mRw : Nat → Int32} {mSn : Nat → Int32} {mBg : Nat → Int32} {mLa : Nat → Int32} {mMo : Nat → Int32} {mRm : Nat → Int64} {mOw : Nat → Int64} {mGo : Nat → Int32} {mFr : Nat → Int32} {mQu : Nat → Int32} {mCh : Nat → Int64} {mPB : Nat → Int32} {mPS : Nat → Int32} {mFs : Nat → Int32} {ub : Nat → Nat} {uT : Nat → Int32} {uK : Nat → Nat → Int32} {uN : Nat → Nat → Int32} {uF : Nat → Nat → Int32} {uS : Nat → Nat → Int32}   {a1 : Int32} {a2 : Int32} {Qp : Int32 → (Int32) → Prop}   (h : wp_X9_follows pT pF mFi a1 a2 Qp) : CTi l yX9_follows wsX9_follows rm_X9_follows D (tyL cI cJ cZ cE cD cK) [.ref (ad 0), .int a1, .int a2] (WM cI cJ cZ cK ad ud pT pK pN pF pS qT qK qN qF qS mKe mUn mFi mRi mBe mWc mAK mSh mIP mUS mWa mWi mSi mRo mSp mRw mSn mBg mLa mMo mRm mOw mGo mFr mQu mCh mPB mPS mFs ub uT uK uN uF uS) (fun (r : Int32) (u : (Int32)) => Qp r u) (fun u : (Int32) => (WM cI cJ cZ cK ad ud pT pK pN pF pS qT qK qN qF qS mKe mUn u mRi mBe mWc mAK mSh mIP mUS mWa mWi mSi mRo mSp mRw mSn mBg mLa mMo mRm mOw mGo mFr mQu mCh mPB mPS mFs ub uT uK uN uF uS)) 0 0 := by
  refine ent_i (cc := cX9_follows) (maxL := 3) (ret := (some .int)) (by decide) rfl (Nat.le_of_ble_eq_true rfl) ?_
  intro p e s m args below meth c A Q hQ hx hb hr hml hown hts hlk hA hAB hP hD hS ls hl
  have hown : s.vm.findClass RX9 = some m.cls := hown
  have hl : lv_has ls 3 [(0, .ref (ad 0)), (1, .int a1), (2, .int a2)] := hl
  generalize hH : s.heap = H at hP ⊢
  have hS : va_S A s.heap H [] := by rw [← hH]; exact hS
  clear hH
  generalize ([] : List Loc) = locs at hS ⊢
  have B16 : ∀ (mFi_1 : Int32), wp_X9_follows_b16 Qp mFi_1 → ∀ (H : Heap) (locs : List Loc) (ls : Array Slot), va_P D vwCl (WM cI cJ cZ cK ad ud pT pK pN pF pS qT qK qN qF qS mKe mUn mFi_1 mRi mBe mWc mAK mSh mIP mUS mWa mWi mSi mRo mSp mRw mSn mBg mLa mMo mRm mOw mGo mFr mQu mCh mPB mPS mFs ub uT uK uN uF uS) H → va_D A (WM cI cJ cZ cK ad ud pT pK pN pF pS qT qK qN qF qS mKe mUn mFi_1 mRi mBe mWc mAK mSh mIP mUS mWa mWi mSi mRo mSp mRw mSn mBg mLa mMo mRm mOw mGo mFr mQu mCh mPB mPS mFs ub uT uK uN uF uS) → va_S A s.heap H locs → lv_has ls 3 [(0, .ref (ad 0))] → W p l e (headSpec wsX9_follows rm_X9_follows).room s m args below meth c H locs 0 0 Q (F0 m 16 ls []) := by
    intro mFi_1 h H locs ls hP hD hS hl
    refine lv_aload_n hx hb dX9_follows_16 rfl (lv_at hl 0 rfl) ?_
    refine lv_iconst (v := (-1)) hx hb dX9_follows_17 (by decide) ?_
    refine cl_i hD hS hA (va_runV (As := [.int (-1)]) (rest := []) ⟨hx, hb, hml, hown, hts⟩ (ct_X9_found h H.size) (cwV 1 hts gX9_follows_X9_found rfl rfl rfl (by decide +kernel) ⟨Nat.le_of_ble_eq_true rfl, Nat.le_of_ble_eq_true rfl⟩) ⟨CPre.blind, va_recv hAB.1 hP (ci := 9) (q0 := 0) rfl rfl, wd_pre hAB hP hD hS hA⟩ rfl rfl hl.1 rfl (lv_room (Nat.le_of_ble_eq_true rfl)) dX9_follows_18 ⟨Nat.zero_le _, Nat.zero_le _⟩) (fun r_2 mFi_3 H locs h hP hD hS => ?_)
    have hP : va_P D vwCl (WM cI cJ cZ cK ad ud pT pK pN pF pS qT qK qN qF qS mKe mUn mFi_3 mRi mBe mWc mAK mSh mIP mUS mWa mWi mSi mRo mSp mRw mSn mBg mLa mMo mRm mOw mGo mFr mQu mCh mPB mPS mFs ub uT uK uN uF uS) H := hP
    have hD : va_D A (WM cI cJ cZ cK ad ud pT pK pN pF pS qT qK qN qF qS mKe mUn mFi_3 mRi mBe mWc mAK mSh mIP mUS mWa mWi mSi mRo mSp mRw mSn mBg mLa mMo mRm mOw mGo mFr mQu mCh mPB mPS mFs ub uT uK uN uF uS) := hD
    exact rt_i (mFi_3) hQ hx hb hr hlk hP hD hS ⟨Nat.zero_le _, Nat.zero_le _⟩ dX9_follows_21 h
  refine lv_aload_n hx hb dX9_follows_0 rfl (lv_at hl 0 rfl) ?_
  refine lv_iload_n hx hb dX9_follows_1 rfl (lv_at hl 1 rfl) ?_
  refine cl_i hD hS hA (va_runV (As := [.int a1]) (rest := []) ⟨hx, hb, hml, hown, hts⟩ (ct_X9_isTask h H.size) (cwV 1 hts gX9_follows_X9_isTask rfl rfl rfl (by decide +kernel) ⟨Nat.le_of_ble_eq_true rfl, Nat.le_of_ble_eq_true rfl⟩) ⟨CPre.blind, va_recv hAB.1 hP (ci := 9) (q0 := 0) rfl rfl, wd_pre hAB hP hD hS hA⟩ rfl rfl hl.1 rfl (lv_room (Nat.le_of_ble_eq_true rfl)) dX9_follows_2 ⟨Nat.zero_le _, Nat.zero_le _⟩) (fun r_4 u H locs h hP hD hS => ?_)
  refine lv_if_eq (tgt := 16) hx hb dX9_follows_5 (by decide) (fun c_5 => ?_) (fun c_5 => ?_)
  · have h := h.1 c_5
    exact B16 mFi h H locs ls hP hD hS (lv_sub hl [0] rfl)
  · have h := h.2 c_5
    refine lv_aload_n hx hb dX9_follows_8 rfl (lv_at hl 0 rfl) ?_
    refine lv_iload_n hx hb dX9_follows_9 rfl (lv_at hl 2 rfl) ?_
    refine cl_i hD hS hA (va_runV (As := [.int a2]) (rest := []) ⟨hx, hb, hml, hown, hts⟩ (ct_X9_isTask h H.size) (cwV 1 hts gX9_follows_X9_isTask rfl rfl rfl (by decide +kernel) ⟨Nat.le_of_ble_eq_true rfl, Nat.le_of_ble_eq_true rfl⟩) ⟨CPre.blind, va_recv hAB.1 hP (ci := 9) (q0 := 0) rfl rfl, wd_pre hAB hP hD hS hA⟩ rfl rfl hl.1 rfl (lv_room (Nat.le_of_ble_eq_true rfl)) dX9_follows_10 ⟨Nat.zero_le _, Nat.zero_le _⟩) (fun r_6 u H locs h hP hD hS => ?_)
    refine lv_if_ne (tgt := 22) hx hb dX9_follows_13 (by decide) (fun c_7 => ?_) (fun c_7 => ?_)
    · have h := h.1 c_7
      refine lv_aload_n hx hb dX9_follows_22 rfl (lv_at hl 0 rfl) ?_
      refine va_get (D := D) (ci := 9) (C := RX9) (T := TX9) (N := 32) hx hb hts inn_X9_follows_9 hown hAB.1 hP 0 rfl rfl 0 (by decide) (hts (.fieldLink RX9 10 "BarnBenchModel" "b" "LBarnBenchModel$Book;") (by decide +kernel)) (fun _ h9 => h9) rfl dX9_follows_23 ?_
      refine va_get (D := D) (ci := 8) (C := RX8) (T := TX8) (N := 5) hx hb hts inn_X9_follows_8 hown hAB.1 hP 1 rfl rfl 3 (by decide) (hts (.fieldLink RX9 147 "BarnBenchModel$Book" "follows" "[Z") (by decide +kernel)) (fun _ h9 => h9) rfl dX9_follows_26 ?_
      refine lv_bipush (v := 12) hx hb dX9_follows_29 (by decide) ?_
      refine lv_iload_n hx hb dX9_follows_31 rfl (lv_at hl 1 rfl) ?_
      refine lv_imul hx hb dX9_follows_32 ?_
      refine lv_iload_n hx hb dX9_follows_33 rfl (lv_at hl 2 rfl) ?_
      refine lv_iadd hx hb dX9_follows_34 ?_
      refine va_zald hx hb hAB.1 hP 4 2 rfl rfl h.1 dX9_follows_35 ?_
      have h := h.2
      refine lv_if_eq (tgt := 43) hx hb dX9_follows_36 (by decide) (fun c_8 => ?_) (fun c_8 => ?_)
      · have h := h.1 c_8
        refine lv_aload_n hx hb dX9_follows_43 rfl (lv_at hl 0 rfl) ?_
        refine lv_iload_n hx hb dX9_follows_44 rfl (lv_at hl 1 rfl) ?_
        refine cl_i hD hS hA (va_runV (As := [.int a1]) (rest := []) ⟨hx, hb, hml, hown, hts⟩ (ct_X9_all h H.size) (cwV 1 hts gX9_follows_X9_all rfl rfl rfl (by decide +kernel) ⟨Nat.le_of_ble_eq_true rfl, Nat.le_of_ble_eq_true rfl⟩) ⟨CPre.blind, va_recv hAB.1 hP (ci := 9) (q0 := 0) rfl rfl, wd_pre hAB hP hD hS hA⟩ rfl rfl hl.1 rfl (lv_room (Nat.le_of_ble_eq_true rfl)) dX9_follows_45 ⟨Nat.zero_le _, Nat.zero_le _⟩) (fun r_9 u H locs h hP hD hS => ?_)
        refine lv_iload_n hx hb dX9_follows_48 rfl (lv_at hl 2 rfl) ?_
        refine lv_ishr hx hb dX9_follows_49 ?_
        refine lv_iconst (v := 1) hx hb dX9_follows_50 (by decide) ?_
        refine lv_iand hx hb dX9_follows_51 ?_
        refine lv_iconst (v := 1) hx hb dX9_follows_52 (by decide) ?_
        refine lv_icmp_ne (tgt := 60) hx hb dX9_follows_53 (by decide) (fun c_10 => ?_) (fun c_10 => ?_)
        · have h := h.1 c_10
          refine lv_iconst (v := 0) hx hb dX9_follows_60 (by decide) ?_
          exact rt_i (mFi) hQ hx hb hr hlk hP hD hS ⟨Nat.zero_le _, Nat.zero_le _⟩ dX9_follows_61 h
        · have h := h.2 c_10
          refine lv_iconst (v := 2) hx hb dX9_follows_56 (by decide) ?_
          refine lv_goto (tgt := 61) hx hb dX9_follows_57 (by decide) ?_
          exact rt_i (mFi) hQ hx hb hr hlk hP hD hS ⟨Nat.zero_le _, Nat.zero_le _⟩ dX9_follows_61 h
      · have h := h.2 c_8
        refine lv_iconst (v := 1) hx hb dX9_follows_39 (by decide) ?_
        refine lv_goto (tgt := 61) hx hb dX9_follows_40 (by decide) ?_
        exact rt_i (mFi) hQ hx hb hr hlk hP hD hS ⟨Nat.zero_le _, Nat.zero_le _⟩ dX9_follows_61 h
    · have h := h.2 c_7
      exact B16 mFi h H locs ls hP hD hS (lv_sub hl [0] rfl)
