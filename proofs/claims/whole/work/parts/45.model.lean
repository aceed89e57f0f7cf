def wp_X9_cheapAt (pT : Int32) (pK : Nat → Int32) (pN : Nat → Int32) (pF : Nat → Int32) (mAK : Int32) (mSh : Int32) (mRw : Nat → Int32) (mSn : Nat → Int32) (mBg : Nat → Int32) (mMo : Nat → Int32) (mRm : Nat → Int64) (mOw : Nat → Int64) (mGo : Nat → Int32) (mFr : Nat → Int32) (mQu : Nat → Int32) (mCh : Nat → Int64) (a1 : Int64) (Qp : Int64 → (Int32) → (Int32) → (Nat → Int32) → (Nat → Int32) → (Nat → Int32) → (Nat → Int32) → (Nat → Int64) → (Nat → Int64) → (Nat → Int32) → (Nat → Int32) → (Nat → Int32) → (Nat → Int64) → Prop) : Prop :=
  wp_X9_know pT pK pN pF mAK mSh mRw mSn mBg mMo mRm mOw mGo mFr mQu mCh (fun (mAK_1 : Int32) (mSh_2 : Int32) (mRw_3 : Nat → Int32) (mSn_4 : Nat → Int32) (mBg_5 : Nat → Int32) (mMo_6 : Nat → Int32) (mRm_7 : Nat → Int64) (mOw_8 : Nat → Int64) (mGo_9 : Nat → Int32) (mFr_10 : Nat → Int32) (mQu_11 : Nat → Int32) (mCh_12 : Nat → Int64) => vp_in (Int64.toInt32 (if 720 < a1 then 720 else a1)) 721 ∧ Qp (mCh_12 (Int32.toNatClampNeg (Int64.toInt32 (if 720 < a1 then 720 else a1)))) mAK_1 mSh_2 mRw_3 mSn_4 mBg_5 mMo_6 mRm_7 mOw_8 mGo_9 mFr_10 mQu_11 mCh_12)
theorem inn_X9_cheapAt_9 : ∀ w ∈ u_ws RX9 TX9 32, w ∈ wsX9_cheapAt := fun _ h => List.mem_cons_of_mem _ (List.mem_append_left _ (List.mem_append_right _ h))
def rm_X9_cheapAt : Room := { frames := 5, cells := 0, slots := 0, locals := 116 }
set_option maxHeartbeats 4000000 in
set_option maxRecDepth 100000 in
theorem ct_X9_cheapAt {l : Launch} {D : va_G} {cI cJ cZ cE cD cK : ClassId} {ad : Nat → Nat} {ud : Nat → Nat → Nat} {pT : Int32} {pK : Nat → Int32} {pN : Nat → Int32} {pF : Nat → Int32} {pS : Nat → Int32} {qT : Int32} {qK : Nat → Int32} {qN : Nat → Int32} {qF : Nat → Int32} {qS : Nat → Int32} {mKe : Int32} {mUn : Int32} {mFi : Int32} {mRi : Int32} {mBe : Int64} {mWc : Int32} {mAK : Int32} {mSh : Int32} {mIP : Int32} {mUS : Nat → Int32} {mWa : Nat → Int32} {mWi : Nat → Int32} {mSi : Nat → Int32} {mRo : Nat → Int64} {mSp : Nat → Int64} {mRw : Nat → Int32} {mSn : Nat → Int32} {mBg : Nat → Int32} {mLa : Nat → Int32} {mMo : Nat → Int32} {mRm : Nat → Int64} {mOw : Nat → Int64} {mGo : Nat → Int32} {mFr : Nat → Int32} {mQu : Nat → Int32} {mCh : Nat → Int64} {mPB : Nat → Int32} {mPS : Nat → Int32} {mFs : Nat → Int32} {ub : Nat → Nat} {uT : Nat → Int32} {uK : Nat → Nat → Int32} {uN : Nat → Nat → Int32} {uF : Nat → Nat → Int32} {uS : Nat → Nat → Int32}   {a1 : Int64} {Qp : Int64 → (Int32) → (Int32) → (Nat → Int32) → (Nat → Int32) → (Nat → Int32) → (Nat → Int32) → (Nat → Int64) → (Nat → Int64) → (Nat → Int32) → (Nat → Int32) → (Nat → Int32) → (Nat → Int64) → Prop}   (h : wp_X9_cheapAt pT pK pN pF mAK mSh mRw mSn mBg mMo mRm mOw mGo mFr mQu mCh a1 Qp) : CTl l yX9_cheapAt wsX9_cheapAt rm_X9_cheapAt D (tyL cI cJ cZ cE cD cK) [.ref (ad 0), .long a1] (WM cI cJ cZ cK ad ud pT pK pN pF pS qT qK qN qF qS mKe mUn mFi mRi mBe mWc mAK mSh mIP mUS mWa mWi mSi mRo mSp mRw mSn mBg mLa mMo mRm mOw mGo mFr mQu mCh mPB mPS mFs ub uT uK uN uF uS) (fun (r : Int64) (u : (Int32) × (Int32) × (Nat → Int32) × (Nat → Int32) × (Nat → Int32) × (Nat → Int32) × (Nat → Int64) × (Nat → Int64) × (Nat → Int32) × (Nat → Int32) × (Nat → Int32) × (Nat → Int64)) => Qp r u.1 u.2.1 u.2.2.1 u.2.2.2.1 u.2.2.2.2.1 u.2.2.2.2.2.1 u.2.2.2.2.2.2.1 u.2.2.2.2.2.2.2.1 u.2.2.2.2.2.2.2.2.1 u.2.2.2.2.2.2.2.2.2.1 u.2.2.2.2.2.2.2.2.2.2.1 u.2.2.2.2.2.2.2.2.2.2.2) (fun u : (Int32) × (Int32) × (Nat → Int32) × (Nat → Int32) × (Nat → Int32) × (Nat → Int32) × (Nat → Int64) × (Nat → Int64) × (Nat → Int32) × (Nat → Int32) × (Nat → Int32) × (Nat → Int64) => (WM cI cJ cZ cK ad ud pT pK pN pF pS qT qK qN qF qS mKe mUn mFi mRi mBe mWc u.1 u.2.1 mIP mUS mWa mWi mSi mRo mSp u.2.2.1 u.2.2.2.1 u.2.2.2.2.1 mLa u.2.2.2.2.2.1 u.2.2.2.2.2.2.1 u.2.2.2.2.2.2.2.1 u.2.2.2.2.2.2.2.2.1 u.2.2.2.2.2.2.2.2.2.1 u.2.2.2.2.2.2.2.2.2.2.1 u.2.2.2.2.2.2.2.2.2.2.2 mPB mPS mFs ub uT uK uN uF uS)) 0 0 := by
  refine ent_l (cc := cX9_cheapAt) (maxL := 3) (ret := (some .long)) (by decide) rfl (Nat.le_of_ble_eq_true rfl) ?_
  intro p e s m args below meth c A Q hQ hx hb hr hml hown hts hlk hA hAB hP hD hS ls hl
  have hown : s.vm.findClass RX9 = some m.cls := hown
  have hl : lv_has ls 3 [(0, .ref (ad 0)), (1, .long a1)] := hl
  generalize hH : s.heap = H at hP ⊢
  have hS : va_S A s.heap H [] := by rw [← hH]; exact hS
  clear hH
  generalize ([] : List Loc) = locs at hS ⊢
  refine lv_aload_n hx hb dX9_cheapAt_0 rfl (lv_at hl 0 rfl) ?_
  refine cl_v hD hS hA (va_runV (As := []) (rest := []) ⟨hx, hb, hml, hown, hts⟩ (ct_X9_know h H.size) (cwV 0 hts gX9_cheapAt_X9_know rfl rfl rfl (by decide +kernel) ⟨Nat.le_of_ble_eq_true rfl, Nat.le_of_ble_eq_true rfl⟩) ⟨CPre.blind, va_recv hAB.1 hP (ci := 9) (q0 := 0) rfl rfl, wd_pre hAB hP hD hS hA⟩ rfl rfl hl.1 rfl (lv_room (Nat.le_of_ble_eq_true rfl)) dX9_cheapAt_1 ⟨Nat.zero_le _, Nat.zero_le _⟩) (fun u H locs h hP hD hS => ?_)
  obtain ⟨mAK_1, mSh_2, mRw_3, mSn_4, mBg_5, mMo_6, mRm_7, mOw_8, mGo_9, mFr_10, mQu_11, mCh_12⟩ := u
  have hP : va_P D vwCl (WM cI cJ cZ cK ad ud pT pK pN pF pS qT qK qN qF qS mKe mUn mFi mRi mBe mWc mAK_1 mSh_2 mIP mUS mWa mWi mSi mRo mSp mRw_3 mSn_4 mBg_5 mLa mMo_6 mRm_7 mOw_8 mGo_9 mFr_10 mQu_11 mCh_12 mPB mPS mFs ub uT uK uN uF uS) H := hP
  have hD : va_D A (WM cI cJ cZ cK ad ud pT pK pN pF pS qT qK qN qF qS mKe mUn mFi mRi mBe mWc mAK_1 mSh_2 mIP mUS mWa mWi mSi mRo mSp mRw_3 mSn_4 mBg_5 mLa mMo_6 mRm_7 mOw_8 mGo_9 mFr_10 mQu_11 mCh_12 mPB mPS mFs ub uT uK uN uF uS) := hD
  refine lv_aload_n hx hb dX9_cheapAt_4 rfl (lv_at hl 0 rfl) ?_
  refine va_get (D := D) (ci := 9) (C := RX9) (T := TX9) (N := 32) hx hb hts inn_X9_cheapAt_9 hown hAB.1 hP 0 rfl rfl 27 (by decide) (hts (.fieldLink RX9 78 "BarnBenchModel" "cheap" "[J") (by decide +kernel)) (fun _ h9 => h9) rfl dX9_cheapAt_5 ?_
  refine lv_lload_n hx hb dX9_cheapAt_8 rfl (lv_at hl 1 rfl) ?_
  refine lv_ldc2 (v := 720) hx hb hown (hts (.constantLong RX9 254 720) (by decide +kernel)) dX9_cheapAt_9 ?_
  refine va_mmin_long (rest := [.ref (ad 28)]) hx hb (by rw [hml]; exact hl.1.symm) hown (hts (.methodLink RX9 228 Lib.MathLoose.min_long.x) (by decide +kernel)) (hts (.static Lib.MathLoose.min_long.x) (by decide +kernel)) (hts (.initialized "java/lang/Math") (by decide +kernel)) (hts (.code Lib.MathLoose.min_long.x Lib.MathLoose.min_long.code 4 (some .long)) (by decide +kernel)) (Nat.le_of_ble_eq_true rfl) (Nat.le_of_ble_eq_true rfl) (Nat.zero_le _) (Nat.zero_le _) dX9_cheapAt_12 ?_
  refine lv_l2i hx hb dX9_cheapAt_15 rfl ?_
  refine va_lald hx hb hAB.1 hP 28 1 rfl rfl h.1 dX9_cheapAt_16 ?_
  have h := h.2
  exact rt_l (mAK_1, mSh_2, mRw_3, mSn_4, mBg_5, mMo_6, mRm_7, mOw_8, mGo_9, mFr_10, mQu_11, mCh_12) hQ hx hb hr hlk hP hD hS ⟨Nat.zero_le _, Nat.zero_le _⟩ dX9_cheapAt_17 h
def wp_X9_noLength (pT : Int32) (pK : Nat → Int32) (pN : Nat → Int32) (pF : Nat → Int32) (mAK : Int32) (mSh : Int32) (mRw : Nat → Int32) (mSn : Nat → Int32) (mBg : Nat → Int32) (mMo : Nat → Int32) (mRm : Nat → Int64) (mOw : Nat → Int64) (mGo : Nat → Int32) (mFr : Nat → Int32) (mQu : Nat → Int32) (mCh : Nat → Int64) (a1 : Int32) (Qp : Int32 → (Int32) → (Int32) → (Nat → Int32) → (Nat → Int32) → (Nat → Int32) → (Nat → Int32) → (Nat → Int64) → (Nat → Int64) → (Nat → Int32) → (Nat → Int32) → (Nat → Int32) → (Nat → Int64) → Prop) : Prop :=
  wp_X9_know pT pK pN pF mAK mSh mRw mSn mBg mMo mRm mOw mGo mFr mQu mCh (fun (mAK_1 : Int32) (mSh_2 : Int32) (mRw_3 : Nat → Int32) (mSn_4 : Nat → Int32) (mBg_5 : Nat → Int32) (mMo_6 : Nat → Int32) (mRm_7 : Nat → Int64) (mOw_8 : Nat → Int64) (mGo_9 : Nat → Int32) (mFr_10 : Nat → Int32) (mQu_11 : Nat → Int32) (mCh_12 : Nat → Int64) => ((mSh_2 ≤ a1 → ((a1 ≤ 1000 → Qp 0 mAK_1 mSh_2 mRw_3 mSn_4 mBg_5 mMo_6 mRm_7 mOw_8 mGo_9 mFr_10 mQu_11 mCh_12) ∧
   (¬ a1 ≤ 1000 → Qp (-1) mAK_1 mSh_2 mRw_3 mSn_4 mBg_5 mMo_6 mRm_7 mOw_8 mGo_9 mFr_10 mQu_11 mCh_12))) ∧
   (¬ mSh_2 ≤ a1 → Qp (-8) mAK_1 mSh_2 mRw_3 mSn_4 mBg_5 mMo_6 mRm_7 mOw_8 mGo_9 mFr_10 mQu_11 mCh_12)))
theorem inn_X9_noLength_9 : ∀ w ∈ u_ws RX9 TX9 32, w ∈ wsX9_noLength := fun _ h => List.mem_cons_of_mem _ (List.mem_append_left _ (List.mem_append_right _ h))
def rm_X9_noLength : Room := { frames := 5, cells := 0, slots := 0, locals := 116 }
set_option maxHeartbeats 4000000 in
set_option maxRecDepth 100000 in
theorem ct_X9_noLength {l : Launch} {D : va_G} {cI cJ cZ cE cD cK : ClassId} {ad : Nat → Nat} {ud : Nat → Nat → Nat} {pT : Int32} {pK : Nat → Int32} {pN : Nat → Int32} {pF : Nat → Int32} {pS : Nat → Int32} {qT : Int32} {qK : Nat → Int32} {qN : Nat → Int32} {qF : Nat → Int32} {qS : Nat → Int32} {mKe : Int32} {mUn : Int32} {mFi : Int32} {mRi : Int32} {mBe : Int64} {mWc : Int32} {mAK : Int32} {mSh : Int32} {mIP : Int32} {mUS : Nat → Int32} {mWa : Nat → Int32} {mWi : Nat → Int32} {mSi : Nat → Int32} {mRo : Nat → Int64} {mSp : Nat → Int64} {mRw : Nat → Int32} {mSn : Nat → Int32} {mBg : Nat → Int32} {mLa : Nat → Int32} {mMo : Nat → Int32} {mRm : Nat → Int64} {mOw : Nat → Int64} {mGo : Nat → Int32} {mFr : Nat → Int32} {mQu : Nat → Int32} {mCh : Nat → Int64} {mPB : Nat → Int32} {mPS : Nat → Int32} {mFs : Nat → Int32} {ub : Nat → Nat} {uT : Nat → Int32} {uK : Nat → Nat → Int32} {uN : Nat → Nat → Int32} {uF : Nat → Nat → Int32} {uS : Nat → Nat → Int32}   {a1 : Int32} {Qp : Int32 → (Int32) → (Int32) → (Nat → Int32) → (Nat → Int32) → (Nat → Int32) → (Nat → Int32) → (Nat → Int64) → (Nat → Int64) → (Nat → Int32) → (Nat → Int32) → (Nat → Int32) → (Nat → Int64) → Prop}   (h : wp_X9_noLength pT pK pN pF mAK mSh mRw mSn mBg mMo mRm mOw mGo mFr mQu mCh a1 Qp) : CTi l yX9_noLength wsX9_noLength rm_X9_noLength D (tyL cI cJ cZ cE cD cK) [.ref (ad 0), .int a1] (WM cI cJ cZ cK ad ud pT pK pN pF pS qT qK qN qF qS mKe mUn mFi mRi mBe mWc mAK mSh mIP mUS mWa mWi mSi mRo mSp mRw mSn mBg mLa mMo mRm mOw mGo mFr mQu mCh mPB mPS mFs ub uT uK uN uF uS) (fun (r : Int32) (u : (Int32) × (Int32) × (Nat → Int32) × (Nat → Int32) × (Nat → Int32) × (Nat → Int32) × (Nat → Int64) × (Nat → Int64) × (Nat → Int32) × (Nat → Int32) × (Nat → Int32) × (Nat → Int64)) => Qp r u.1 u.2.1 u.2.2.1 u.2.2.2.1 u.2.2.2.2.1 u.2.2.2.2.2.1 u.2.2.2.2.2.2.1 u.2.2.2.2.2.2.2.1 u.2.2.2.2.2.2.2.2.1 u.2.2.2.2.2.2.2.2.2.1 u.2.2.2.2.2.2.2.2.2.2.1 u.2.2.2.2.2.2.2.2.2.2.2) (fun u : (Int32) × (Int32) × (Nat → Int32) × (Nat → Int32) × (Nat → Int32) × (Nat → Int32) × (Nat → Int64) × (Nat → Int64) × (Nat → Int32) × (Nat → Int32) × (Nat → Int32) × (Nat → Int64) => (WM cI cJ cZ cK ad ud pT pK pN pF pS qT qK qN qF qS mKe mUn mFi mRi mBe mWc u.1 u.2.1 mIP mUS mWa mWi mSi mRo mSp u.2.2.1 u.2.2.2.1 u.2.2.2.2.1 mLa u.2.2.2.2.2.1 u.2.2.2.2.2.2.1 u.2.2.2.2.2.2.2.1 u.2.2.2.2.2.2.2.2.1 u.2.2.2.2.2.2.2.2.2.1 u.2.2.2.2.2.2.2.2.2.2.1 u.2.2.2.2.2.2.2.2.2.2.2 mPB mPS mFs ub uT uK uN uF uS)) 0 0 := by
  refine ent_i (cc := cX9_noLength) (maxL := 2) (ret := (some .int)) (by decide) rfl (Nat.le_of_ble_eq_true rfl) ?_
  intro p e s m args below meth c A Q hQ hx hb hr hml hown hts hlk hA hAB hP hD hS ls hl
  have hown : s.vm.findClass RX9 = some m.cls := hown
  have hl : lv_has ls 2 [(0, .ref (ad 0)), (1, .int a1)] := hl
  generalize hH : s.heap = H at hP ⊢
  have hS : va_S A s.heap H [] := by rw [← hH]; exact hS
  clear hH
  generalize ([] : List Loc) = locs at hS ⊢
  refine lv_aload_n hx hb dX9_noLength_0 rfl (lv_at hl 0 rfl) ?_
  refine cl_v hD hS hA (va_runV (As := []) (rest := []) ⟨hx, hb, hml, hown, hts⟩ (ct_X9_know h H.size) (cwV 0 hts gX9_noLength_X9_know rfl rfl rfl (by decide +kernel) ⟨Nat.le_of_ble_eq_true rfl, Nat.le_of_ble_eq_true rfl⟩) ⟨CPre.blind, va_recv hAB.1 hP (ci := 9) (q0 := 0) rfl rfl, wd_pre hAB hP hD hS hA⟩ rfl rfl hl.1 rfl (lv_room (Nat.le_of_ble_eq_true rfl)) dX9_noLength_1 ⟨Nat.zero_le _, Nat.zero_le _⟩) (fun u H locs h hP hD hS => ?_)
  obtain ⟨mAK_1, mSh_2, mRw_3, mSn_4, mBg_5, mMo_6, mRm_7, mOw_8, mGo_9, mFr_10, mQu_11, mCh_12⟩ := u
  have hP : va_P D vwCl (WM cI cJ cZ cK ad ud pT pK pN pF pS qT qK qN qF qS mKe mUn mFi mRi mBe mWc mAK_1 mSh_2 mIP mUS mWa mWi mSi mRo mSp mRw_3 mSn_4 mBg_5 mLa mMo_6 mRm_7 mOw_8 mGo_9 mFr_10 mQu_11 mCh_12 mPB mPS mFs ub uT uK uN uF uS) H := hP
  have hD : va_D A (WM cI cJ cZ cK ad ud pT pK pN pF pS qT qK qN qF qS mKe mUn mFi mRi mBe mWc mAK_1 mSh_2 mIP mUS mWa mWi mSi mRo mSp mRw_3 mSn_4 mBg_5 mLa mMo_6 mRm_7 mOw_8 mGo_9 mFr_10 mQu_11 mCh_12 mPB mPS mFs ub uT uK uN uF uS) := hD
  refine lv_iload_n hx hb dX9_noLength_4 rfl (lv_at hl 1 rfl) ?_
  refine lv_aload_n hx hb dX9_noLength_5 rfl (lv_at hl 0 rfl) ?_
  refine va_get (D := D) (ci := 9) (C := RX9) (T := TX9) (N := 32) hx hb hts inn_X9_noLength_9 hown hAB.1 hP 0 rfl rfl 26 (by decide) (hts (.fieldLink RX9 235 "BarnBenchModel" "shortest" "I") (by decide +kernel)) (fun _ h9 => h9) rfl dX9_noLength_6 ?_
  refine lv_icmp_ge (tgt := 17) hx hb dX9_noLength_9 (by decide) (fun c_13 => ?_) (fun c_13 => ?_)
  · have h := h.1 c_13
    refine lv_iload_n hx hb dX9_noLength_17 rfl (lv_at hl 1 rfl) ?_
    refine lv_sipush (v := 1000) hx hb dX9_noLength_18 (by decide) ?_
    refine lv_icmp_le (tgt := 28) hx hb dX9_noLength_21 (by decide) (fun c_14 => ?_) (fun c_14 => ?_)
    · have h := h.1 c_14
      refine lv_iconst (v := 0) hx hb dX9_noLength_28 (by decide) ?_
      exact rt_i (mAK_1, mSh_2, mRw_3, mSn_4, mBg_5, mMo_6, mRm_7, mOw_8, mGo_9, mFr_10, mQu_11, mCh_12) hQ hx hb hr hlk hP hD hS ⟨Nat.zero_le _, Nat.zero_le _⟩ dX9_noLength_29 h
    · have h := h.2 c_14
      refine lv_iconst (v := (-1)) hx hb dX9_noLength_24 (by decide) ?_
      refine lv_goto (tgt := 29) hx hb dX9_noLength_25 (by decide) ?_
      exact rt_i (mAK_1, mSh_2, mRw_3, mSn_4, mBg_5, mMo_6, mRm_7, mOw_8, mGo_9, mFr_10, mQu_11, mCh_12) hQ hx hb hr hlk hP hD hS ⟨Nat.zero_le _, Nat.zero_le _⟩ dX9_noLength_29 h
  · have h := h.2 c_13
    refine lv_bipush (v := (-8)) hx hb dX9_noLength_12 (by decide) ?_
    refine lv_goto (tgt := 29) hx hb dX9_noLength_14 (by decide) ?_
    exact rt_i (mAK_1, mSh_2, mRw_3, mSn_4, mBg_5, mMo_6, mRm_7, mOw_8, mGo_9, mFr_10, mQu_11, mCh_12) hQ hx hb hr hlk hP hD hS ⟨Nat.zero_le _, Nat.zero_le _⟩ dX9_noLength_29 h
def wp_X9_cheapest (pT : Int32) (pK : Nat → Int32) (pN : Nat → Int32) (pF : Nat → Int32) (mFi : Int32) (mAK : Int32) (mSh : Int32) (mRw : Nat → Int32) (mSn : Nat → Int32) (mBg : Nat → Int32) (mMo : Nat → Int32) (mRm : Nat → Int64) (mOw : Nat → Int64) (mGo : Nat → Int32) (mFr : Nat → Int32) (mQu : Nat → Int32) (mCh : Nat → Int64) (a1 : Int32) (a2 : Int32) (Qp : Int64 → (Int32) → (Int32) → (Int32) → (Nat → Int32) → (Nat → Int32) → (Nat → Int32) → (Nat → Int32) → (Nat → Int64) → (Nat → Int64) → (Nat → Int32) → (Nat → Int32) → (Nat → Int32) → (Nat → Int64) → Prop) : Prop :=
  wp_X9_in (Int32.toInt64 a2) 1 1000 (fun (r_1 : Int32) => ((¬ r_1 = 0 → wp_X9_know pT pK pN pF mAK mSh mRw mSn mBg mMo mRm mOw mGo mFr mQu mCh (fun (mAK_3 : Int32) (mSh_4 : Int32) (mRw_5 : Nat → Int32) (mSn_6 : Nat → Int32) (mBg_7 : Nat → Int32) (mMo_8 : Nat → Int32) (mRm_9 : Nat → Int64) (mOw_10 : Nat → Int64) (mGo_11 : Nat → Int32) (mFr_12 : Nat → Int32) (mQu_13 : Nat → Int32) (mCh_14 : Nat → Int64) => ((0 ≤ (lg_cmp (Int32.toInt64 a1) ((Int32.toInt64 a2) * (Int32.toInt64 mSh_4))) → ¬ a2 = 0 ∧ ∀ x3_16 : Int32, x3_16 = (a1 / a2) → wp_X9_cheapAt pT pK pN pF mAK_3 mSh_4 mRw_5 mSn_6 mBg_7 mMo_8 mRm_9 mOw_10 mGo_11 mFr_12 mQu_13 mCh_14 (Int32.toInt64 x3_16) (fun (r_18 : Int64) (mAK_19 : Int32) (mSh_20 : Int32) (mRw_21 : Nat → Int32) (mSn_22 : Nat → Int32) (mBg_23 : Nat → Int32) (mMo_24 : Nat → Int32) (mRm_25 : Nat → Int64) (mOw_26 : Nat → Int64) (mGo_27 : Nat → Int32) (mFr_28 : Nat → Int32) (mQu_29 : Nat → Int32) (mCh_30 : Nat → Int64) => wp_X9_cheapAt pT pK pN pF mAK_19 mSh_20 mRw_21 mSn_22 mBg_23 mMo_24 mRm_25 mOw_26 mGo_27 mFr_28 mQu_29 mCh_30 ((Int32.toInt64 x3_16) + 1) (fun (r_31 : Int64) (mAK_32 : Int32) (mSh_33 : Int32) (mRw_34 : Nat → Int32) (mSn_35 : Nat → Int32) (mBg_36 : Nat → Int32) (mMo_37 : Nat → Int32) (mRm_38 : Nat → Int64) (mOw_39 : Nat → Int64) (mGo_40 : Nat → Int32) (mFr_41 : Nat → Int32) (mQu_42 : Nat → Int32) (mCh_43 : Nat → Int64) => wp_X9_cheapAt pT pK pN pF mAK_32 mSh_33 mRw_34 mSn_35 mBg_36 mMo_37 mRm_38 mOw_39 mGo_40 mFr_41 mQu_42 mCh_43 (Int32.toInt64 x3_16) (fun (r_44 : Int64) (mAK_45 : Int32) (mSh_46 : Int32) (mRw_47 : Nat → Int32) (mSn_48 : Nat → Int32) (mBg_49 : Nat → Int32) (mMo_50 : Nat → Int32) (mRm_51 : Nat → Int64) (mOw_52 : Nat → Int64) (mGo_53 : Nat → Int32) (mFr_54 : Nat → Int32) (mQu_55 : Nat → Int32) (mCh_56 : Nat → Int64) => Qp (((Int32.toInt64 a2) * r_18) + (((Int32.toInt64 a1) - ((Int32.toInt64 a2) * (Int32.toInt64 x3_16))) * (r_31 - r_44))) mFi mAK_45 mSh_46 mRw_47 mSn_48 mBg_49 mMo_50 mRm_51 mOw_52 mGo_53 mFr_54 mQu_55 mCh_56)))) ∧
   (¬ 0 ≤ (lg_cmp (Int32.toInt64 a1) ((Int32.toInt64 a2) * (Int32.toInt64 mSh_4))) → wp_X9_found mFi (-8) (fun (r_57 : Int32) (mFi_58 : Int32) => Qp (Int32.toInt64 r_57) mFi_58 mAK_3 mSh_4 mRw_5 mSn_6 mBg_7 mMo_8 mRm_9 mOw_10 mGo_11 mFr_12 mQu_13 mCh_14))))) ∧
   (r_1 = 0 → wp_X9_found mFi (-3) (fun (r_59 : Int32) (mFi_60 : Int32) => Qp (Int32.toInt64 r_59) mFi_60 mAK mSh mRw mSn mBg mMo mRm mOw mGo mFr mQu mCh))))
theorem inn_X9_cheapest_9 : ∀ w ∈ u_ws RX9 TX9 32, w ∈ wsX9_cheapest := fun _ h => List.mem_cons_of_mem _ (List.mem_append_left _ (List.mem_append_right _ h))
def rm_X9_cheapest : Room := { frames := 6, cells := 0, slots := 0, locals := 138 }
set_option maxHeartbeats 4000000 in
set_option maxRecDepth 100000 in
theorem ct_X9_cheapest {l : Launch} {D : va_G} {cI cJ cZ cE cD cK : ClassId} {ad : Nat → Nat} {ud : Nat → Nat → Nat} {pT : Int32} {pK : Nat → Int32} {pN : Nat → Int32} {pF : Nat → Int32} {pS : Nat → Int32} {qT : Int32} {qK : Nat → Int32} {qN : Nat → Int32} {qF : Nat → Int32} {qS : Nat → Int32} {mKe : Int32} {mUn : Int32} {mFi : Int32} {mRi : Int32} {mBe : Int64} {mWc : Int32} {mAK : Int32} {mSh : Int32} {mIP : Int32} {mUS : Nat → Int32} {mWa : Nat → Int32} {mWi : Nat → Int32} {mSi : Nat → Int32} {mRo : Nat → Int64} {mSp : Nat → Int64} {mRw : Nat → Int32} {mSn : Nat → Int32} {mBg : Nat → Int32} {mLa : Nat → Int32} {mMo : Nat → Int32} {mRm : Nat → Int64} {mOw : Nat → Int64} {mGo : Nat → Int32} {mFr : Nat → Int32} {mQu : Nat → Int32} {mCh : Nat → Int64} {mPB : Nat → Int32} {mPS : Nat → Int32} {mFs : Nat → Int32} {ub : Nat → Nat} {uT : Nat → Int32} {uK : Nat → Nat → Int32} {uN : Nat → Nat → Int32} {uF : Nat → Nat → Int32} {uS : Nat → Nat → Int32}   {a1 : Int32} {a2 : Int32} {Qp : Int64 → (Int32) → (Int32) → (Int32) → (Nat → Int32) → (Nat → Int32) → (Nat → Int32) → (Nat → Int32) → (Nat → Int64) → (Nat → Int64) → (Nat → Int32) → (Nat → Int32) → (Nat → Int32) → (Nat → Int64) → Prop}   (h : wp_X9_cheapest pT pK pN pF mFi mAK mSh mRw mSn mBg mMo mRm mOw mGo mFr mQu mCh a1 a2 Qp) : CTl l yX9_cheapest wsX9_cheapest rm_X9_cheapest D (tyL cI cJ cZ cE cD cK) [.ref (ad 0), .int a1, .int a2] (WM cI cJ cZ cK ad ud pT pK pN pF pS qT qK qN qF qS mKe mUn mFi mRi mBe mWc mAK mSh mIP mUS mWa mWi mSi mRo mSp mRw mSn mBg mLa mMo mRm mOw mGo mFr mQu mCh mPB mPS mFs ub uT uK uN uF uS) (fun (r : Int64) (u : (Int32) × (Int32) × (Int32) × (Nat → Int32) × (Nat → Int32) × (Nat → Int32) × (Nat → Int32) × (Nat → Int64) × (Nat → Int64) × (Nat → Int32) × (Nat → Int32) × (Nat → Int32) × (Nat → Int64)) => Qp r u.1 u.2.1 u.2.2.1 u.2.2.2.1 u.2.2.2.2.1 u.2.2.2.2.2.1 u.2.2.2.2.2.2.1 u.2.2.2.2.2.2.2.1 u.2.2.2.2.2.2.2.2.1 u.2.2.2.2.2.2.2.2.2.1 u.2.2.2.2.2.2.2.2.2.2.1 u.2.2.2.2.2.2.2.2.2.2.2.1 u.2.2.2.2.2.2.2.2.2.2.2.2) (fun u : (Int32) × (Int32) × (Int32) × (Nat → Int32) × (Nat → Int32) × (Nat → Int32) × (Nat → Int32) × (Nat → Int64) × (Nat → Int64) × (Nat → Int32) × (Nat → Int32) × (Nat → Int32) × (Nat → Int64) => (WM cI cJ cZ cK ad ud pT pK pN pF pS qT qK qN qF qS mKe mUn u.1 mRi mBe mWc u.2.1 u.2.2.1 mIP mUS mWa mWi mSi mRo mSp u.2.2.2.1 u.2.2.2.2.1 u.2.2.2.2.2.1 mLa u.2.2.2.2.2.2.1 u.2.2.2.2.2.2.2.1 u.2.2.2.2.2.2.2.2.1 u.2.2.2.2.2.2.2.2.2.1 u.2.2.2.2.2.2.2.2.2.2.1 u.2.2.2.2.2.2.2.2.2.2.2.1 u.2.2.2.2.2.2.2.2.2.2.2.2 mPB mPS mFs ub uT uK uN uF uS)) 0 0 := by
  refine ent_l (cc := cX9_cheapest) (maxL := 4) (ret := (some .long)) (by decide) rfl (Nat.le_of_ble_eq_true rfl) ?_
  intro p e s m args below meth c A Q hQ hx hb hr hml hown hts hlk hA hAB hP hD hS ls hl
  have hown : s.vm.findClass RX9 = some m.cls := hown
  have hl : lv_has ls 4 [(0, .ref (ad 0)), (1, .int a1), (2, .int a2)] := hl
  generalize hH : s.heap = H at hP ⊢
  have hS : va_S A s.heap H [] := by rw [← hH]; exact hS
  clear hH
  generalize ([] : List Loc) = locs at hS ⊢
  refine lv_iload_n hx hb dX9_cheapest_0 rfl (lv_at hl 2 rfl) ?_
  refine lv_i2l hx hb dX9_cheapest_1 rfl ?_
  refine lv_lconst (v := 1) hx hb dX9_cheapest_2 (by decide) ?_
  refine lv_ldc2 (v := 1000) hx hb hown (hts (.constantLong RX9 256 1000) (by decide +kernel)) dX9_cheapest_3 ?_
  refine cl_i hD hS hA (va_runS (As := [.long (Int32.toInt64 a2), .long 1, .long 1000]) (rest := []) ⟨hx, hb, hml, hown, hts⟩ (ct_X9_in h H.size) (va_cwS 3 hts gX9_cheapest_X9_in rfl rfl rfl (by decide +kernel) ⟨Nat.le_of_ble_eq_true rfl, Nat.le_of_ble_eq_true rfl⟩) ⟨CPre.blind, wd_pre hAB hP hD hS hA⟩ rfl rfl hl.1 rfl (lv_room (Nat.le_of_ble_eq_true rfl)) dX9_cheapest_6 ⟨Nat.zero_le _, Nat.zero_le _⟩) (fun r_1 u H locs h hP hD hS => ?_)
  refine lv_if_ne (tgt := 20) hx hb dX9_cheapest_9 (by decide) (fun c_2 => ?_) (fun c_2 => ?_)
  · have h := h.1 c_2
    refine lv_aload_n hx hb dX9_cheapest_20 rfl (lv_at hl 0 rfl) ?_
    refine cl_v hD hS hA (va_runV (As := []) (rest := []) ⟨hx, hb, hml, hown, hts⟩ (ct_X9_know h H.size) (cwV 0 hts gX9_cheapest_X9_know rfl rfl rfl (by decide +kernel) ⟨Nat.le_of_ble_eq_true rfl, Nat.le_of_ble_eq_true rfl⟩) ⟨CPre.blind, va_recv hAB.1 hP (ci := 9) (q0 := 0) rfl rfl, wd_pre hAB hP hD hS hA⟩ rfl rfl hl.1 rfl (lv_room (Nat.le_of_ble_eq_true rfl)) dX9_cheapest_21 ⟨Nat.zero_le _, Nat.zero_le _⟩) (fun u H locs h hP hD hS => ?_)
    obtain ⟨mAK_3, mSh_4, mRw_5, mSn_6, mBg_7, mMo_8, mRm_9, mOw_10, mGo_11, mFr_12, mQu_13, mCh_14⟩ := u
    have hP : va_P D vwCl (WM cI cJ cZ cK ad ud pT pK pN pF pS qT qK qN qF qS mKe mUn mFi mRi mBe mWc mAK_3 mSh_4 mIP mUS mWa mWi mSi mRo mSp mRw_5 mSn_6 mBg_7 mLa mMo_8 mRm_9 mOw_10 mGo_11 mFr_12 mQu_13 mCh_14 mPB mPS mFs ub uT uK uN uF uS) H := hP
    have hD : va_D A (WM cI cJ cZ cK ad ud pT pK pN pF pS qT qK qN qF qS mKe mUn mFi mRi mBe mWc mAK_3 mSh_4 mIP mUS mWa mWi mSi mRo mSp mRw_5 mSn_6 mBg_7 mLa mMo_8 mRm_9 mOw_10 mGo_11 mFr_12 mQu_13 mCh_14 mPB mPS mFs ub uT uK uN uF uS) := hD
    refine lv_iload_n hx hb dX9_cheapest_24 rfl (lv_at hl 1 rfl) ?_
    refine lv_i2l hx hb dX9_cheapest_25 rfl ?_
    refine lv_iload_n hx hb dX9_cheapest_26 rfl (lv_at hl 2 rfl) ?_
    refine lv_i2l hx hb dX9_cheapest_27 rfl ?_
    refine lv_aload_n hx hb dX9_cheapest_28 rfl (lv_at hl 0 rfl) ?_
    refine va_get (D := D) (ci := 9) (C := RX9) (T := TX9) (N := 32) hx hb hts inn_X9_cheapest_9 hown hAB.1 hP 0 rfl rfl 26 (by decide) (hts (.fieldLink RX9 235 "BarnBenchModel" "shortest" "I") (by decide +kernel)) (fun _ h9 => h9) rfl dX9_cheapest_29 ?_
    refine lv_i2l hx hb dX9_cheapest_32 rfl ?_
    refine lv_lmul hx hb dX9_cheapest_33 ?_
    refine W.lcmp hx hb dX9_cheapest_34 ?_
    refine lv_if_ge (tgt := 46) hx hb dX9_cheapest_35 (by decide) (fun c_15 => ?_) (fun c_15 => ?_)
    · have h := h.1 c_15
      refine lv_iload_n hx hb dX9_cheapest_46 rfl (lv_at hl 1 rfl) ?_
      refine lv_iload_n hx hb dX9_cheapest_47 rfl (lv_at hl 2 rfl) ?_
      refine lv_idiv hx hb dX9_cheapest_48 h.1 ?_
      have h := h.2
      refine lv_topi (fun x3_16 e_17 => ?_)
      have h := h x3_16 e_17
      refine lv_istore_n (lv' := [(3, .int x3_16), (0, .ref (ad 0)), (1, .int a1), (2, .int a2)]) hx hb dX9_cheapest_49 rfl hl (by decide) rfl (fun ls hl => ?_)
      refine lv_iload_n hx hb dX9_cheapest_50 rfl (lv_at hl 3 rfl) ?_
      refine lv_i2l hx hb dX9_cheapest_51 rfl ?_
      refine lv_aload_n hx hb dX9_cheapest_52 rfl (lv_at hl 1 rfl) ?_
      refine lv_iload_n hx hb dX9_cheapest_53 rfl (lv_at hl 0 rfl) ?_
      refine lv_i2l hx hb dX9_cheapest_54 rfl ?_
      refine cl_l hD hS hA (va_runV (As := [.long (Int32.toInt64 x3_16)]) (rest := [.long (Int32.toInt64 a2)]) ⟨hx, hb, hml, hown, hts⟩ (ct_X9_cheapAt h H.size) (cwV 1 hts gX9_cheapest_X9_cheapAt rfl rfl rfl (by decide +kernel) ⟨Nat.le_of_ble_eq_true rfl, Nat.le_of_ble_eq_true rfl⟩) ⟨CPre.blind, va_recv hAB.1 hP (ci := 9) (q0 := 0) rfl rfl, wd_pre hAB hP hD hS hA⟩ rfl rfl hl.1 rfl (lv_room (Nat.le_of_ble_eq_true rfl)) dX9_cheapest_55 ⟨Nat.zero_le _, Nat.zero_le _⟩) (fun r_18 u H locs h hP hD hS => ?_)
      obtain ⟨mAK_19, mSh_20, mRw_21, mSn_22, mBg_23, mMo_24, mRm_25, mOw_26, mGo_27, mFr_28, mQu_29, mCh_30⟩ := u
      have hP : va_P D vwCl (WM cI cJ cZ cK ad ud pT pK pN pF pS qT qK qN qF qS mKe mUn mFi mRi mBe mWc mAK_19 mSh_20 mIP mUS mWa mWi mSi mRo mSp mRw_21 mSn_22 mBg_23 mLa mMo_24 mRm_25 mOw_26 mGo_27 mFr_28 mQu_29 mCh_30 mPB mPS mFs ub uT uK uN uF uS) H := hP
      have hD : va_D A (WM cI cJ cZ cK ad ud pT pK pN pF pS qT qK qN qF qS mKe mUn mFi mRi mBe mWc mAK_19 mSh_20 mIP mUS mWa mWi mSi mRo mSp mRw_21 mSn_22 mBg_23 mLa mMo_24 mRm_25 mOw_26 mGo_27 mFr_28 mQu_29 mCh_30 mPB mPS mFs ub uT uK uN uF uS) := hD
      refine lv_lmul hx hb dX9_cheapest_58 ?_
      refine lv_iload_n hx hb dX9_cheapest_59 rfl (lv_at hl 2 rfl) ?_
      refine lv_i2l hx hb dX9_cheapest_60 rfl ?_
      refine lv_iload_n hx hb dX9_cheapest_61 rfl (lv_at hl 3 rfl) ?_
      refine lv_i2l hx hb dX9_cheapest_62 rfl ?_
      refine lv_iload_n hx hb dX9_cheapest_63 rfl (lv_at hl 0 rfl) ?_
      refine lv_i2l hx hb dX9_cheapest_64 rfl ?_
      refine lv_lmul hx hb dX9_cheapest_65 ?_
      refine lv_lsub hx hb dX9_cheapest_66 ?_
      refine lv_aload_n hx hb dX9_cheapest_67 rfl (lv_at hl 1 rfl) ?_
      refine lv_iload_n hx hb dX9_cheapest_68 rfl (lv_at hl 0 rfl) ?_
      refine lv_i2l hx hb dX9_cheapest_69 rfl ?_
      refine lv_lconst (v := 1) hx hb dX9_cheapest_70 (by decide) ?_
      refine lv_ladd hx hb dX9_cheapest_71 ?_
      refine cl_l hD hS hA (va_runV (As := [.long ((Int32.toInt64 x3_16) + 1)]) (rest := [.long ((Int32.toInt64 a1) - ((Int32.toInt64 a2) * (Int32.toInt64 x3_16))), .long ((Int32.toInt64 a2) * r_18)]) ⟨hx, hb, hml, hown, hts⟩ (ct_X9_cheapAt h H.size) (cwV 1 hts gX9_cheapest_X9_cheapAt rfl rfl rfl (by decide +kernel) ⟨Nat.le_of_ble_eq_true rfl, Nat.le_of_ble_eq_true rfl⟩) ⟨CPre.blind, va_recv hAB.1 hP (ci := 9) (q0 := 0) rfl rfl, wd_pre hAB hP hD hS hA⟩ rfl rfl hl.1 rfl (lv_room (Nat.le_of_ble_eq_true rfl)) dX9_cheapest_72 ⟨Nat.zero_le _, Nat.zero_le _⟩) (fun r_31 u H locs h hP hD hS => ?_)
      obtain ⟨mAK_32, mSh_33, mRw_34, mSn_35, mBg_36, mMo_37, mRm_38, mOw_39, mGo_40, mFr_41, mQu_42, mCh_43⟩ := u
      have hP : va_P D vwCl (WM cI cJ cZ cK ad ud pT pK pN pF pS qT qK qN qF qS mKe mUn mFi mRi mBe mWc mAK_32 mSh_33 mIP mUS mWa mWi mSi mRo mSp mRw_34 mSn_35 mBg_36 mLa mMo_37 mRm_38 mOw_39 mGo_40 mFr_41 mQu_42 mCh_43 mPB mPS mFs ub uT uK uN uF uS) H := hP
      have hD : va_D A (WM cI cJ cZ cK ad ud pT pK pN pF pS qT qK qN qF qS mKe mUn mFi mRi mBe mWc mAK_32 mSh_33 mIP mUS mWa mWi mSi mRo mSp mRw_34 mSn_35 mBg_36 mLa mMo_37 mRm_38 mOw_39 mGo_40 mFr_41 mQu_42 mCh_43 mPB mPS mFs ub uT uK uN uF uS) := hD
      refine lv_aload_n hx hb dX9_cheapest_75 rfl (lv_at hl 1 rfl) ?_
      refine lv_iload_n hx hb dX9_cheapest_76 rfl (lv_at hl 0 rfl) ?_
      refine lv_i2l hx hb dX9_cheapest_77 rfl ?_
      refine cl_l hD hS hA (va_runV (As := [.long (Int32.toInt64 x3_16)]) (rest := [.long r_31, .long ((Int32.toInt64 a1) - ((Int32.toInt64 a2) * (Int32.toInt64 x3_16))), .long ((Int32.toInt64 a2) * r_18)]) ⟨hx, hb, hml, hown, hts⟩ (ct_X9_cheapAt h H.size) (cwV 1 hts gX9_cheapest_X9_cheapAt rfl rfl rfl (by decide +kernel) ⟨Nat.le_of_ble_eq_true rfl, Nat.le_of_ble_eq_true rfl⟩) ⟨CPre.blind, va_recv hAB.1 hP (ci := 9) (q0 := 0) rfl rfl, wd_pre hAB hP hD hS hA⟩ rfl rfl hl.1 rfl (lv_room (Nat.le_of_ble_eq_true rfl)) dX9_cheapest_78 ⟨Nat.zero_le _, Nat.zero_le _⟩) (fun r_44 u H locs h hP hD hS => ?_)
      obtain ⟨mAK_45, mSh_46, mRw_47, mSn_48, mBg_49, mMo_50, mRm_51, mOw_52, mGo_53, mFr_54, mQu_55, mCh_56⟩ := u
      have hP : va_P D vwCl (WM cI cJ cZ cK ad ud pT pK pN pF pS qT qK qN qF qS mKe mUn mFi mRi mBe mWc mAK_45 mSh_46 mIP mUS mWa mWi mSi mRo mSp mRw_47 mSn_48 mBg_49 mLa mMo_50 mRm_51 mOw_52 mGo_53 mFr_54 mQu_55 mCh_56 mPB mPS mFs ub uT uK uN uF uS) H := hP
      have hD : va_D A (WM cI cJ cZ cK ad ud pT pK pN pF pS qT qK qN qF qS mKe mUn mFi mRi mBe mWc mAK_45 mSh_46 mIP mUS mWa mWi mSi mRo mSp mRw_47 mSn_48 mBg_49 mLa mMo_50 mRm_51 mOw_52 mGo_53 mFr_54 mQu_55 mCh_56 mPB mPS mFs ub uT uK uN uF uS) := hD
      refine lv_lsub hx hb dX9_cheapest_81 ?_
      refine lv_lmul hx hb dX9_cheapest_82 ?_
      refine lv_ladd hx hb dX9_cheapest_83 ?_
      exact rt_l (mFi, mAK_45, mSh_46, mRw_47, mSn_48, mBg_49, mMo_50, mRm_51, mOw_52, mGo_53, mFr_54, mQu_55, mCh_56) hQ hx hb hr hlk hP hD hS ⟨Nat.zero_le _, Nat.zero_le _⟩ dX9_cheapest_84 h
    · have h := h.2 c_15
      refine lv_aload_n hx hb dX9_cheapest_38 rfl (lv_at hl 0 rfl) ?_
      refine lv_bipush (v := (-8)) hx hb dX9_cheapest_39 (by decide) ?_
      refine cl_i hD hS hA (va_runV (As := [.int (-8)]) (rest := []) ⟨hx, hb, hml, hown, hts⟩ (ct_X9_found h H.size) (cwV 1 hts gX9_cheapest_X9_found rfl rfl rfl (by decide +kernel) ⟨Nat.le_of_ble_eq_true rfl, Nat.le_of_ble_eq_true rfl⟩) ⟨CPre.blind, va_recv hAB.1 hP (ci := 9) (q0 := 0) rfl rfl, wd_pre hAB hP hD hS hA⟩ rfl rfl hl.1 rfl (lv_room (Nat.le_of_ble_eq_true rfl)) dX9_cheapest_41 ⟨Nat.zero_le _, Nat.zero_le _⟩) (fun r_57 mFi_58 H locs h hP hD hS => ?_)
      have hP : va_P D vwCl (WM cI cJ cZ cK ad ud pT pK pN pF pS qT qK qN qF qS mKe mUn mFi_58 mRi mBe mWc mAK_3 mSh_4 mIP mUS mWa mWi mSi mRo mSp mRw_5 mSn_6 mBg_7 mLa mMo_8 mRm_9 mOw_10 mGo_11 mFr_12 mQu_13 mCh_14 mPB mPS mFs ub uT uK uN uF uS) H := hP
      have hD : va_D A (WM cI cJ cZ cK ad ud pT pK pN pF pS qT qK qN qF qS mKe mUn mFi_58 mRi mBe mWc mAK_3 mSh_4 mIP mUS mWa mWi mSi mRo mSp mRw_5 mSn_6 mBg_7 mLa mMo_8 mRm_9 mOw_10 mGo_11 mFr_12 mQu_13 mCh_14 mPB mPS mFs ub uT uK uN uF uS) := hD
      refine lv_i2l hx hb dX9_cheapest_44 rfl ?_
      exact rt_l (mFi_58, mAK_3, mSh_4, mRw_5, mSn_6, mBg_7, mMo_8, mRm_9, mOw_10, mGo_11, mFr_12, mQu_13, mCh_14) hQ hx hb hr hlk hP hD hS ⟨Nat.zero_le _, Nat.zero_le _⟩ dX9_cheapest_45 h
  · have h := h.2 c_2
    refine lv_aload_n hx hb dX9_cheapest_12 rfl (lv_at hl 0 rfl) ?_
    refine lv_bipush (v := (-3)) hx hb dX9_cheapest_13 (by decide) ?_
    refine cl_i hD hS hA (va_runV (As := [.int (-3)]) (rest := []) ⟨hx, hb, hml, hown, hts⟩ (ct_X9_found h H.size) (cwV 1 hts gX9_cheapest_X9_found rfl rfl rfl (by decide +kernel) ⟨Nat.le_of_ble_eq_true rfl, Nat.le_of_ble_eq_true rfl⟩) ⟨CPre.blind, va_recv hAB.1 hP (ci := 9) (q0 := 0) rfl rfl, wd_pre hAB hP hD hS hA⟩ rfl rfl hl.1 rfl (lv_room (Nat.le_of_ble_eq_true rfl)) dX9_cheapest_15 ⟨Nat.zero_le _, Nat.zero_le _⟩) (fun r_59 mFi_60 H locs h hP hD hS => ?_)
    have hP : va_P D vwCl (WM cI cJ cZ cK ad ud pT pK pN pF pS qT qK qN qF qS mKe mUn mFi_60 mRi mBe mWc mAK mSh mIP mUS mWa mWi mSi mRo mSp mRw mSn mBg mLa mMo mRm mOw mGo mFr mQu mCh mPB mPS mFs ub uT uK uN uF uS) H := hP
    have hD : va_D A (WM cI cJ cZ cK ad ud pT pK pN pF pS qT qK qN qF qS mKe mUn mFi_60 mRi mBe mWc mAK mSh mIP mUS mWa mWi mSi mRo mSp mRw mSn mBg mLa mMo mRm mOw mGo mFr mQu mCh mPB mPS mFs ub uT uK uN uF uS) := hD
    refine lv_i2l hx hb dX9_cheapest_18 rfl ?_
    exact rt_l (mFi_60, mAK, mSh, mRw, mSn, mBg, mMo, mRm, mOw, mGo, mFr, mQu, mCh) hQ hx hb hr hlk hP hD hS ⟨Nat.zero_le _, Nat.zero_le _⟩ dX9_cheapest_19 h
def wp_X9_slope (pT : Int32) (pK : Nat → Int32) (pN : Nat → Int32) (pF : Nat → Int32) (mFi : Int32) (mAK : Int32) (mSh : Int32) (mRw : Nat → Int32) (mSn : Nat → Int32) (mBg : Nat → Int32) (mMo : Nat → Int32) (mRm : Nat → Int64) (mOw : Nat → Int64) (mGo : Nat → Int32) (mFr : Nat → Int32) (mQu : Nat → Int32) (mCh : Nat → Int64) (a1 : Int32) (Qp : Int64 → (Int32) → (Int32) → (Int32) → (Nat → Int32) → (Nat → Int32) → (Nat → Int32) → (Nat → Int32) → (Nat → Int64) → (Nat → Int64) → (Nat → Int32) → (Nat → Int32) → (Nat → Int32) → (Nat → Int64) → Prop) : Prop :=
  wp_X9_noLength pT pK pN pF mAK mSh mRw mSn mBg mMo mRm mOw mGo mFr mQu mCh a1 (fun (r_1 : Int32) (mAK_2 : Int32) (mSh_3 : Int32) (mRw_4 : Nat → Int32) (mSn_5 : Nat → Int32) (mBg_6 : Nat → Int32) (mMo_7 : Nat → Int32) (mRm_8 : Nat → Int64) (mOw_9 : Nat → Int64) (mGo_10 : Nat → Int32) (mFr_11 : Nat → Int32) (mQu_12 : Nat → Int32) (mCh_13 : Nat → Int64) => ((r_1 = 0 → wp_X9_cheapAt pT pK pN pF mAK_2 mSh_3 mRw_4 mSn_5 mBg_6 mMo_7 mRm_8 mOw_9 mGo_10 mFr_11 mQu_12 mCh_13 (Int32.toInt64 a1) (fun (r_15 : Int64) (mAK_16 : Int32) (mSh_17 : Int32) (mRw_18 : Nat → Int32) (mSn_19 : Nat → Int32) (mBg_20 : Nat → Int32) (mMo_21 : Nat → Int32) (mRm_22 : Nat → Int64) (mOw_23 : Nat → Int64) (mGo_24 : Nat → Int32) (mFr_25 : Nat → Int32) (mQu_26 : Nat → Int32) (mCh_27 : Nat → Int64) => wp_X9_cheapAt pT pK pN pF mAK_16 mSh_17 mRw_18 mSn_19 mBg_20 mMo_21 mRm_22 mOw_23 mGo_24 mFr_25 mQu_26 mCh_27 ((Int32.toInt64 a1) + 1) (fun (r_28 : Int64) (mAK_29 : Int32) (mSh_30 : Int32) (mRw_31 : Nat → Int32) (mSn_32 : Nat → Int32) (mBg_33 : Nat → Int32) (mMo_34 : Nat → Int32) (mRm_35 : Nat → Int64) (mOw_36 : Nat → Int64) (mGo_37 : Nat → Int32) (mFr_38 : Nat → Int32) (mQu_39 : Nat → Int32) (mCh_40 : Nat → Int64) => Qp (r_15 - r_28) mFi mAK_29 mSh_30 mRw_31 mSn_32 mBg_33 mMo_34 mRm_35 mOw_36 mGo_37 mFr_38 mQu_39 mCh_40))) ∧
   (¬ r_1 = 0 → wp_X9_found mFi r_1 (fun (r_41 : Int32) (mFi_42 : Int32) => Qp (Int32.toInt64 r_41) mFi_42 mAK_2 mSh_3 mRw_4 mSn_5 mBg_6 mMo_7 mRm_8 mOw_9 mGo_10 mFr_11 mQu_12 mCh_13))))
def rm_X9_slope : Room := { frames := 6, cells := 0, slots := 0, locals := 138 }
set_option maxHeartbeats 4000000 in
set_option maxRecDepth 100000 in
theorem ct_X9_slope {l : Launch} {D : va_G} {cI cJ cZ cE cD cK : ClassId} {ad : Nat → Nat} {ud : Nat → Nat → Nat} {pT : Int32} {pK : Nat → Int32} {pN : Nat → Int32} {pF : Nat → Int32} {pS : Nat → Int32} {qT : Int32} {qK : Nat → Int32} {qN : Nat → Int32} {qF : Nat → Int32} {qS : Nat → Int32} {mKe : Int32} {mUn : Int32} {mFi : Int32} {mRi : Int32} {mBe : Int64} {mWc : Int32} {mAK : Int32} {mSh : Int32} {mIP : Int32} {mUS : Nat → Int32} {mWa : Nat → Int32} {mWi : Nat → Int32} {mSi : Nat → Int32} {mRo : Nat → Int64} {mSp : Nat → Int64} {mRw : Nat → Int32} {mSn : Nat → Int32} {mBg : Nat → Int32} {mLa : Nat → Int32} {mMo : Nat → Int32} {mRm : Nat → Int64} {mOw : Nat → Int64} {mGo : Nat → Int32} {mFr : Nat → Int32} {mQu : Nat → Int32} {mCh : Nat → Int64} {mPB : Nat → Int32} {mPS : Nat → Int32} {mFs : Nat → Int32} {ub : Nat → Nat} {uT : Nat → Int32} {uK : Nat → Nat → Int32} {uN : Nat → Nat → Int32} {uF : Nat → Nat → Int32} {uS : Nat → Nat → Int32}   {a1 : Int32} {Qp : Int64 → (Int32) → (Int32) → (Int32) → (Nat → Int32) → (Nat → Int32) → (Nat → Int32) → (Nat → Int32) → (Nat → Int64) → (Nat → Int64) → (Nat → Int32) → (Nat → Int32) → (Nat → Int32) → (Nat → Int64) → Prop}   (h : wp_X9_slope pT pK pN pF mFi mAK mSh mRw mSn mBg mMo mRm mOw mGo mFr mQu mCh a1 Qp) : CTl l yX9_slope wsX9_slope rm_X9_slope D (tyL cI cJ cZ cE cD cK) [.ref (ad 0), .int a1] (WM cI cJ cZ cK ad ud pT pK pN pF pS qT qK qN qF qS mKe mUn mFi mRi mBe mWc mAK mSh mIP mUS mWa mWi mSi mRo mSp mRw mSn mBg mLa mMo mRm mOw mGo mFr mQu mCh mPB mPS mFs ub uT uK uN uF uS) (fun (r : Int64) (u : (Int32) × (Int32) × (Int32) × (Nat → Int32) × (Nat → Int32) × (Nat → Int32) × (Nat → Int32) × (Nat → Int64) × (Nat → Int64) × (Nat → Int32) × (Nat → Int32) × (Nat → Int32) × (Nat → Int64)) => Qp r u.1 u.2.1 u.2.2.1 u.2.2.2.1 u.2.2.2.2.1 u.2.2.2.2.2.1 u.2.2.2.2.2.2.1 u.2.2.2.2.2.2.2.1 u.2.2.2.2.2.2.2.2.1 u.2.2.2.2.2.2.2.2.2.1 u.2.2.2.2.2.2.2.2.2.2.1 u.2.2.2.2.2.2.2.2.2.2.2.1 u.2.2.2.2.2.2.2.2.2.2.2.2) (fun u : (Int32) × (Int32) × (Int32) × (Nat → Int32) × (Nat → Int32) × (Nat → Int32) × (Nat → Int32) × (Nat → Int64) × (Nat → Int64) × (Nat → Int32) × (Nat → Int32) × (Nat → Int32) × (Nat → Int64) => (WM cI cJ cZ cK ad ud pT pK pN pF pS qT qK qN qF qS mKe mUn u.1 mRi mBe mWc u.2.1 u.2.2.1 mIP mUS mWa mWi mSi mRo mSp u.2.2.2.1 u.2.2.2.2.1 u.2.2.2.2.2.1 mLa u.2.2.2.2.2.2.1 u.2.2.2.2.2.2.2.1 u.2.2.2.2.2.2.2.2.1 u.2.2.2.2.2.2.2.2.2.1 u.2.2.2.2.2.2.2.2.2.2.1 u.2.2.2.2.2.2.2.2.2.2.2.1 u.2.2.2.2.2.2.2.2.2.2.2.2 mPB mPS mFs ub uT uK uN uF uS)) 0 0 := by
  refine ent_l (cc := cX9_slope) (maxL := 3) (ret := (some .long)) (by decide) rfl (Nat.le_of_ble_eq_true rfl) ?_
  intro p e s m args below meth c A Q hQ hx hb hr hml hown hts hlk hA hAB hP hD hS ls hl
  have hown : s.vm.findClass RX9 = some m.cls := hown
  have hl : lv_has ls 3 [(0, .ref (ad 0)), (1, .int a1)] := hl
  generalize hH : s.heap = H at hP ⊢
  have hS : va_S A s.heap H [] := by rw [← hH]; exact hS
  clear hH
  generalize ([] : List Loc) = locs at hS ⊢
  refine lv_aload_n hx hb dX9_slope_0 rfl (lv_at hl 0 rfl) ?_
  refine lv_iload_n hx hb dX9_slope_1 rfl (lv_at hl 1 rfl) ?_
  refine cl_i hD hS hA (va_runV (As := [.int a1]) (rest := []) ⟨hx, hb, hml, hown, hts⟩ (ct_X9_noLength h H.size) (cwV 1 hts gX9_slope_X9_noLength rfl rfl rfl (by decide +kernel) ⟨Nat.le_of_ble_eq_true rfl, Nat.le_of_ble_eq_true rfl⟩) ⟨CPre.blind, va_recv hAB.1 hP (ci := 9) (q0 := 0) rfl rfl, wd_pre hAB hP hD hS hA⟩ rfl rfl hl.1 rfl (lv_room (Nat.le_of_ble_eq_true rfl)) dX9_slope_2 ⟨Nat.zero_le _, Nat.zero_le _⟩) (fun r_1 u H locs h hP hD hS => ?_)
  obtain ⟨mAK_2, mSh_3, mRw_4, mSn_5, mBg_6, mMo_7, mRm_8, mOw_9, mGo_10, mFr_11, mQu_12, mCh_13⟩ := u
  have hP : va_P D vwCl (WM cI cJ cZ cK ad ud pT pK pN pF pS qT qK qN qF qS mKe mUn mFi mRi mBe mWc mAK_2 mSh_3 mIP mUS mWa mWi mSi mRo mSp mRw_4 mSn_5 mBg_6 mLa mMo_7 mRm_8 mOw_9 mGo_10 mFr_11 mQu_12 mCh_13 mPB mPS mFs ub uT uK uN uF uS) H := hP
  have hD : va_D A (WM cI cJ cZ cK ad ud pT pK pN pF pS qT qK qN qF qS mKe mUn mFi mRi mBe mWc mAK_2 mSh_3 mIP mUS mWa mWi mSi mRo mSp mRw_4 mSn_5 mBg_6 mLa mMo_7 mRm_8 mOw_9 mGo_10 mFr_11 mQu_12 mCh_13 mPB mPS mFs ub uT uK uN uF uS) := hD
  refine lv_istore_n (lv' := [(2, .int r_1), (0, .ref (ad 0)), (1, .int a1)]) hx hb dX9_slope_5 rfl hl (by decide) rfl (fun ls hl => ?_)
  refine lv_iload_n hx hb dX9_slope_6 rfl (lv_at hl 0 rfl) ?_
  refine lv_if_eq (tgt := 19) hx hb dX9_slope_7 (by decide) (fun c_14 => ?_) (fun c_14 => ?_)
  · have h := h.1 c_14
    refine lv_aload_n hx hb dX9_slope_19 rfl (lv_at hl 1 rfl) ?_
    refine lv_iload_n hx hb dX9_slope_20 rfl (lv_at hl 2 rfl) ?_
    refine lv_i2l hx hb dX9_slope_21 rfl ?_
    refine cl_l hD hS hA (va_runV (As := [.long (Int32.toInt64 a1)]) (rest := []) ⟨hx, hb, hml, hown, hts⟩ (ct_X9_cheapAt h H.size) (cwV 1 hts gX9_slope_X9_cheapAt rfl rfl rfl (by decide +kernel) ⟨Nat.le_of_ble_eq_true rfl, Nat.le_of_ble_eq_true rfl⟩) ⟨CPre.blind, va_recv hAB.1 hP (ci := 9) (q0 := 0) rfl rfl, wd_pre hAB hP hD hS hA⟩ rfl rfl hl.1 rfl (lv_room (Nat.le_of_ble_eq_true rfl)) dX9_slope_22 ⟨Nat.zero_le _, Nat.zero_le _⟩) (fun r_15 u H locs h hP hD hS => ?_)
    obtain ⟨mAK_16, mSh_17, mRw_18, mSn_19, mBg_20, mMo_21, mRm_22, mOw_23, mGo_24, mFr_25, mQu_26, mCh_27⟩ := u
    have hP : va_P D vwCl (WM cI cJ cZ cK ad ud pT pK pN pF pS qT qK qN qF qS mKe mUn mFi mRi mBe mWc mAK_16 mSh_17 mIP mUS mWa mWi mSi mRo mSp mRw_18 mSn_19 mBg_20 mLa mMo_21 mRm_22 mOw_23 mGo_24 mFr_25 mQu_26 mCh_27 mPB mPS mFs ub uT uK uN uF uS) H := hP
    have hD : va_D A (WM cI cJ cZ cK ad ud pT pK pN pF pS qT qK qN qF qS mKe mUn mFi mRi mBe mWc mAK_16 mSh_17 mIP mUS mWa mWi mSi mRo mSp mRw_18 mSn_19 mBg_20 mLa mMo_21 mRm_22 mOw_23 mGo_24 mFr_25 mQu_26 mCh_27 mPB mPS mFs ub uT uK uN uF uS) := hD
    refine lv_aload_n hx hb dX9_slope_25 rfl (lv_at hl 1 rfl) ?_
    refine lv_iload_n hx hb dX9_slope_26 rfl (lv_at hl 2 rfl) ?_
    refine lv_i2l hx hb dX9_slope_27 rfl ?_
    refine lv_lconst (v := 1) hx hb dX9_slope_28 (by decide) ?_
    refine lv_ladd hx hb dX9_slope_29 ?_
    refine cl_l hD hS hA (va_runV (As := [.long ((Int32.toInt64 a1) + 1)]) (rest := [.long r_15]) ⟨hx, hb, hml, hown, hts⟩ (ct_X9_cheapAt h H.size) (cwV 1 hts gX9_slope_X9_cheapAt rfl rfl rfl (by decide +kernel) ⟨Nat.le_of_ble_eq_true rfl, Nat.le_of_ble_eq_true rfl⟩) ⟨CPre.blind, va_recv hAB.1 hP (ci := 9) (q0 := 0) rfl rfl, wd_pre hAB hP hD hS hA⟩ rfl rfl hl.1 rfl (lv_room (Nat.le_of_ble_eq_true rfl)) dX9_slope_30 ⟨Nat.zero_le _, Nat.zero_le _⟩) (fun r_28 u H locs h hP hD hS => ?_)
    obtain ⟨mAK_29, mSh_30, mRw_31, mSn_32, mBg_33, mMo_34, mRm_35, mOw_36, mGo_37, mFr_38, mQu_39, mCh_40⟩ := u
    have hP : va_P D vwCl (WM cI cJ cZ cK ad ud pT pK pN pF pS qT qK qN qF qS mKe mUn mFi mRi mBe mWc mAK_29 mSh_30 mIP mUS mWa mWi mSi mRo mSp mRw_31 mSn_32 mBg_33 mLa mMo_34 mRm_35 mOw_36 mGo_37 mFr_38 mQu_39 mCh_40 mPB mPS mFs ub uT uK uN uF uS) H := hP
    have hD : va_D A (WM cI cJ cZ cK ad ud pT pK pN pF pS qT qK qN qF qS mKe mUn mFi mRi mBe mWc mAK_29 mSh_30 mIP mUS mWa mWi mSi mRo mSp mRw_31 mSn_32 mBg_33 mLa mMo_34 mRm_35 mOw_36 mGo_37 mFr_38 mQu_39 mCh_40 mPB mPS mFs ub uT uK uN uF uS) := hD
    refine lv_lsub hx hb dX9_slope_33 ?_
    exact rt_l (mFi, mAK_29, mSh_30, mRw_31, mSn_32, mBg_33, mMo_34, mRm_35, mOw_36, mGo_37, mFr_38, mQu_39, mCh_40) hQ hx hb hr hlk hP hD hS ⟨Nat.zero_le _, Nat.zero_le _⟩ dX9_slope_34 h
  · have h := h.2 c_14
    refine lv_aload_n hx hb dX9_slope_10 rfl (lv_at hl 1 rfl) ?_
    refine lv_iload_n hx hb dX9_slope_11 rfl (lv_at hl 0 rfl) ?_
    refine cl_i hD hS hA (va_runV (As := [.int r_1]) (rest := []) ⟨hx, hb, hml, hown, hts⟩ (ct_X9_found h H.size) (cwV 1 hts gX9_slope_X9_found rfl rfl rfl (by decide +kernel) ⟨Nat.le_of_ble_eq_true rfl, Nat.le_of_ble_eq_true rfl⟩) ⟨CPre.blind, va_recv hAB.1 hP (ci := 9) (q0 := 0) rfl rfl, wd_pre hAB hP hD hS hA⟩ rfl rfl hl.1 rfl (lv_room (Nat.le_of_ble_eq_true rfl)) dX9_slope_12 ⟨Nat.zero_le _, Nat.zero_le _⟩) (fun r_41 mFi_42 H locs h hP hD hS => ?_)
    have hP : va_P D vwCl (WM cI cJ cZ cK ad ud pT pK pN pF pS qT qK qN qF qS mKe mUn mFi_42 mRi mBe mWc mAK_2 mSh_3 mIP mUS mWa mWi mSi mRo mSp mRw_4 mSn_5 mBg_6 mLa mMo_7 mRm_8 mOw_9 mGo_10 mFr_11 mQu_12 mCh_13 mPB mPS mFs ub uT uK uN uF uS) H := hP
    have hD : va_D A (WM cI cJ cZ cK ad ud pT pK pN pF pS qT qK qN qF qS mKe mUn mFi_42 mRi mBe mWc mAK_2 mSh_3 mIP mUS mWa mWi mSi mRo mSp mRw_4 mSn_5 mBg_6 mLa mMo_7 mRm_8 mOw_9 mGo_10 mFr_11 mQu_12 mCh_13 mPB mPS mFs ub uT uK uN uF uS) := hD
    refine lv_i2l hx hb dX9_slope_15 rfl ?_
    refine lv_goto (tgt := 34) hx hb dX9_slope_16 (by decide) ?_
    exact rt_l (mFi_42, mAK_2, mSh_3, mRw_4, mSn_5, mBg_6, mMo_7, mRm_8, mOw_9, mGo_10, mFr_11, mQu_12, mCh_13) hQ hx hb hr hlk hP hD hS ⟨Nat.zero_le _, Nat.zero_le _⟩ dX9_slope_34 h
def wp_X9_isBend_b42 (Qp : Int32 → (Int32) → (Int32) → (Nat → Int32) → (Nat → Int32) → (Nat → Int32) → (Nat → Int32) → (Nat → Int64) → (Nat → Int64) → (Nat → Int32) → (Nat → Int32) → (Nat → Int32) → (Nat → Int64) → Prop) (mAK_1 : Int32) (mSh_2 : Int32) (mRw_3 : Nat → Int32) (mSn_4 : Nat → Int32) (mBg_5 : Nat → Int32) (mMo_6 : Nat → Int32) (mRm_7 : Nat → Int64) (mOw_8 : Nat → Int64) (mGo_9 : Nat → Int32) (mFr_10 : Nat → Int32) (mQu_11 : Nat → Int32) (mCh_12 : Nat → Int64) : Prop :=
  Qp 1 mAK_1 mSh_2 mRw_3 mSn_4 mBg_5 mMo_6 mRm_7 mOw_8 mGo_9 mFr_10 mQu_11 mCh_12
def wp_X9_isBend (pT : Int32) (pK : Nat → Int32) (pN : Nat → Int32) (pF : Nat → Int32) (mAK : Int32) (mSh : Int32) (mRw : Nat → Int32) (mSn : Nat → Int32) (mBg : Nat → Int32) (mMo : Nat → Int32) (mRm : Nat → Int64) (mOw : Nat → Int64) (mGo : Nat → Int32) (mFr : Nat → Int32) (mQu : Nat → Int32) (mCh : Nat → Int64) (a1 : Int32) (Qp : Int32 → (Int32) → (Int32) → (Nat → Int32) → (Nat → Int32) → (Nat → Int32) → (Nat → Int32) → (Nat → Int64) → (Nat → Int64) → (Nat → Int32) → (Nat → Int32) → (Nat → Int32) → (Nat → Int64) → Prop) : Prop :=
  ((a1 = mSh → wp_X9_isBend_b42 Qp mAK mSh mRw mSn mBg mMo mRm mOw mGo mFr mQu mCh) ∧
   (¬ a1 = mSh → wp_X9_cheapAt pT pK pN pF mAK mSh mRw mSn mBg mMo mRm mOw mGo mFr mQu mCh ((Int32.toInt64 a1) - 1) (fun (r_14 : Int64) (mAK_15 : Int32) (mSh_16 : Int32) (mRw_17 : Nat → Int32) (mSn_18 : Nat → Int32) (mBg_19 : Nat → Int32) (mMo_20 : Nat → Int32) (mRm_21 : Nat → Int64) (mOw_22 : Nat → Int64) (mGo_23 : Nat → Int32) (mFr_24 : Nat → Int32) (mQu_25 : Nat → Int32) (mCh_26 : Nat → Int64) => wp_X9_cheapAt pT pK pN pF mAK_15 mSh_16 mRw_17 mSn_18 mBg_19 mMo_20 mRm_21 mOw_22 mGo_23 mFr_24 mQu_25 mCh_26 (Int32.toInt64 a1) (fun (r_27 : Int64) (mAK_28 : Int32) (mSh_29 : Int32) (mRw_30 : Nat → Int32) (mSn_31 : Nat → Int32) (mBg_32 : Nat → Int32) (mMo_33 : Nat → Int32) (mRm_34 : Nat → Int64) (mOw_35 : Nat → Int64) (mGo_36 : Nat → Int32) (mFr_37 : Nat → Int32) (mQu_38 : Nat → Int32) (mCh_39 : Nat → Int64) => wp_X9_cheapAt pT pK pN pF mAK_28 mSh_29 mRw_30 mSn_31 mBg_32 mMo_33 mRm_34 mOw_35 mGo_36 mFr_37 mQu_38 mCh_39 (Int32.toInt64 a1) (fun (r_40 : Int64) (mAK_41 : Int32) (mSh_42 : Int32) (mRw_43 : Nat → Int32) (mSn_44 : Nat → Int32) (mBg_45 : Nat → Int32) (mMo_46 : Nat → Int32) (mRm_47 : Nat → Int64) (mOw_48 : Nat → Int64) (mGo_49 : Nat → Int32) (mFr_50 : Nat → Int32) (mQu_51 : Nat → Int32) (mCh_52 : Nat → Int64) => wp_X9_cheapAt pT pK pN pF mAK_41 mSh_42 mRw_43 mSn_44 mBg_45 mMo_46 mRm_47 mOw_48 mGo_49 mFr_50 mQu_51 mCh_52 ((Int32.toInt64 a1) + 1) (fun (r_53 : Int64) (mAK_54 : Int32) (mSh_55 : Int32) (mRw_56 : Nat → Int32) (mSn_57 : Nat → Int32) (mBg_58 : Nat → Int32) (mMo_59 : Nat → Int32) (mRm_60 : Nat → Int64) (mOw_61 : Nat → Int64) (mGo_62 : Nat → Int32) (mFr_63 : Nat → Int32) (mQu_64 : Nat → Int32) (mCh_65 : Nat → Int64) => (((lg_cmp (r_14 - r_27) (r_40 - r_53)) = 0 → Qp 0 mAK_54 mSh_55 mRw_56 mSn_57 mBg_58 mMo_59 mRm_60 mOw_61 mGo_62 mFr_63 mQu_64 mCh_65) ∧
   (¬ (lg_cmp (r_14 - r_27) (r_40 - r_53)) = 0 → wp_X9_isBend_b42 Qp mAK_54 mSh_55 mRw_56 mSn_57 mBg_58 mMo_59 mRm_60 mOw_61 mGo_62 mFr_63 mQu_64 mCh_65))))))))
theorem inn_X9_isBend_9 : ∀ w ∈ u_ws RX9 TX9 32, w ∈ wsX9_isBend := fun _ h => List.mem_cons_of_mem _ (List.mem_append_left _ (List.mem_append_right _ h))
def rm_X9_isBend : Room := { frames := 6, cells := 0, slots := 0, locals := 138 }
set_option maxHeartbeats 4000000 in
set_option maxRecDepth 100000 in
theorem ct_X9_isBend {l : Launch} {D : va_G} {cI cJ cZ cE cD cK : ClassId} {ad : Nat → Nat} {ud : Nat → Nat → Nat} {pT : Int32} {pK : Nat → Int32} {pN : Nat → Int32} {pF : Nat → Int32} {pS : Nat → Int32} {qT : Int32} {qK : Nat → Int32} {qN : Nat → Int32} {qF : Nat → Int32} {qS : Nat → Int32} {mKe : Int32} {mUn : Int32} {mFi : Int32} {mRi : Int32} {mBe : Int64} {mWc : Int32} {mAK : Int32} {mSh : Int32} {mIP : Int32} {mUS : Nat → Int32} {mWa : Nat → Int32} {mWi : Nat → Int32} {mSi : Nat → Int32} {mRo : Nat → Int64} {mSp : Nat → Int64} {mRw : Nat → Int32} {mSn : Nat → Int32} {mBg : Nat → Int32} {mLa : Nat → Int32} {mMo : Nat → Int32} {mRm : Nat → Int64} {mOw : Nat → Int64} {mGo : Nat → Int32} {mFr : Nat → Int32} {mQu : Nat → Int32} {mCh : Nat → Int64} {mPB : Nat → Int32} {mPS : Nat → Int32} {mFs : Nat → Int32} {ub : Nat → Nat} {uT : Nat → Int32} {uK : Nat → Nat → Int32} {uN : Nat → Nat → Int32} {uF : Nat → Nat → Int32} {uS : Nat → Nat → Int32}   {a1 : Int32} {Qp : Int32 → (Int32) → (Int32) → (Nat → Int32) → (Nat → Int32) → (Nat → Int32) → (Nat → Int32) → (Nat → Int64) → (Nat → Int64) → (Nat → Int32) → (Nat → Int32) → (Nat → Int32) → (Nat → Int64) → Prop}   (h : wp_X9_isBend pT pK pN pF mAK mSh mRw mSn mBg mMo mRm mOw mGo mFr mQu mCh a1 Qp) : CTi l yX9_isBend wsX9_isBend rm_X9_isBend D (tyL cI cJ cZ cE cD cK) [.ref (ad 0), .int a1] (WM cI cJ cZ cK ad ud pT pK pN pF pS qT qK qN qF qS mKe mUn mFi mRi mBe mWc mAK mSh mIP mUS mWa mWi mSi mRo mSp mRw mSn mBg mLa mMo mRm mOw mGo mFr mQu mCh mPB mPS mFs ub uT uK uN uF uS) (fun (r : Int32) (u : (Int32) × (Int32) × (Nat → Int32) × (Nat → Int32) × (Nat → Int32) × (Nat → Int32) × (Nat → Int64) × (Nat → Int64) × (Nat → Int32) × (Nat → Int32) × (Nat → Int32) × (Nat → Int64)) => Qp r u.1 u.2.1 u.2.2.1 u.2.2.2.1 u.2.2.2.2.1 u.2.2.2.2.2.1 u.2.2.2.2.2.2.1 u.2.2.2.2.2.2.2.1 u.2.2.2.2.2.2.2.2.1 u.2.2.2.2.2.2.2.2.2.1 u.2.2.2.2.2.2.2.2.2.2.1 u.2.2.2.2.2.2.2.2.2.2.2) (fun u : (Int32) × (Int32) × (Nat → Int32) × (Nat → Int32) × (Nat → Int32) × (Nat → Int32) × (Nat → Int64) × (Nat → Int64) × (Nat → Int32) × (Nat → Int32) × (Nat → Int32) × (Nat → Int64) => (WM cI cJ cZ cK ad ud pT pK pN pF pS qT qK qN qF qS mKe mUn mFi mRi mBe mWc u.1 u.2.1 mIP mUS mWa mWi mSi mRo mSp u.2.2.1 u.2.2.2.1 u.2.2.2.2.1 mLa u.2.2.2.2.2.1 u.2.2.2.2.2.2.1 u.2.2.2.2.2.2.2.1 u.2.2.2.2.2.2.2.2.1 u.2.2.2.2.2.2.2.2.2.1 u.2.2.2.2.2.2.2.2.2.2.1 u.2.2.2.2.2.2.2.2.2.2.2 mPB mPS mFs ub uT uK uN uF uS)) 0 0 := by
  refine ent_i (cc := cX9_isBend) (maxL := 2) (ret := (some .boolean)) (by decide) rfl (Nat.le_of_ble_eq_true rfl) ?_
  intro p e s m args below meth c A Q hQ hx hb hr hml hown hts hlk hA hAB hP hD hS ls hl
  have hown : s.vm.findClass RX9 = some m.cls := hown
  have hl : lv_has ls 2 [(0, .ref (ad 0)), (1, .int a1)] := hl
  generalize hH : s.heap = H at hP ⊢
  have hS : va_S A s.heap H [] := by rw [← hH]; exact hS
  clear hH
  generalize ([] : List Loc) = locs at hS ⊢
  have B42 : ∀ (mAK_1 : Int32) (mSh_2 : Int32) (mRw_3 : Nat → Int32) (mSn_4 : Nat → Int32) (mBg_5 : Nat → Int32) (mMo_6 : Nat → Int32) (mRm_7 : Nat → Int64) (mOw_8 : Nat → Int64) (mGo_9 : Nat → Int32) (mFr_10 : Nat → Int32) (mQu_11 : Nat → Int32) (mCh_12 : Nat → Int64), wp_X9_isBend_b42 Qp mAK_1 mSh_2 mRw_3 mSn_4 mBg_5 mMo_6 mRm_7 mOw_8 mGo_9 mFr_10 mQu_11 mCh_12 → ∀ (H : Heap) (locs : List Loc) (ls : Array Slot), va_P D vwCl (WM cI cJ cZ cK ad ud pT pK pN pF pS qT qK qN qF qS mKe mUn mFi mRi mBe mWc mAK_1 mSh_2 mIP mUS mWa mWi mSi mRo mSp mRw_3 mSn_4 mBg_5 mLa mMo_6 mRm_7 mOw_8 mGo_9 mFr_10 mQu_11 mCh_12 mPB mPS mFs ub uT uK uN uF uS) H → va_D A (WM cI cJ cZ cK ad ud pT pK pN pF pS qT qK qN qF qS mKe mUn mFi mRi mBe mWc mAK_1 mSh_2 mIP mUS mWa mWi mSi mRo mSp mRw_3 mSn_4 mBg_5 mLa mMo_6 mRm_7 mOw_8 mGo_9 mFr_10 mQu_11 mCh_12 mPB mPS mFs ub uT uK uN uF uS) → va_S A s.heap H locs → lv_has ls 2 [] → W p l e (headSpec wsX9_isBend rm_X9_isBend).room s m args below meth c H locs 0 0 Q (F0 m 42 ls []) := by
    intro mAK_1 mSh_2 mRw_3 mSn_4 mBg_5 mMo_6 mRm_7 mOw_8 mGo_9 mFr_10 mQu_11 mCh_12 h H locs ls hP hD hS hl
    refine lv_iconst (v := 1) hx hb dX9_isBend_42 (by decide) ?_
    refine lv_goto (tgt := 47) hx hb dX9_isBend_43 (by decide) ?_
    exact rt_z (mAK_1, mSh_2, mRw_3, mSn_4, mBg_5, mMo_6, mRm_7, mOw_8, mGo_9, mFr_10, mQu_11, mCh_12) hQ hx hb hr hlk hP hD hS ⟨Nat.zero_le _, Nat.zero_le _⟩ (by decide) dX9_isBend_47 h
  refine lv_iload_n hx hb dX9_isBend_0 rfl (lv_at hl 1 rfl) ?_
  refine lv_aload_n hx hb dX9_isBend_1 rfl (lv_at hl 0 rfl) ?_
  refine va_get (D := D) (ci := 9) (C := RX9) (T := TX9) (N := 32) hx hb hts inn_X9_isBend_9 hown hAB.1 hP 0 rfl rfl 26 (by decide) (hts (.fieldLink RX9 235 "BarnBenchModel" "shortest" "I") (by decide +kernel)) (fun _ h9 => h9) rfl dX9_isBend_2 ?_
  refine lv_icmp_eq (tgt := 42) hx hb dX9_isBend_5 (by decide) (fun c_13 => ?_) (fun c_13 => ?_)
  · have h := h.1 c_13
    exact B42 mAK mSh mRw mSn mBg mMo mRm mOw mGo mFr mQu mCh h H locs ls hP hD hS (lv_sub hl [] rfl)
  · have h := h.2 c_13
    refine lv_aload_n hx hb dX9_isBend_8 rfl (lv_at hl 0 rfl) ?_
    refine lv_iload_n hx hb dX9_isBend_9 rfl (lv_at hl 1 rfl) ?_
    refine lv_i2l hx hb dX9_isBend_10 rfl ?_
    refine lv_lconst (v := 1) hx hb dX9_isBend_11 (by decide) ?_
    refine lv_lsub hx hb dX9_isBend_12 ?_
    refine cl_l hD hS hA (va_runV (As := [.long ((Int32.toInt64 a1) - 1)]) (rest := []) ⟨hx, hb, hml, hown, hts⟩ (ct_X9_cheapAt h H.size) (cwV 1 hts gX9_isBend_X9_cheapAt rfl rfl rfl (by decide +kernel) ⟨Nat.le_of_ble_eq_true rfl, Nat.le_of_ble_eq_true rfl⟩) ⟨CPre.blind, va_recv hAB.1 hP (ci := 9) (q0 := 0) rfl rfl, wd_pre hAB hP hD hS hA⟩ rfl rfl hl.1 rfl (lv_room (Nat.le_of_ble_eq_true rfl)) dX9_isBend_13 ⟨Nat.zero_le _, Nat.zero_le _⟩) (fun r_14 u H locs h hP hD hS => ?_)
    obtain ⟨mAK_15, mSh_16, mRw_17, mSn_18, mBg_19, mMo_20, mRm_21, mOw_22, mGo_23, mFr_24, mQu_25, mCh_26⟩ := u
    have hP : va_P D vwCl (WM cI cJ cZ cK ad ud pT pK pN pF pS qT qK qN qF qS mKe mUn mFi mRi mBe mWc mAK_15 mSh_16 mIP mUS mWa mWi mSi mRo mSp mRw_17 mSn_18 mBg_19 mLa mMo_20 mRm_21 mOw_22 mGo_23 mFr_24 mQu_25 mCh_26 mPB mPS mFs ub uT uK uN uF uS) H := hP
    have hD : va_D A (WM cI cJ cZ cK ad ud pT pK pN pF pS qT qK qN qF qS mKe mUn mFi mRi mBe mWc mAK_15 mSh_16 mIP mUS mWa mWi mSi mRo mSp mRw_17 mSn_18 mBg_19 mLa mMo_20 mRm_21 mOw_22 mGo_23 mFr_24 mQu_25 mCh_26 mPB mPS mFs ub uT uK uN uF uS) := hD
    refine lv_aload_n hx hb dX9_isBend_16 rfl (lv_at hl 0 rfl) ?_
    refine lv_iload_n hx hb dX9_isBend_17 rfl (lv_at hl 1 rfl) ?_
    refine lv_i2l hx hb dX9_isBend_18 rfl ?_
    refine cl_l hD hS hA (va_runV (As := [.long (Int32.toInt64 a1)]) (rest := [.long r_14]) ⟨hx, hb, hml, hown, hts⟩ (ct_X9_cheapAt h H.size) (cwV 1 hts gX9_isBend_X9_cheapAt rfl rfl rfl (by decide +kernel) ⟨Nat.le_of_ble_eq_true rfl, Nat.le_of_ble_eq_true rfl⟩) ⟨CPre.blind, va_recv hAB.1 hP (ci := 9) (q0 := 0) rfl rfl, wd_pre hAB hP hD hS hA⟩ rfl rfl hl.1 rfl (lv_room (Nat.le_of_ble_eq_true rfl)) dX9_isBend_19 ⟨Nat.zero_le _, Nat.zero_le _⟩) (fun r_27 u H locs h hP hD hS => ?_)
    obtain ⟨mAK_28, mSh_29, mRw_30, mSn_31, mBg_32, mMo_33, mRm_34, mOw_35, mGo_36, mFr_37, mQu_38, mCh_39⟩ := u
    have hP : va_P D vwCl (WM cI cJ cZ cK ad ud pT pK pN pF pS qT qK qN qF qS mKe mUn mFi mRi mBe mWc mAK_28 mSh_29 mIP mUS mWa mWi mSi mRo mSp mRw_30 mSn_31 mBg_32 mLa mMo_33 mRm_34 mOw_35 mGo_36 mFr_37 mQu_38 mCh_39 mPB mPS mFs ub uT uK uN uF uS) H := hP
    have hD : va_D A (WM cI cJ cZ cK ad ud pT pK pN pF pS qT qK qN qF qS mKe mUn mFi mRi mBe mWc mAK_28 mSh_29 mIP mUS mWa mWi mSi mRo mSp mRw_30 mSn_31 mBg_32 mLa mMo_33 mRm_34 mOw_35 mGo_36 mFr_37 mQu_38 mCh_39 mPB mPS mFs ub uT uK uN uF uS) := hD
    refine lv_lsub hx hb dX9_isBend_22 ?_
    refine lv_aload_n hx hb dX9_isBend_23 rfl (lv_at hl 0 rfl) ?_
    refine lv_iload_n hx hb dX9_isBend_24 rfl (lv_at hl 1 rfl) ?_
    refine lv_i2l hx hb dX9_isBend_25 rfl ?_
    refine cl_l hD hS hA (va_runV (As := [.long (Int32.toInt64 a1)]) (rest := [.long (r_14 - r_27)]) ⟨hx, hb, hml, hown, hts⟩ (ct_X9_cheapAt h H.size) (cwV 1 hts gX9_isBend_X9_cheapAt rfl rfl rfl (by decide +kernel) ⟨Nat.le_of_ble_eq_true rfl, Nat.le_of_ble_eq_true rfl⟩) ⟨CPre.blind, va_recv hAB.1 hP (ci := 9) (q0 := 0) rfl rfl, wd_pre hAB hP hD hS hA⟩ rfl rfl hl.1 rfl (lv_room (Nat.le_of_ble_eq_true rfl)) dX9_isBend_26 ⟨Nat.zero_le _, Nat.zero_le _⟩) (fun r_40 u H locs h hP hD hS => ?_)
    obtain ⟨mAK_41, mSh_42, mRw_43, mSn_44, mBg_45, mMo_46, mRm_47, mOw_48, mGo_49, mFr_50, mQu_51, mCh_52⟩ := u
    have hP : va_P D vwCl (WM cI cJ cZ cK ad ud pT pK pN pF pS qT qK qN qF qS mKe mUn mFi mRi mBe mWc mAK_41 mSh_42 mIP mUS mWa mWi mSi mRo mSp mRw_43 mSn_44 mBg_45 mLa mMo_46 mRm_47 mOw_48 mGo_49 mFr_50 mQu_51 mCh_52 mPB mPS mFs ub uT uK uN uF uS) H := hP
    have hD : va_D A (WM cI cJ cZ cK ad ud pT pK pN pF pS qT qK qN qF qS mKe mUn mFi mRi mBe mWc mAK_41 mSh_42 mIP mUS mWa mWi mSi mRo mSp mRw_43 mSn_44 mBg_45 mLa mMo_46 mRm_47 mOw_48 mGo_49 mFr_50 mQu_51 mCh_52 mPB mPS mFs ub uT uK uN uF uS) := hD
    refine lv_aload_n hx hb dX9_isBend_29 rfl (lv_at hl 0 rfl) ?_
    refine lv_iload_n hx hb dX9_isBend_30 rfl (lv_at hl 1 rfl) ?_
    refine lv_i2l hx hb dX9_isBend_31 rfl ?_
    refine lv_lconst (v := 1) hx hb dX9_isBend_32 (by decide) ?_
    refine lv_ladd hx hb dX9_isBend_33 ?_
    refine cl_l hD hS hA (va_runV (As := [.long ((Int32.toInt64 a1) + 1)]) (rest := [.long r_40, .long (r_14 - r_27)]) ⟨hx, hb, hml, hown, hts⟩ (ct_X9_cheapAt h H.size) (cwV 1 hts gX9_isBend_X9_cheapAt rfl rfl rfl (by decide +kernel) ⟨Nat.le_of_ble_eq_true rfl, Nat.le_of_ble_eq_true rfl⟩) ⟨CPre.blind, va_recv hAB.1 hP (ci := 9) (q0 := 0) rfl rfl, wd_pre hAB hP hD hS hA⟩ rfl rfl hl.1 rfl (lv_room (Nat.le_of_ble_eq_true rfl)) dX9_isBend_34 ⟨Nat.zero_le _, Nat.zero_le _⟩) (fun r_53 u H locs h hP hD hS => ?_)
    obtain ⟨mAK_54, mSh_55, mRw_56, mSn_57, mBg_58, mMo_59, mRm_60, mOw_61, mGo_62, mFr_63, mQu_64, mCh_65⟩ := u
    have hP : va_P D vwCl (WM cI cJ cZ cK ad ud pT pK pN pF pS qT qK qN qF qS mKe mUn mFi mRi mBe mWc mAK_54 mSh_55 mIP mUS mWa mWi mSi mRo mSp mRw_56 mSn_57 mBg_58 mLa mMo_59 mRm_60 mOw_61 mGo_62 mFr_63 mQu_64 mCh_65 mPB mPS mFs ub uT uK uN uF uS) H := hP
    have hD : va_D A (WM cI cJ cZ cK ad ud pT pK pN pF pS qT qK qN qF qS mKe mUn mFi mRi mBe mWc mAK_54 mSh_55 mIP mUS mWa mWi mSi mRo mSp mRw_56 mSn_57 mBg_58 mLa mMo_59 mRm_60 mOw_61 mGo_62 mFr_63 mQu_64 mCh_65 mPB mPS mFs ub uT uK uN uF uS) := hD
    refine lv_lsub hx hb dX9_isBend_37 ?_
    refine W.lcmp hx hb dX9_isBend_38 ?_
    refine lv_if_eq (tgt := 46) hx hb dX9_isBend_39 (by decide) (fun c_66 => ?_) (fun c_66 => ?_)
    · have h := h.1 c_66
      refine lv_iconst (v := 0) hx hb dX9_isBend_46 (by decide) ?_
      exact rt_z (mAK_54, mSh_55, mRw_56, mSn_57, mBg_58, mMo_59, mRm_60, mOw_61, mGo_62, mFr_63, mQu_64, mCh_65) hQ hx hb hr hlk hP hD hS ⟨Nat.zero_le _, Nat.zero_le _⟩ (by decide) dX9_isBend_47 h
    · have h := h.2 c_66
      exact B42 mAK_54 mSh_55 mRw_56 mSn_57 mBg_58 mMo_59 mRm_60 mOw_61 mGo_62 mFr_63 mQu_64 mCh_65 h H locs ls hP hD hS (lv_sub hl [] rfl)
def wp_X9_bends_b32 (k11 : (Int32) → (Int32) → (Int32) → (Int32) → (Nat → Int32) → (Nat → Int32) → (Nat → Int32) → (Nat → Int32) → (Nat → Int64) → (Nat → Int64) → (Nat → Int32) → (Nat → Int32) → (Nat → Int32) → (Nat → Int64) → Prop) (y_41 : Int32) (y_42 : Int32) (x2_40 : Int32) (mAK_43 : Int32) (mSh_44 : Int32) (mRw_45 : Nat → Int32) (mSn_46 : Nat → Int32) (mBg_47 : Nat → Int32) (mMo_48 : Nat → Int32) (mRm_49 : Nat → Int64) (mOw_50 : Nat → Int64) (mGo_51 : Nat → Int32) (mFr_52 : Nat → Int32) (mQu_53 : Nat → Int32) (mCh_54 : Nat → Int64) : Prop :=
  ∀ x1_55 : Int32, x1_55 = (y_41 + y_42) → ∀ x2_57 : Int32, x2_57 = x2_40 + 1 → k11 x1_55 x2_57 mAK_43 mSh_44 mRw_45 mSn_46 mBg_47 mMo_48 mRm_49 mOw_50 mGo_51 mFr_52 mQu_53 mCh_54
def wp_X9_bends_L11 (pF : Nat → Int32) (pK : Nat → Int32) (pN : Nat → Int32) (pT : Int32) (x11 : (Int32) → (Int32) → (Int32) → (Nat → Int32) → (Nat → Int32) → (Nat → Int32) → (Nat → Int32) → (Nat → Int64) → (Nat → Int64) → (Nat → Int32) → (Nat → Int32) → (Nat → Int32) → (Nat → Int64) → Prop) : Nat → (Int32) → (Int32) → (Int32) → (Int32) → (Nat → Int32) → (Nat → Int32) → (Nat → Int32) → (Nat → Int32) → (Nat → Int64) → (Nat → Int64) → (Nat → Int32) → (Nat → Int32) → (Nat → Int32) → (Nat → Int64) → Prop
  | 0, _, _, _, _, _, _, _, _, _, _, _, _, _, _ => False
  | n11 + 1, x1_13, x2_14, mAK_15, mSh_16, mRw_17, mSn_18, mBg_19, mMo_20, mRm_21, mOw_22, mGo_23, mFr_24, mQu_25, mCh_26 =>
  ((720 < x2_14 → x11 x1_13 mAK_15 mSh_16 mRw_17 mSn_18 mBg_19 mMo_20 mRm_21 mOw_22 mGo_23 mFr_24 mQu_25 mCh_26) ∧
   (¬ 720 < x2_14 → wp_X9_isBend pT pK pN pF mAK_15 mSh_16 mRw_17 mSn_18 mBg_19 mMo_20 mRm_21 mOw_22 mGo_23 mFr_24 mQu_25 mCh_26 x2_14 (fun (r_60 : Int32) (mAK_61 : Int32) (mSh_62 : Int32) (mRw_63 : Nat → Int32) (mSn_64 : Nat → Int32) (mBg_65 : Nat → Int32) (mMo_66 : Nat → Int32) (mRm_67 : Nat → Int64) (mOw_68 : Nat → Int64) (mGo_69 : Nat → Int32) (mFr_70 : Nat → Int32) (mQu_71 : Nat → Int32) (mCh_72 : Nat → Int64) => ((r_60 = 0 → wp_X9_bends_b32 (wp_X9_bends_L11 pF pK pN pT x11 n11) x1_13 0 x2_14 mAK_61 mSh_62 mRw_63 mSn_64 mBg_65 mMo_66 mRm_67 mOw_68 mGo_69 mFr_70 mQu_71 mCh_72) ∧
   (¬ r_60 = 0 → wp_X9_bends_b32 (wp_X9_bends_L11 pF pK pN pT x11 n11) x1_13 1 x2_14 mAK_61 mSh_62 mRw_63 mSn_64 mBg_65 mMo_66 mRm_67 mOw_68 mGo_69 mFr_70 mQu_71 mCh_72)))))
def wp_X9_bends (pT : Int32) (pK : Nat → Int32) (pN : Nat → Int32) (pF : Nat → Int32) (mAK : Int32) (mSh : Int32) (mRw : Nat → Int32) (mSn : Nat → Int32) (mBg : Nat → Int32) (mMo : Nat → Int32) (mRm : Nat → Int64) (mOw : Nat → Int64) (mGo : Nat → Int32) (mFr : Nat → Int32) (mQu : Nat → Int32) (mCh : Nat → Int64)  (Qp : Int32 → (Int32) → (Int32) → (Nat → Int32) → (Nat → Int32) → (Nat → Int32) → (Nat → Int32) → (Nat → Int64) → (Nat → Int64) → (Nat → Int32) → (Nat → Int32) → (Nat → Int32) → (Nat → Int64) → Prop) : Prop :=
  wp_X9_know pT pK pN pF mAK mSh mRw mSn mBg mMo mRm mOw mGo mFr mQu mCh (fun (mAK_1 : Int32) (mSh_2 : Int32) (mRw_3 : Nat → Int32) (mSn_4 : Nat → Int32) (mBg_5 : Nat → Int32) (mMo_6 : Nat → Int32) (mRm_7 : Nat → Int64) (mOw_8 : Nat → Int64) (mGo_9 : Nat → Int32) (mFr_10 : Nat → Int32) (mQu_11 : Nat → Int32) (mCh_12 : Nat → Int64) => (∃ n11 : Nat, wp_X9_bends_L11 pF pK pN pT (fun (x1_27 : Int32) (mAK_28 : Int32) (mSh_29 : Int32) (mRw_30 : Nat → Int32) (mSn_31 : Nat → Int32) (mBg_32 : Nat → Int32) (mMo_33 : Nat → Int32) (mRm_34 : Nat → Int64) (mOw_35 : Nat → Int64) (mGo_36 : Nat → Int32) (mFr_37 : Nat → Int32) (mQu_38 : Nat → Int32) (mCh_39 : Nat → Int64) => Qp x1_27 mAK_28 mSh_29 mRw_30 mSn_31 mBg_32 mMo_33 mRm_34 mOw_35 mGo_36 mFr_37 mQu_38 mCh_39) n11 0 mSh_2 mAK_1 mSh_2 mRw_3 mSn_4 mBg_5 mMo_6 mRm_7 mOw_8 mGo_9 mFr_10 mQu_11 mCh_12))
theorem inn_X9_bends_9 : ∀ w ∈ u_ws RX9 TX9 32, w ∈ wsX9_bends := fun _ h => List.mem_cons_of_mem _ (List.mem_append_left _ (List.mem_append_right _ h))
def rm_X9_bends : Room := { frames := 7, cells := 0, slots := 0, locals := 159 }
set_option maxHeartbeats 4000000 in
set_option maxRecDepth 100000 in
theorem ct_X9_bends {l : Launch} {D : va_G} {cI cJ cZ cE cD cK : ClassId} {ad : Nat → Nat} {ud : Nat → Nat → Nat} {pT : Int32} {pK : Nat → Int32} {pN : Nat → Int32} {pF : Nat → Int32} {pS : Nat → Int32} {qT : Int32} {qK : Nat → Int32} {qN : Nat → Int32} {qF : Nat → Int32} {qS : Nat → Int32} {mKe : Int32} {mUn : Int32} {mFi : Int32} {mRi : Int32} {mBe : Int64} {mWc : Int32} {mAK : Int32} {mSh : Int32} {mIP : Int32} {mUS : Nat → Int32} {mWa : Nat → Int32} {mWi : Nat → Int32} {mSi : Nat → Int32} {mRo : Nat → Int64} {mSp : Nat → Int64} {mRw : Nat → Int32} {mSn : Nat → Int32} {mBg : Nat → Int32} {mLa : Nat → Int32} {mMo : Nat → Int32} {mRm : Nat → Int64} {mOw : Nat → Int64} {mGo : Nat → Int32} {mFr : Nat → Int32} {mQu : Nat → Int32} {mCh : Nat → Int64} {mPB : Nat → Int32} {mPS : Nat → Int32} {mFs : Nat → Int32} {ub : Nat → Nat} {uT : Nat → Int32} {uK : Nat → Nat → Int32} {uN : Nat → Nat → Int32} {uF : Nat → Nat → Int32} {uS : Nat → Nat → Int32}    {Qp : Int32 → (Int32) → (Int32) → (Nat → Int32) → (Nat → Int32) → (Nat → Int32) → (Nat → Int32) → (Nat → Int64) → (Nat → Int64) → (Nat → Int32) → (Nat → Int32) → (Nat → Int32) → (Nat → Int64) → Prop}   (h : wp_X9_bends pT pK pN pF mAK mSh mRw mSn mBg mMo mRm mOw mGo mFr mQu mCh Qp) : CTi l yX9_bends wsX9_bends rm_X9_bends D (tyL cI cJ cZ cE cD cK) [.ref (ad 0)] (WM cI cJ cZ cK ad ud pT pK pN pF pS qT qK qN qF qS mKe mUn mFi mRi mBe mWc mAK mSh mIP mUS mWa mWi mSi mRo mSp mRw mSn mBg mLa mMo mRm mOw mGo mFr mQu mCh mPB mPS mFs ub uT uK uN uF uS) (fun (r : Int32) (u : (Int32) × (Int32) × (Nat → Int32) × (Nat → Int32) × (Nat → Int32) × (Nat → Int32) × (Nat → Int64) × (Nat → Int64) × (Nat → Int32) × (Nat → Int32) × (Nat → Int32) × (Nat → Int64)) => Qp r u.1 u.2.1 u.2.2.1 u.2.2.2.1 u.2.2.2.2.1 u.2.2.2.2.2.1 u.2.2.2.2.2.2.1 u.2.2.2.2.2.2.2.1 u.2.2.2.2.2.2.2.2.1 u.2.2.2.2.2.2.2.2.2.1 u.2.2.2.2.2.2.2.2.2.2.1 u.2.2.2.2.2.2.2.2.2.2.2) (fun u : (Int32) × (Int32) × (Nat → Int32) × (Nat → Int32) × (Nat → Int32) × (Nat → Int32) × (Nat → Int64) × (Nat → Int64) × (Nat → Int32) × (Nat → Int32) × (Nat → Int32) × (Nat → Int64) => (WM cI cJ cZ cK ad ud pT pK pN pF pS qT qK qN qF qS mKe mUn mFi mRi mBe mWc u.1 u.2.1 mIP mUS mWa mWi mSi mRo mSp u.2.2.1 u.2.2.2.1 u.2.2.2.2.1 mLa u.2.2.2.2.2.1 u.2.2.2.2.2.2.1 u.2.2.2.2.2.2.2.1 u.2.2.2.2.2.2.2.2.1 u.2.2.2.2.2.2.2.2.2.1 u.2.2.2.2.2.2.2.2.2.2.1 u.2.2.2.2.2.2.2.2.2.2.2 mPB mPS mFs ub uT uK uN uF uS)) 0 0 := by
  refine ent_i (cc := cX9_bends) (maxL := 3) (ret := (some .int)) (by decide) rfl (Nat.le_of_ble_eq_true rfl) ?_
  intro p e s m args below meth c A Q hQ hx hb hr hml hown hts hlk hA hAB hP hD hS ls hl
  have hown : s.vm.findClass RX9 = some m.cls := hown
  have hl : lv_has ls 3 [(0, .ref (ad 0))] := hl
  generalize hH : s.heap = H at hP ⊢
  have hS : va_S A s.heap H [] := by rw [← hH]; exact hS
  clear hH
  generalize ([] : List Loc) = locs at hS ⊢
  refine lv_aload_n hx hb dX9_bends_0 rfl (lv_at hl 0 rfl) ?_
  refine cl_v hD hS hA (va_runV (As := []) (rest := []) ⟨hx, hb, hml, hown, hts⟩ (ct_X9_know h H.size) (cwV 0 hts gX9_bends_X9_know rfl rfl rfl (by decide +kernel) ⟨Nat.le_of_ble_eq_true rfl, Nat.le_of_ble_eq_true rfl⟩) ⟨CPre.blind, va_recv hAB.1 hP (ci := 9) (q0 := 0) rfl rfl, wd_pre hAB hP hD hS hA⟩ rfl rfl hl.1 rfl (lv_room (Nat.le_of_ble_eq_true rfl)) dX9_bends_1 ⟨Nat.zero_le _, Nat.zero_le _⟩) (fun u H locs h hP hD hS => ?_)
  obtain ⟨mAK_1, mSh_2, mRw_3, mSn_4, mBg_5, mMo_6, mRm_7, mOw_8, mGo_9, mFr_10, mQu_11, mCh_12⟩ := u
  have hP : va_P D vwCl (WM cI cJ cZ cK ad ud pT pK pN pF pS qT qK qN qF qS mKe mUn mFi mRi mBe mWc mAK_1 mSh_2 mIP mUS mWa mWi mSi mRo mSp mRw_3 mSn_4 mBg_5 mLa mMo_6 mRm_7 mOw_8 mGo_9 mFr_10 mQu_11 mCh_12 mPB mPS mFs ub uT uK uN uF uS) H := hP
  have hD : va_D A (WM cI cJ cZ cK ad ud pT pK pN pF pS qT qK qN qF qS mKe mUn mFi mRi mBe mWc mAK_1 mSh_2 mIP mUS mWa mWi mSi mRo mSp mRw_3 mSn_4 mBg_5 mLa mMo_6 mRm_7 mOw_8 mGo_9 mFr_10 mQu_11 mCh_12 mPB mPS mFs ub uT uK uN uF uS) := hD
  refine lv_iconst (v := 0) hx hb dX9_bends_4 (by decide) ?_
  refine lv_istore_n (lv' := [(1, .int 0), (0, .ref (ad 0))]) hx hb dX9_bends_5 rfl hl (by decide) rfl (fun ls hl => ?_)
  refine lv_aload_n hx hb dX9_bends_6 rfl (lv_at hl 1 rfl) ?_
  refine va_get (D := D) (ci := 9) (C := RX9) (T := TX9) (N := 32) hx hb hts inn_X9_bends_9 hown hAB.1 hP 0 rfl rfl 26 (by decide) (hts (.fieldLink RX9 235 "BarnBenchModel" "shortest" "I") (by decide +kernel)) (fun _ h9 => h9) rfl dX9_bends_7 ?_
  refine lv_istore_n (lv' := [(2, .int mSh_2), (1, .int 0), (0, .ref (ad 0))]) hx hb dX9_bends_10 rfl hl (by decide) rfl (fun ls hl => ?_)
  have L11 : ∀ (x11 : (Int32) → (Int32) → (Int32) → (Nat → Int32) → (Nat → Int32) → (Nat → Int32) → (Nat → Int32) → (Nat → Int64) → (Nat → Int64) → (Nat → Int32) → (Nat → Int32) → (Nat → Int32) → (Nat → Int64) → Prop) (hk11 : ∀ (x1_27 : Int32) (mAK_28 : Int32) (mSh_29 : Int32) (mRw_30 : Nat → Int32) (mSn_31 : Nat → Int32) (mBg_32 : Nat → Int32) (mMo_33 : Nat → Int32) (mRm_34 : Nat → Int64) (mOw_35 : Nat → Int64) (mGo_36 : Nat → Int32) (mFr_37 : Nat → Int32) (mQu_38 : Nat → Int32) (mCh_39 : Nat → Int64), x11 x1_27 mAK_28 mSh_29 mRw_30 mSn_31 mBg_32 mMo_33 mRm_34 mOw_35 mGo_36 mFr_37 mQu_38 mCh_39 → ∀ (H : Heap) (locs : List Loc) (ls : Array Slot), va_P D vwCl (WM cI cJ cZ cK ad ud pT pK pN pF pS qT qK qN qF qS mKe mUn mFi mRi mBe mWc mAK_28 mSh_29 mIP mUS mWa mWi mSi mRo mSp mRw_30 mSn_31 mBg_32 mLa mMo_33 mRm_34 mOw_35 mGo_36 mFr_37 mQu_38 mCh_39 mPB mPS mFs ub uT uK uN uF uS) H → va_D A (WM cI cJ cZ cK ad ud pT pK pN pF pS qT qK qN qF qS mKe mUn mFi mRi mBe mWc mAK_28 mSh_29 mIP mUS mWa mWi mSi mRo mSp mRw_30 mSn_31 mBg_32 mLa mMo_33 mRm_34 mOw_35 mGo_36 mFr_37 mQu_38 mCh_39 mPB mPS mFs ub uT uK uN uF uS) → va_S A s.heap H locs → lv_has ls 3 [(1, .int x1_27)] → W p l e (headSpec wsX9_bends rm_X9_bends).room s m args below meth c H locs 0 0 Q (F0 m 40 ls [])) (n11 : Nat) (x1_13 : Int32) (x2_14 : Int32) (mAK_15 : Int32) (mSh_16 : Int32) (mRw_17 : Nat → Int32) (mSn_18 : Nat → Int32) (mBg_19 : Nat → Int32) (mMo_20 : Nat → Int32) (mRm_21 : Nat → Int64) (mOw_22 : Nat → Int64) (mGo_23 : Nat → Int32) (mFr_24 : Nat → Int32) (mQu_25 : Nat → Int32) (mCh_26 : Nat → Int64), wp_X9_bends_L11 pF pK pN pT x11 n11 x1_13 x2_14 mAK_15 mSh_16 mRw_17 mSn_18 mBg_19 mMo_20 mRm_21 mOw_22 mGo_23 mFr_24 mQu_25 mCh_26 → ∀ (H : Heap) (locs : List Loc) (ls : Array Slot), va_P D vwCl (WM cI cJ cZ cK ad ud pT pK pN pF pS qT qK qN qF qS mKe mUn mFi mRi mBe mWc mAK_15 mSh_16 mIP mUS mWa mWi mSi mRo mSp mRw_17 mSn_18 mBg_19 mLa mMo_20 mRm_21 mOw_22 mGo_23 mFr_24 mQu_25 mCh_26 mPB mPS mFs ub uT uK uN uF uS) H → va_D A (WM cI cJ cZ cK ad ud pT pK pN pF pS qT qK qN qF qS mKe mUn mFi mRi mBe mWc mAK_15 mSh_16 mIP mUS mWa mWi mSi mRo mSp mRw_17 mSn_18 mBg_19 mLa mMo_20 mRm_21 mOw_22 mGo_23 mFr_24 mQu_25 mCh_26 mPB mPS mFs ub uT uK uN uF uS) → va_S A s.heap H locs → lv_has ls 3 [(0, .ref (ad 0)), (1, .int x1_13), (2, .int x2_14)] → W p l e (headSpec wsX9_bends rm_X9_bends).room s m args below meth c H locs 0 0 Q (F0 m 11 ls []) := by
    intro x11 hk11 n11
    induction n11 with
    | zero => intro x1_13 x2_14 mAK_15 mSh_16 mRw_17 mSn_18 mBg_19 mMo_20 mRm_21 mOw_22 mGo_23 mFr_24 mQu_25 mCh_26 h; exact False.elim h
    | succ n11 ih11 =>
      intro x1_13 x2_14 mAK_15 mSh_16 mRw_17 mSn_18 mBg_19 mMo_20 mRm_21 mOw_22 mGo_23 mFr_24 mQu_25 mCh_26 h H locs ls hP hD hS hl
      have B32 : ∀ (y_41 : Int32) (y_42 : Int32) (x2_40 : Int32) (mAK_43 : Int32) (mSh_44 : Int32) (mRw_45 : Nat → Int32) (mSn_46 : Nat → Int32) (mBg_47 : Nat → Int32) (mMo_48 : Nat → Int32) (mRm_49 : Nat → Int64) (mOw_50 : Nat → Int64) (mGo_51 : Nat → Int32) (mFr_52 : Nat → Int32) (mQu_53 : Nat → Int32) (mCh_54 : Nat → Int64), wp_X9_bends_b32 (wp_X9_bends_L11 pF pK pN pT x11 n11) y_41 y_42 x2_40 mAK_43 mSh_44 mRw_45 mSn_46 mBg_47 mMo_48 mRm_49 mOw_50 mGo_51 mFr_52 mQu_53 mCh_54 → ∀ (H : Heap) (locs : List Loc) (ls : Array Slot), va_P D vwCl (WM cI cJ cZ cK ad ud pT pK pN pF pS qT qK qN qF qS mKe mUn mFi mRi mBe mWc mAK_43 mSh_44 mIP mUS mWa mWi mSi mRo mSp mRw_45 mSn_46 mBg_47 mLa mMo_48 mRm_49 mOw_50 mGo_51 mFr_52 mQu_53 mCh_54 mPB mPS mFs ub uT uK uN uF uS) H → va_D A (WM cI cJ cZ cK ad ud pT pK pN pF pS qT qK qN qF qS mKe mUn mFi mRi mBe mWc mAK_43 mSh_44 mIP mUS mWa mWi mSi mRo mSp mRw_45 mSn_46 mBg_47 mLa mMo_48 mRm_49 mOw_50 mGo_51 mFr_52 mQu_53 mCh_54 mPB mPS mFs ub uT uK uN uF uS) → va_S A s.heap H locs → lv_has ls 3 [(0, .ref (ad 0)), (2, .int x2_40)] → W p l e (headSpec wsX9_bends rm_X9_bends).room s m args below meth c H locs 0 0 Q (F0 m 32 ls [.int y_42, .int y_41]) := by
        intro y_41 y_42 x2_40 mAK_43 mSh_44 mRw_45 mSn_46 mBg_47 mMo_48 mRm_49 mOw_50 mGo_51 mFr_52 mQu_53 mCh_54 h H locs ls hP hD hS hl
        refine lv_iadd hx hb dX9_bends_32 ?_
        refine lv_topi (fun x1_55 e_56 => ?_)
        have h := h x1_55 e_56
        refine lv_istore_n (lv' := [(1, .int x1_55), (0, .ref (ad 0)), (2, .int x2_40)]) hx hb dX9_bends_33 rfl hl (by decide) rfl (fun ls hl => ?_)
        obtain ⟨x2_57, e_58⟩ : ∃ y : Int32, y = x2_40 + 1 := ⟨_, rfl⟩
        have h := h x2_57 e_58
        refine lv_iinc (v := x2_57) (lv' := [(2, .int x2_57), (1, .int x1_55), (0, .ref (ad 0))]) hx hb dX9_bends_34 hl (k := 2) rfl (by rw [e_58]; rfl) (by decide) rfl (fun ls hl => ?_)
        refine lv_goto (tgt := 11) hx hb dX9_bends_37 (by decide) ?_
        exact ih11 x1_55 x2_57 mAK_43 mSh_44 mRw_45 mSn_46 mBg_47 mMo_48 mRm_49 mOw_50 mGo_51 mFr_52 mQu_53 mCh_54 h H locs ls hP hD hS (lv_sub hl [2, 1, 0] rfl)
      refine lv_iload_n hx hb dX9_bends_11 rfl (lv_at hl 2 rfl) ?_
      refine lv_sipush (v := 720) hx hb dX9_bends_12 (by decide) ?_
      refine lv_icmp_gt (tgt := 40) hx hb dX9_bends_15 (by decide) (fun c_59 => ?_) (fun c_59 => ?_)
      · have h := h.1 c_59
        exact hk11 x1_13 mAK_15 mSh_16 mRw_17 mSn_18 mBg_19 mMo_20 mRm_21 mOw_22 mGo_23 mFr_24 mQu_25 mCh_26 h H locs ls hP hD hS (lv_sub hl [1] rfl)
      · have h := h.2 c_59
        refine lv_iload_n hx hb dX9_bends_18 rfl (lv_at hl 1 rfl) ?_
        refine lv_aload_n hx hb dX9_bends_19 rfl (lv_at hl 0 rfl) ?_
        refine lv_iload_n hx hb dX9_bends_20 rfl (lv_at hl 2 rfl) ?_
        refine cl_i hD hS hA (va_runV (As := [.int x2_14]) (rest := [.int x1_13]) ⟨hx, hb, hml, hown, hts⟩ (ct_X9_isBend h H.size) (cwV 1 hts gX9_bends_X9_isBend rfl rfl rfl (by decide +kernel) ⟨Nat.le_of_ble_eq_true rfl, Nat.le_of_ble_eq_true rfl⟩) ⟨CPre.blind, va_recv hAB.1 hP (ci := 9) (q0 := 0) rfl rfl, wd_pre hAB hP hD hS hA⟩ rfl rfl hl.1 rfl (lv_room (Nat.le_of_ble_eq_true rfl)) dX9_bends_21 ⟨Nat.zero_le _, Nat.zero_le _⟩) (fun r_60 u H locs h hP hD hS => ?_)
        obtain ⟨mAK_61, mSh_62, mRw_63, mSn_64, mBg_65, mMo_66, mRm_67, mOw_68, mGo_69, mFr_70, mQu_71, mCh_72⟩ := u
        have hP : va_P D vwCl (WM cI cJ cZ cK ad ud pT pK pN pF pS qT qK qN qF qS mKe mUn mFi mRi mBe mWc mAK_61 mSh_62 mIP mUS mWa mWi mSi mRo mSp mRw_63 mSn_64 mBg_65 mLa mMo_66 mRm_67 mOw_68 mGo_69 mFr_70 mQu_71 mCh_72 mPB mPS mFs ub uT uK uN uF uS) H := hP
        have hD : va_D A (WM cI cJ cZ cK ad ud pT pK pN pF pS qT qK qN qF qS mKe mUn mFi mRi mBe mWc mAK_61 mSh_62 mIP mUS mWa mWi mSi mRo mSp mRw_63 mSn_64 mBg_65 mLa mMo_66 mRm_67 mOw_68 mGo_69 mFr_70 mQu_71 mCh_72 mPB mPS mFs ub uT uK uN uF uS) := hD
        refine lv_if_eq (tgt := 31) hx hb dX9_bends_24 (by decide) (fun c_73 => ?_) (fun c_73 => ?_)
        · have h := h.1 c_73
          refine lv_iconst (v := 0) hx hb dX9_bends_31 (by decide) ?_
          exact B32 x1_13 0 x2_14 mAK_61 mSh_62 mRw_63 mSn_64 mBg_65 mMo_66 mRm_67 mOw_68 mGo_69 mFr_70 mQu_71 mCh_72 h H locs ls hP hD hS (lv_sub hl [0, 2] rfl)
        · have h := h.2 c_73
          refine lv_iconst (v := 1) hx hb dX9_bends_27 (by decide) ?_
          refine lv_goto (tgt := 32) hx hb dX9_bends_28 (by decide) ?_
          exact B32 x1_13 1 x2_14 mAK_61 mSh_62 mRw_63 mSn_64 mBg_65 mMo_66 mRm_67 mOw_68 mGo_69 mFr_70 mQu_71 mCh_72 h H locs ls hP hD hS (lv_sub hl [0, 2] rfl)
  obtain ⟨n11, h⟩ := h
  refine L11 _ (fun x1_27 mAK_28 mSh_29 mRw_30 mSn_31 mBg_32 mMo_33 mRm_34 mOw_35 mGo_36 mFr_37 mQu_38 mCh_39 h H locs ls hP hD hS hl => ?_) n11 0 mSh_2 mAK_1 mSh_2 mRw_3 mSn_4 mBg_5 mMo_6 mRm_7 mOw_8 mGo_9 mFr_10 mQu_11 mCh_12 h H locs ls hP hD hS (lv_sub hl [2, 1, 0] rfl)
  refine lv_iload_n hx hb dX9_bends_40 rfl (lv_at hl 0 rfl) ?_
  exact rt_i (mAK_28, mSh_29, mRw_30, mSn_31, mBg_32, mMo_33, mRm_34, mOw_35, mGo_36, mFr_37, mQu_38, mCh_39) hQ hx hb hr hlk hP hD hS ⟨Nat.zero_le _, Nat.zero_le _⟩ dX9_bends_41 h
def wp_X9_bend_b42 (k11 : (Int32) → (Int32) → (Int32) → (Int32) → (Nat → Int32) → (Nat → Int32) → (Nat → Int32) → (Nat → Int32) → (Nat → Int64) → (Nat → Int64) → (Nat → Int32) → (Nat → Int32) → (Nat → Int32) → (Nat → Int64) → Prop) (x2_39 : Int32) (x3_40 : Int32) (mAK_41 : Int32) (mSh_42 : Int32) (mRw_43 : Nat → Int32) (mSn_44 : Nat → Int32) (mBg_45 : Nat → Int32) (mMo_46 : Nat → Int32) (mRm_47 : Nat → Int64) (mOw_48 : Nat → Int64) (mGo_49 : Nat → Int32) (mFr_50 : Nat → Int32) (mQu_51 : Nat → Int32) (mCh_52 : Nat → Int64) : Prop :=
  ∀ x3_53 : Int32, x3_53 = x3_40 + 1 → k11 x2_39 x3_53 mAK_41 mSh_42 mRw_43 mSn_44 mBg_45 mMo_46 mRm_47 mOw_48 mGo_49 mFr_50 mQu_51 mCh_52
def wp_X9_bend_L11 (Qp : Int32 → (Int32) → (Int32) → (Int32) → (Nat → Int32) → (Nat → Int32) → (Nat → Int32) → (Nat → Int32) → (Nat → Int64) → (Nat → Int64) → (Nat → Int32) → (Nat → Int32) → (Nat → Int32) → (Nat → Int64) → Prop) (a1 : Int32) (mFi : Int32) (pF : Nat → Int32) (pK : Nat → Int32) (pN : Nat → Int32) (pT : Int32) (x11 : (Int32) → (Int32) → (Nat → Int32) → (Nat → Int32) → (Nat → Int32) → (Nat → Int32) → (Nat → Int64) → (Nat → Int64) → (Nat → Int32) → (Nat → Int32) → (Nat → Int32) → (Nat → Int64) → Prop) : Nat → (Int32) → (Int32) → (Int32) → (Int32) → (Nat → Int32) → (Nat → Int32) → (Nat → Int32) → (Nat → Int32) → (Nat → Int64) → (Nat → Int64) → (Nat → Int32) → (Nat → Int32) → (Nat → Int32) → (Nat → Int64) → Prop
  | 0, _, _, _, _, _, _, _, _, _, _, _, _, _, _ => False
  | n11 + 1, x2_13, x3_14, mAK_15, mSh_16, mRw_17, mSn_18, mBg_19, mMo_20, mRm_21, mOw_22, mGo_23, mFr_24, mQu_25, mCh_26 =>
  ((720 < x3_14 → x11 mAK_15 mSh_16 mRw_17 mSn_18 mBg_19 mMo_20 mRm_21 mOw_22 mGo_23 mFr_24 mQu_25 mCh_26) ∧
   (¬ 720 < x3_14 → ((a1 < 0 → x11 mAK_15 mSh_16 mRw_17 mSn_18 mBg_19 mMo_20 mRm_21 mOw_22 mGo_23 mFr_24 mQu_25 mCh_26) ∧
   (¬ a1 < 0 → wp_X9_isBend pT pK pN pF mAK_15 mSh_16 mRw_17 mSn_18 mBg_19 mMo_20 mRm_21 mOw_22 mGo_23 mFr_24 mQu_25 mCh_26 x3_14 (fun (r_57 : Int32) (mAK_58 : Int32) (mSh_59 : Int32) (mRw_60 : Nat → Int32) (mSn_61 : Nat → Int32) (mBg_62 : Nat → Int32) (mMo_63 : Nat → Int32) (mRm_64 : Nat → Int64) (mOw_65 : Nat → Int64) (mGo_66 : Nat → Int32) (mFr_67 : Nat → Int32) (mQu_68 : Nat → Int32) (mCh_69 : Nat → Int64) => ((¬ r_57 = 0 → ((¬ x2_13 = 0 → ∀ x2_72 : Int32, x2_72 = x2_13 + (-1) → wp_X9_bend_b42 (wp_X9_bend_L11 Qp a1 mFi pF pK pN pT x11 n11) x2_72 x3_14 mAK_58 mSh_59 mRw_60 mSn_61 mBg_62 mMo_63 mRm_64 mOw_65 mGo_66 mFr_67 mQu_68 mCh_69) ∧
   (x2_13 = 0 → Qp x3_14 mFi mAK_58 mSh_59 mRw_60 mSn_61 mBg_62 mMo_63 mRm_64 mOw_65 mGo_66 mFr_67 mQu_68 mCh_69))) ∧
   (r_57 = 0 → wp_X9_bend_b42 (wp_X9_bend_L11 Qp a1 mFi pF pK pN pT x11 n11) x2_13 x3_14 mAK_58 mSh_59 mRw_60 mSn_61 mBg_62 mMo_63 mRm_64 mOw_65 mGo_66 mFr_67 mQu_68 mCh_69)))))))
def wp_X9_bend (pT : Int32) (pK : Nat → Int32) (pN : Nat → Int32) (pF : Nat → Int32) (mFi : Int32) (mAK : Int32) (mSh : Int32) (mRw : Nat → Int32) (mSn : Nat → Int32) (mBg : Nat → Int32) (mMo : Nat → Int32) (mRm : Nat → Int64) (mOw : Nat → Int64) (mGo : Nat → Int32) (mFr : Nat → Int32) (mQu : Nat → Int32) (mCh : Nat → Int64) (a1 : Int32) (Qp : Int32 → (Int32) → (Int32) → (Int32) → (Nat → Int32) → (Nat → Int32) → (Nat → Int32) → (Nat → Int32) → (Nat → Int64) → (Nat → Int64) → (Nat → Int32) → (Nat → Int32) → (Nat → Int32) → (Nat → Int64) → Prop) : Prop :=
  wp_X9_know pT pK pN pF mAK mSh mRw mSn mBg mMo mRm mOw mGo mFr mQu mCh (fun (mAK_1 : Int32) (mSh_2 : Int32) (mRw_3 : Nat → Int32) (mSn_4 : Nat → Int32) (mBg_5 : Nat → Int32) (mMo_6 : Nat → Int32) (mRm_7 : Nat → Int64) (mOw_8 : Nat → Int64) (mGo_9 : Nat → Int32) (mFr_10 : Nat → Int32) (mQu_11 : Nat → Int32) (mCh_12 : Nat → Int64) => (∃ n11 : Nat, wp_X9_bend_L11 Qp a1 mFi pF pK pN pT (fun (mAK_27 : Int32) (mSh_28 : Int32) (mRw_29 : Nat → Int32) (mSn_30 : Nat → Int32) (mBg_31 : Nat → Int32) (mMo_32 : Nat → Int32) (mRm_33 : Nat → Int64) (mOw_34 : Nat → Int64) (mGo_35 : Nat → Int32) (mFr_36 : Nat → Int32) (mQu_37 : Nat → Int32) (mCh_38 : Nat → Int64) => wp_X9_found mFi (-7) (fun (r_74 : Int32) (mFi_75 : Int32) => Qp r_74 mFi_75 mAK_27 mSh_28 mRw_29 mSn_30 mBg_31 mMo_32 mRm_33 mOw_34 mGo_35 mFr_36 mQu_37 mCh_38)) n11 a1 mSh_2 mAK_1 mSh_2 mRw_3 mSn_4 mBg_5 mMo_6 mRm_7 mOw_8 mGo_9 mFr_10 mQu_11 mCh_12))
theorem inn_X9_bend_9 : ∀ w ∈ u_ws RX9 TX9 32, w ∈ wsX9_bend := fun _ h => List.mem_cons_of_mem _ (List.mem_append_left _ (List.mem_append_right _ h))
def rm_X9_bend : Room := { frames := 7, cells := 0, slots := 0, locals := 159 }
set_option maxHeartbeats 4000000 in
set_option maxRecDepth 100000 in
theorem ct_X9_bend {l : Launch} {D : va_G} {cI cJ cZ cE cD cK : ClassId} {ad : Nat → Nat} {ud : Nat → Nat → Nat} {pT : Int32} {pK : Nat → Int32} {pN : Nat → Int32} {pF : Nat → Int32} {pS : Nat → Int32} {qT : Int32} {qK : Nat → Int32} {qN : Nat → Int32} {qF : Nat → Int32} {qS : Nat → Int32} {mKe : Int32} {mUn : Int32} {mFi : Int32} {mRi : Int32} {mBe : Int64} {mWc : Int32} {mAK : Int32} {mSh : Int32} {mIP : Int32} {mUS : Nat → Int32} {mWa : Nat → Int32} {mWi : Nat → Int32} {mSi : Nat → Int32} {mRo : Nat → Int64} {mSp : Nat → Int64} {mRw : Nat → Int32} {mSn : Nat → Int32} {mBg : Nat → Int32} {mLa : Nat → Int32} {mMo : Nat → Int32} {mRm : Nat → Int64} {mOw : Nat → Int64} {mGo : Nat → Int32} {mFr : Nat → Int32} {mQu : Nat → Int32} {mCh : Nat → Int64} {mPB : Nat → Int32} {mPS : Nat → Int32} {mFs : Nat → Int32} {ub : Nat → Nat} {uT : Nat → Int32} {uK : Nat → Nat → Int32} {uN : Nat → Nat → Int32} {uF : Nat → Nat → Int32} {uS : Nat → Nat → Int32}   {a1 : Int32} {Qp : Int32 → (Int32) → (Int32) → (Int32) → (Nat → Int32) → (Nat → Int32) → (Nat → Int32) → (Nat → Int32) → (Nat → Int64) → (Nat → Int64) → (Nat → Int32) → (Nat → Int32) → (Nat → Int32) → (Nat → Int64) → Prop}   (h : wp_X9_bend pT pK pN pF mFi mAK mSh mRw mSn mBg mMo mRm mOw mGo mFr mQu mCh a1 Qp) : CTi l yX9_bend wsX9_bend rm_X9_bend D (tyL cI cJ cZ cE cD cK) [.ref (ad 0), .int a1] (WM cI cJ cZ cK ad ud pT pK pN pF pS qT qK qN qF qS mKe mUn mFi mRi mBe mWc mAK mSh mIP mUS mWa mWi mSi mRo mSp mRw mSn mBg mLa mMo mRm mOw mGo mFr mQu mCh mPB mPS mFs ub uT uK uN uF uS) (fun (r : Int32) (u : (Int32) × (Int32) × (Int32) × (Nat → Int32) × (Nat → Int32) × (Nat → Int32) × (Nat → Int32) × (Nat → Int64) × (Nat → Int64) × (Nat → Int32) × (Nat → Int32) × (Nat → Int32) × (Nat → Int64)) => Qp r u.1 u.2.1 u.2.2.1 u.2.2.2.1 u.2.2.2.2.1 u.2.2.2.2.2.1 u.2.2.2.2.2.2.1 u.2.2.2.2.2.2.2.1 u.2.2.2.2.2.2.2.2.1 u.2.2.2.2.2.2.2.2.2.1 u.2.2.2.2.2.2.2.2.2.2.1 u.2.2.2.2.2.2.2.2.2.2.2.1 u.2.2.2.2.2.2.2.2.2.2.2.2) (fun u : (Int32) × (Int32) × (Int32) × (Nat → Int32) × (Nat → Int32) × (Nat → Int32) × (Nat → Int32) × (Nat → Int64) × (Nat → Int64) × (Nat → Int32) × (Nat → Int32) × (Nat → Int32) × (Nat → Int64) => (WM cI cJ cZ cK ad ud pT pK pN pF pS qT qK qN qF qS mKe mUn u.1 mRi mBe mWc u.2.1 u.2.2.1 mIP mUS mWa mWi mSi mRo mSp u.2.2.2.1 u.2.2.2.2.1 u.2.2.2.2.2.1 mLa u.2.2.2.2.2.2.1 u.2.2.2.2.2.2.2.1 u.2.2.2.2.2.2.2.2.1 u.2.2.2.2.2.2.2.2.2.1 u.2.2.2.2.2.2.2.2.2.2.1 u.2.2.2.2.2.2.2.2.2.2.2.1 u.2.2.2.2.2.2.2.2.2.2.2.2 mPB mPS mFs ub uT uK uN uF uS)) 0 0 := by
  refine ent_i (cc := cX9_bend) (maxL := 4) (ret := (some .int)) (by decide) rfl (Nat.le_of_ble_eq_true rfl) ?_
  intro p e s m args below meth c A Q hQ hx hb hr hml hown hts hlk hA hAB hP hD hS ls hl
  have hown : s.vm.findClass RX9 = some m.cls := hown
  have hl : lv_has ls 4 [(0, .ref (ad 0)), (1, .int a1)] := hl
  generalize hH : s.heap = H at hP ⊢
  have hS : va_S A s.heap H [] := by rw [← hH]; exact hS
  clear hH
  generalize ([] : List Loc) = locs at hS ⊢
  refine lv_aload_n hx hb dX9_bend_0 rfl (lv_at hl 0 rfl) ?_
  refine cl_v hD hS hA (va_runV (As := []) (rest := []) ⟨hx, hb, hml, hown, hts⟩ (ct_X9_know h H.size) (cwV 0 hts gX9_bend_X9_know rfl rfl rfl (by decide +kernel) ⟨Nat.le_of_ble_eq_true rfl, Nat.le_of_ble_eq_true rfl⟩) ⟨CPre.blind, va_recv hAB.1 hP (ci := 9) (q0 := 0) rfl rfl, wd_pre hAB hP hD hS hA⟩ rfl rfl hl.1 rfl (lv_room (Nat.le_of_ble_eq_true rfl)) dX9_bend_1 ⟨Nat.zero_le _, Nat.zero_le _⟩) (fun u H locs h hP hD hS => ?_)
  obtain ⟨mAK_1, mSh_2, mRw_3, mSn_4, mBg_5, mMo_6, mRm_7, mOw_8, mGo_9, mFr_10, mQu_11, mCh_12⟩ := u
  have hP : va_P D vwCl (WM cI cJ cZ cK ad ud pT pK pN pF pS qT qK qN qF qS mKe mUn mFi mRi mBe mWc mAK_1 mSh_2 mIP mUS mWa mWi mSi mRo mSp mRw_3 mSn_4 mBg_5 mLa mMo_6 mRm_7 mOw_8 mGo_9 mFr_10 mQu_11 mCh_12 mPB mPS mFs ub uT uK uN uF uS) H := hP
  have hD : va_D A (WM cI cJ cZ cK ad ud pT pK pN pF pS qT qK qN qF qS mKe mUn mFi mRi mBe mWc mAK_1 mSh_2 mIP mUS mWa mWi mSi mRo mSp mRw_3 mSn_4 mBg_5 mLa mMo_6 mRm_7 mOw_8 mGo_9 mFr_10 mQu_11 mCh_12 mPB mPS mFs ub uT uK uN uF uS) := hD
  refine lv_iload_n hx hb dX9_bend_4 rfl (lv_at hl 1 rfl) ?_
  refine lv_istore_n (lv' := [(2, .int a1), (0, .ref (ad 0)), (1, .int a1)]) hx hb dX9_bend_5 rfl hl (by decide) rfl (fun ls hl => ?_)
  refine lv_aload_n hx hb dX9_bend_6 rfl (lv_at hl 1 rfl) ?_
  refine va_get (D := D) (ci := 9) (C := RX9) (T := TX9) (N := 32) hx hb hts inn_X9_bend_9 hown hAB.1 hP 0 rfl rfl 26 (by decide) (hts (.fieldLink RX9 235 "BarnBenchModel" "shortest" "I") (by decide +kernel)) (fun _ h9 => h9) rfl dX9_bend_7 ?_
  refine lv_istore_n (lv' := [(3, .int mSh_2), (2, .int a1), (0, .ref (ad 0)), (1, .int a1)]) hx hb dX9_bend_10 rfl hl (by decide) rfl (fun ls hl => ?_)
  have L11 : ∀ (x11 : (Int32) → (Int32) → (Nat → Int32) → (Nat → Int32) → (Nat → Int32) → (Nat → Int32) → (Nat → Int64) → (Nat → Int64) → (Nat → Int32) → (Nat → Int32) → (Nat → Int32) → (Nat → Int64) → Prop) (hk11 : ∀ (mAK_27 : Int32) (mSh_28 : Int32) (mRw_29 : Nat → Int32) (mSn_30 : Nat → Int32) (mBg_31 : Nat → Int32) (mMo_32 : Nat → Int32) (mRm_33 : Nat → Int64) (mOw_34 : Nat → Int64) (mGo_35 : Nat → Int32) (mFr_36 : Nat → Int32) (mQu_37 : Nat → Int32) (mCh_38 : Nat → Int64), x11 mAK_27 mSh_28 mRw_29 mSn_30 mBg_31 mMo_32 mRm_33 mOw_34 mGo_35 mFr_36 mQu_37 mCh_38 → ∀ (H : Heap) (locs : List Loc) (ls : Array Slot), va_P D vwCl (WM cI cJ cZ cK ad ud pT pK pN pF pS qT qK qN qF qS mKe mUn mFi mRi mBe mWc mAK_27 mSh_28 mIP mUS mWa mWi mSi mRo mSp mRw_29 mSn_30 mBg_31 mLa mMo_32 mRm_33 mOw_34 mGo_35 mFr_36 mQu_37 mCh_38 mPB mPS mFs ub uT uK uN uF uS) H → va_D A (WM cI cJ cZ cK ad ud pT pK pN pF pS qT qK qN qF qS mKe mUn mFi mRi mBe mWc mAK_27 mSh_28 mIP mUS mWa mWi mSi mRo mSp mRw_29 mSn_30 mBg_31 mLa mMo_32 mRm_33 mOw_34 mGo_35 mFr_36 mQu_37 mCh_38 mPB mPS mFs ub uT uK uN uF uS) → va_S A s.heap H locs → lv_has ls 4 [(0, .ref (ad 0))] → W p l e (headSpec wsX9_bend rm_X9_bend).room s m args below meth c H locs 0 0 Q (F0 m 48 ls [])) (n11 : Nat) (x2_13 : Int32) (x3_14 : Int32) (mAK_15 : Int32) (mSh_16 : Int32) (mRw_17 : Nat → Int32) (mSn_18 : Nat → Int32) (mBg_19 : Nat → Int32) (mMo_20 : Nat → Int32) (mRm_21 : Nat → Int64) (mOw_22 : Nat → Int64) (mGo_23 : Nat → Int32) (mFr_24 : Nat → Int32) (mQu_25 : Nat → Int32) (mCh_26 : Nat → Int64), wp_X9_bend_L11 Qp a1 mFi pF pK pN pT x11 n11 x2_13 x3_14 mAK_15 mSh_16 mRw_17 mSn_18 mBg_19 mMo_20 mRm_21 mOw_22 mGo_23 mFr_24 mQu_25 mCh_26 → ∀ (H : Heap) (locs : List Loc) (ls : Array Slot), va_P D vwCl (WM cI cJ cZ cK ad ud pT pK pN pF pS qT qK qN qF qS mKe mUn mFi mRi mBe mWc mAK_15 mSh_16 mIP mUS mWa mWi mSi mRo mSp mRw_17 mSn_18 mBg_19 mLa mMo_20 mRm_21 mOw_22 mGo_23 mFr_24 mQu_25 mCh_26 mPB mPS mFs ub uT uK uN uF uS) H → va_D A (WM cI cJ cZ cK ad ud pT pK pN pF pS qT qK qN qF qS mKe mUn mFi mRi mBe mWc mAK_15 mSh_16 mIP mUS mWa mWi mSi mRo mSp mRw_17 mSn_18 mBg_19 mLa mMo_20 mRm_21 mOw_22 mGo_23 mFr_24 mQu_25 mCh_26 mPB mPS mFs ub uT uK uN uF uS) → va_S A s.heap H locs → lv_has ls 4 [(0, .ref (ad 0)), (1, .int a1), (2, .int x2_13), (3, .int x3_14)] → W p l e (headSpec wsX9_bend rm_X9_bend).room s m args below meth c H locs 0 0 Q (F0 m 11 ls []) := by
    intro x11 hk11 n11
    induction n11 with
    | zero => intro x2_13 x3_14 mAK_15 mSh_16 mRw_17 mSn_18 mBg_19 mMo_20 mRm_21 mOw_22 mGo_23 mFr_24 mQu_25 mCh_26 h; exact False.elim h
    | succ n11 ih11 =>
      intro x2_13 x3_14 mAK_15 mSh_16 mRw_17 mSn_18 mBg_19 mMo_20 mRm_21 mOw_22 mGo_23 mFr_24 mQu_25 mCh_26 h H locs ls hP hD hS hl
      have B42 : ∀ (x2_39 : Int32) (x3_40 : Int32) (mAK_41 : Int32) (mSh_42 : Int32) (mRw_43 : Nat → Int32) (mSn_44 : Nat → Int32) (mBg_45 : Nat → Int32) (mMo_46 : Nat → Int32) (mRm_47 : Nat → Int64) (mOw_48 : Nat → Int64) (mGo_49 : Nat → Int32) (mFr_50 : Nat → Int32) (mQu_51 : Nat → Int32) (mCh_52 : Nat → Int64), wp_X9_bend_b42 (wp_X9_bend_L11 Qp a1 mFi pF pK pN pT x11 n11) x2_39 x3_40 mAK_41 mSh_42 mRw_43 mSn_44 mBg_45 mMo_46 mRm_47 mOw_48 mGo_49 mFr_50 mQu_51 mCh_52 → ∀ (H : Heap) (locs : List Loc) (ls : Array Slot), va_P D vwCl (WM cI cJ cZ cK ad ud pT pK pN pF pS qT qK qN qF qS mKe mUn mFi mRi mBe mWc mAK_41 mSh_42 mIP mUS mWa mWi mSi mRo mSp mRw_43 mSn_44 mBg_45 mLa mMo_46 mRm_47 mOw_48 mGo_49 mFr_50 mQu_51 mCh_52 mPB mPS mFs ub uT uK uN uF uS) H → va_D A (WM cI cJ cZ cK ad ud pT pK pN pF pS qT qK qN qF qS mKe mUn mFi mRi mBe mWc mAK_41 mSh_42 mIP mUS mWa mWi mSi mRo mSp mRw_43 mSn_44 mBg_45 mLa mMo_46 mRm_47 mOw_48 mGo_49 mFr_50 mQu_51 mCh_52 mPB mPS mFs ub uT uK uN uF uS) → va_S A s.heap H locs → lv_has ls 4 [(0, .ref (ad 0)), (1, .int a1), (2, .int x2_39), (3, .int x3_40)] → W p l e (headSpec wsX9_bend rm_X9_bend).room s m args below meth c H locs 0 0 Q (F0 m 42 ls []) := by
        intro x2_39 x3_40 mAK_41 mSh_42 mRw_43 mSn_44 mBg_45 mMo_46 mRm_47 mOw_48 mGo_49 mFr_50 mQu_51 mCh_52 h H locs ls hP hD hS hl
        obtain ⟨x3_53, e_54⟩ : ∃ y : Int32, y = x3_40 + 1 := ⟨_, rfl⟩
        have h := h x3_53 e_54
        refine lv_iinc (v := x3_53) (lv' := [(3, .int x3_53), (0, .ref (ad 0)), (1, .int a1), (2, .int x2_39)]) hx hb dX9_bend_42 hl (k := 3) rfl (by rw [e_54]; rfl) (by decide) rfl (fun ls hl => ?_)
        refine lv_goto (tgt := 11) hx hb dX9_bend_45 (by decide) ?_
        exact ih11 x2_39 x3_53 mAK_41 mSh_42 mRw_43 mSn_44 mBg_45 mMo_46 mRm_47 mOw_48 mGo_49 mFr_50 mQu_51 mCh_52 h H locs ls hP hD hS (lv_sub hl [1, 2, 3, 0] rfl)
      refine lv_iload_n hx hb dX9_bend_11 rfl (lv_at hl 3 rfl) ?_
      refine lv_sipush (v := 720) hx hb dX9_bend_12 (by decide) ?_
      refine lv_icmp_gt (tgt := 48) hx hb dX9_bend_15 (by decide) (fun c_55 => ?_) (fun c_55 => ?_)
      · have h := h.1 c_55
        exact hk11 mAK_15 mSh_16 mRw_17 mSn_18 mBg_19 mMo_20 mRm_21 mOw_22 mGo_23 mFr_24 mQu_25 mCh_26 h H locs ls hP hD hS (lv_sub hl [0] rfl)
      · have h := h.2 c_55
        refine lv_iload_n hx hb dX9_bend_18 rfl (lv_at hl 1 rfl) ?_
        refine lv_if_lt (tgt := 48) hx hb dX9_bend_19 (by decide) (fun c_56 => ?_) (fun c_56 => ?_)
        · have h := h.1 c_56
          exact hk11 mAK_15 mSh_16 mRw_17 mSn_18 mBg_19 mMo_20 mRm_21 mOw_22 mGo_23 mFr_24 mQu_25 mCh_26 h H locs ls hP hD hS (lv_sub hl [0] rfl)
        · have h := h.2 c_56
          refine lv_aload_n hx hb dX9_bend_22 rfl (lv_at hl 0 rfl) ?_
          refine lv_iload_n hx hb dX9_bend_23 rfl (lv_at hl 3 rfl) ?_
          refine cl_i hD hS hA (va_runV (As := [.int x3_14]) (rest := []) ⟨hx, hb, hml, hown, hts⟩ (ct_X9_isBend h H.size) (cwV 1 hts gX9_bend_X9_isBend rfl rfl rfl (by decide +kernel) ⟨Nat.le_of_ble_eq_true rfl, Nat.le_of_ble_eq_true rfl⟩) ⟨CPre.blind, va_recv hAB.1 hP (ci := 9) (q0 := 0) rfl rfl, wd_pre hAB hP hD hS hA⟩ rfl rfl hl.1 rfl (lv_room (Nat.le_of_ble_eq_true rfl)) dX9_bend_24 ⟨Nat.zero_le _, Nat.zero_le _⟩) (fun r_57 u H locs h hP hD hS => ?_)
          obtain ⟨mAK_58, mSh_59, mRw_60, mSn_61, mBg_62, mMo_63, mRm_64, mOw_65, mGo_66, mFr_67, mQu_68, mCh_69⟩ := u
          have hP : va_P D vwCl (WM cI cJ cZ cK ad ud pT pK pN pF pS qT qK qN qF qS mKe mUn mFi mRi mBe mWc mAK_58 mSh_59 mIP mUS mWa mWi mSi mRo mSp mRw_60 mSn_61 mBg_62 mLa mMo_63 mRm_64 mOw_65 mGo_66 mFr_67 mQu_68 mCh_69 mPB mPS mFs ub uT uK uN uF uS) H := hP
          have hD : va_D A (WM cI cJ cZ cK ad ud pT pK pN pF pS qT qK qN qF qS mKe mUn mFi mRi mBe mWc mAK_58 mSh_59 mIP mUS mWa mWi mSi mRo mSp mRw_60 mSn_61 mBg_62 mLa mMo_63 mRm_64 mOw_65 mGo_66 mFr_67 mQu_68 mCh_69 mPB mPS mFs ub uT uK uN uF uS) := hD
          refine lv_if_ne (tgt := 33) hx hb dX9_bend_27 (by decide) (fun c_70 => ?_) (fun c_70 => ?_)
          · have h := h.1 c_70
            refine lv_iload_n hx hb dX9_bend_33 rfl (lv_at hl 2 rfl) ?_
            refine lv_if_ne (tgt := 39) hx hb dX9_bend_34 (by decide) (fun c_71 => ?_) (fun c_71 => ?_)
            · have h := h.1 c_71
              obtain ⟨x2_72, e_73⟩ : ∃ y : Int32, y = x2_13 + (-1) := ⟨_, rfl⟩
              have h := h x2_72 e_73
              refine lv_iinc (v := x2_72) (lv' := [(2, .int x2_72), (0, .ref (ad 0)), (1, .int a1), (3, .int x3_14)]) hx hb dX9_bend_39 hl (k := 2) rfl (by rw [e_73]; rfl) (by decide) rfl (fun ls hl => ?_)
              exact B42 x2_72 x3_14 mAK_58 mSh_59 mRw_60 mSn_61 mBg_62 mMo_63 mRm_64 mOw_65 mGo_66 mFr_67 mQu_68 mCh_69 h H locs ls hP hD hS (lv_sub hl [1, 2, 0, 3] rfl)
            · have h := h.2 c_71
              refine lv_iload_n hx hb dX9_bend_37 rfl (lv_at hl 3 rfl) ?_
              exact rt_i (mFi, mAK_58, mSh_59, mRw_60, mSn_61, mBg_62, mMo_63, mRm_64, mOw_65, mGo_66, mFr_67, mQu_68, mCh_69) hQ hx hb hr hlk hP hD hS ⟨Nat.zero_le _, Nat.zero_le _⟩ dX9_bend_38 h
          · have h := h.2 c_70
            refine lv_goto (tgt := 42) hx hb dX9_bend_30 (by decide) ?_
            exact B42 x2_13 x3_14 mAK_58 mSh_59 mRw_60 mSn_61 mBg_62 mMo_63 mRm_64 mOw_65 mGo_66 mFr_67 mQu_68 mCh_69 h H locs ls hP hD hS (lv_sub hl [0, 1, 2, 3] rfl)
  obtain ⟨n11, h⟩ := h
  refine L11 _ (fun mAK_27 mSh_28 mRw_29 mSn_30 mBg_31 mMo_32 mRm_33 mOw_34 mGo_35 mFr_36 mQu_37 mCh_38 h H locs ls hP hD hS hl => ?_) n11 a1 mSh_2 mAK_1 mSh_2 mRw_3 mSn_4 mBg_5 mMo_6 mRm_7 mOw_8 mGo_9 mFr_10 mQu_11 mCh_12 h H locs ls hP hD hS (lv_sub hl [2, 3, 1, 0] rfl)
  refine lv_aload_n hx hb dX9_bend_48 rfl (lv_at hl 0 rfl) ?_
  refine lv_bipush (v := (-7)) hx hb dX9_bend_49 (by decide) ?_
  refine cl_i hD hS hA (va_runV (As := [.int (-7)]) (rest := []) ⟨hx, hb, hml, hown, hts⟩ (ct_X9_found h H.size) (cwV 1 hts gX9_bend_X9_found rfl rfl rfl (by decide +kernel) ⟨Nat.le_of_ble_eq_true rfl, Nat.le_of_ble_eq_true rfl⟩) ⟨CPre.blind, va_recv hAB.1 hP (ci := 9) (q0 := 0) rfl rfl, wd_pre hAB hP hD hS hA⟩ rfl rfl hl.1 rfl (lv_room (Nat.le_of_ble_eq_true rfl)) dX9_bend_51 ⟨Nat.zero_le _, Nat.zero_le _⟩) (fun r_74 mFi_75 H locs h hP hD hS => ?_)
  have hP : va_P D vwCl (WM cI cJ cZ cK ad ud pT pK pN pF pS qT qK qN qF qS mKe mUn mFi_75 mRi mBe mWc mAK_27 mSh_28 mIP mUS mWa mWi mSi mRo mSp mRw_29 mSn_30 mBg_31 mLa mMo_32 mRm_33 mOw_34 mGo_35 mFr_36 mQu_37 mCh_38 mPB mPS mFs ub uT uK uN uF uS) H := hP
  have hD : va_D A (WM cI cJ cZ cK ad ud pT pK pN pF pS qT qK qN qF qS mKe mUn mFi_75 mRi mBe mWc mAK_27 mSh_28 mIP mUS mWa mWi mSi mRo mSp mRw_29 mSn_30 mBg_31 mLa mMo_32 mRm_33 mOw_34 mGo_35 mFr_36 mQu_37 mCh_38 mPB mPS mFs ub uT uK uN uF uS) := hD
  exact rt_i (mFi_75, mAK_27, mSh_28, mRw_29, mSn_30, mBg_31, mMo_32, mRm_33, mOw_34, mGo_35, mFr_36, mQu_37, mCh_38) hQ hx hb hr hlk hP hD hS ⟨Nat.zero_le _, Nat.zero_le _⟩ dX9_bend_54 h
def wp_X9_within_L29 (a1 : Int64) (pF : Nat → Int32) (pK : Nat → Int32) (pN : Nat → Int32) (pT : Int32) (x29 : (Int32) → (Int32) → (Int32) → (Nat → Int32) → (Nat → Int32) → (Nat → Int32) → (Nat → Int32) → (Nat → Int64) → (Nat → Int64) → (Nat → Int32) → (Nat → Int32) → (Nat → Int32) → (Nat → Int64) → Prop) : Nat → (Int32) → (Int32) → (Int32) → (Nat → Int32) → (Nat → Int32) → (Nat → Int32) → (Nat → Int32) → (Nat → Int64) → (Nat → Int64) → (Nat → Int32) → (Nat → Int32) → (Nat → Int32) → (Nat → Int64) → Prop
  | 0, _, _, _, _, _, _, _, _, _, _, _, _, _ => False
  | n29 + 1, x3_27, mAK_28, mSh_29, mRw_30, mSn_31, mBg_32, mMo_33, mRm_34, mOw_35, mGo_36, mFr_37, mQu_38, mCh_39 =>
  wp_X9_cheapAt pT pK pN pF mAK_28 mSh_29 mRw_30 mSn_31 mBg_32 mMo_33 mRm_34 mOw_35 mGo_36 mFr_37 mQu_38 mCh_39 (Int32.toInt64 x3_27) (fun (r_53 : Int64) (mAK_54 : Int32) (mSh_55 : Int32) (mRw_56 : Nat → Int32) (mSn_57 : Nat → Int32) (mBg_58 : Nat → Int32) (mMo_59 : Nat → Int32) (mRm_60 : Nat → Int64) (mOw_61 : Nat → Int64) (mGo_62 : Nat → Int32) (mFr_63 : Nat → Int32) (mQu_64 : Nat → Int32) (mCh_65 : Nat → Int64) => (((lg_cmp r_53 a1) ≤ 0 → x29 x3_27 mAK_54 mSh_55 mRw_56 mSn_57 mBg_58 mMo_59 mRm_60 mOw_61 mGo_62 mFr_63 mQu_64 mCh_65) ∧
   (¬ (lg_cmp r_53 a1) ≤ 0 → ∀ x3_67 : Int32, x3_67 = x3_27 + 1 → (wp_X9_within_L29 a1 pF pK pN pT x29 n29) x3_67 mAK_54 mSh_55 mRw_56 mSn_57 mBg_58 mMo_59 mRm_60 mOw_61 mGo_62 mFr_63 mQu_64 mCh_65)))
def wp_X9_within (pT : Int32) (pK : Nat → Int32) (pN : Nat → Int32) (pF : Nat → Int32) (mFi : Int32) (mBe : Int64) (mAK : Int32) (mSh : Int32) (mRw : Nat → Int32) (mSn : Nat → Int32) (mBg : Nat → Int32) (mMo : Nat → Int32) (mRm : Nat → Int64) (mOw : Nat → Int64) (mGo : Nat → Int32) (mFr : Nat → Int32) (mQu : Nat → Int32) (mCh : Nat → Int64) (a1 : Int64) (Qp : Int64 → (Int32) → (Int64) → (Int32) → (Int32) → (Nat → Int32) → (Nat → Int32) → (Nat → Int32) → (Nat → Int32) → (Nat → Int64) → (Nat → Int64) → (Nat → Int32) → (Nat → Int32) → (Nat → Int32) → (Nat → Int64) → Prop) : Prop :=
  wp_X9_know pT pK pN pF mAK mSh mRw mSn mBg mMo mRm mOw mGo mFr mQu mCh (fun (mAK_1 : Int32) (mSh_2 : Int32) (mRw_3 : Nat → Int32) (mSn_4 : Nat → Int32) (mBg_5 : Nat → Int32) (mMo_6 : Nat → Int32) (mRm_7 : Nat → Int64) (mOw_8 : Nat → Int64) (mGo_9 : Nat → Int32) (mFr_10 : Nat → Int32) (mQu_11 : Nat → Int32) (mCh_12 : Nat → Int64) => wp_X9_cheapAt pT pK pN pF mAK_1 mSh_2 mRw_3 mSn_4 mBg_5 mMo_6 mRm_7 mOw_8 mGo_9 mFr_10 mQu_11 mCh_12 720 (fun (r_13 : Int64) (mAK_14 : Int32) (mSh_15 : Int32) (mRw_16 : Nat → Int32) (mSn_17 : Nat → Int32) (mBg_18 : Nat → Int32) (mMo_19 : Nat → Int32) (mRm_20 : Nat → Int64) (mOw_21 : Nat → Int64) (mGo_22 : Nat → Int32) (mFr_23 : Nat → Int32) (mQu_24 : Nat → Int32) (mCh_25 : Nat → Int64) => (((lg_cmp r_13 a1) ≤ 0 → (∃ n29 : Nat, wp_X9_within_L29 a1 pF pK pN pT (fun (x3_40 : Int32) (mAK_41 : Int32) (mSh_42 : Int32) (mRw_43 : Nat → Int32) (mSn_44 : Nat → Int32) (mBg_45 : Nat → Int32) (mMo_46 : Nat → Int32) (mRm_47 : Nat → Int64) (mOw_48 : Nat → Int64) (mGo_49 : Nat → Int32) (mFr_50 : Nat → Int32) (mQu_51 : Nat → Int32) (mCh_52 : Nat → Int64) => ((¬ x3_40 = mSh_42 → wp_X9_cheapAt pT pK pN pF mAK_41 mSh_42 mRw_43 mSn_44 mBg_45 mMo_46 mRm_47 mOw_48 mGo_49 mFr_50 mQu_51 mCh_52 ((Int32.toInt64 x3_40) - 1) (fun (r_70 : Int64) (mAK_71 : Int32) (mSh_72 : Int32) (mRw_73 : Nat → Int32) (mSn_74 : Nat → Int32) (mBg_75 : Nat → Int32) (mMo_76 : Nat → Int32) (mRm_77 : Nat → Int64) (mOw_78 : Nat → Int64) (mGo_79 : Nat → Int32) (mFr_80 : Nat → Int32) (mQu_81 : Nat → Int32) (mCh_82 : Nat → Int64) => wp_X9_cheapAt pT pK pN pF mAK_71 mSh_72 mRw_73 mSn_74 mBg_75 mMo_76 mRm_77 mOw_78 mGo_79 mFr_80 mQu_81 mCh_82 (Int32.toInt64 x3_40) (fun (r_83 : Int64) (mAK_84 : Int32) (mSh_85 : Int32) (mRw_86 : Nat → Int32) (mSn_87 : Nat → Int32) (mBg_88 : Nat → Int32) (mMo_89 : Nat → Int32) (mRm_90 : Nat → Int64) (mOw_91 : Nat → Int64) (mGo_92 : Nat → Int32) (mFr_93 : Nat → Int32) (mQu_94 : Nat → Int32) (mCh_95 : Nat → Int64) => ∀ x4_96 : Int64, x4_96 = (r_70 - r_83) → wp_X9_cheapAt pT pK pN pF mAK_84 mSh_85 mRw_86 mSn_87 mBg_88 mMo_89 mRm_90 mOw_91 mGo_92 mFr_93 mQu_94 mCh_95 ((Int32.toInt64 x3_40) - 1) (fun (r_98 : Int64) (mAK_99 : Int32) (mSh_100 : Int32) (mRw_101 : Nat → Int32) (mSn_102 : Nat → Int32) (mBg_103 : Nat → Int32) (mMo_104 : Nat → Int32) (mRm_105 : Nat → Int64) (mOw_106 : Nat → Int64) (mGo_107 : Nat → Int32) (mFr_108 : Nat → Int32) (mQu_109 : Nat → Int32) (mCh_110 : Nat → Int64) => ∀ x6_111 : Int64, x6_111 = (((((Int32.toInt64 x3_40) - 1) * x4_96) + r_98) - a1) → wp_X9_common x6_111 x4_96 (fun (r_113 : Int64) => ¬ r_113 = 0 ∧ ∀ mBe_114 : Int64, mBe_114 = (x4_96 / r_113) → ¬ r_113 = 0 ∧ Qp (x6_111 / r_113) mFi mBe_114 mAK_99 mSh_100 mRw_101 mSn_102 mBg_103 mMo_104 mRm_105 mOw_106 mGo_107 mFr_108 mQu_109 mCh_110))))) ∧
   (x3_40 = mSh_42 → ∀ mBe_116 : Int64, mBe_116 = 1 → Qp (Int32.toInt64 x3_40) mFi mBe_116 mAK_41 mSh_42 mRw_43 mSn_44 mBg_45 mMo_46 mRm_47 mOw_48 mGo_49 mFr_50 mQu_51 mCh_52))) n29 mSh_15 mAK_14 mSh_15 mRw_16 mSn_17 mBg_18 mMo_19 mRm_20 mOw_21 mGo_22 mFr_23 mQu_24 mCh_25)) ∧
   (¬ (lg_cmp r_13 a1) ≤ 0 → wp_X9_found mFi (-7) (fun (r_118 : Int32) (mFi_119 : Int32) => Qp (Int32.toInt64 r_118) mFi_119 mBe mAK_14 mSh_15 mRw_16 mSn_17 mBg_18 mMo_19 mRm_20 mOw_21 mGo_22 mFr_23 mQu_24 mCh_25)))))
theorem inn_X9_within_9 : ∀ w ∈ u_ws RX9 TX9 32, w ∈ wsX9_within := fun _ h => List.mem_cons_of_mem _ (List.mem_append_left _ (List.mem_append_right _ h))
def rm_X9_within : Room := { frames := 6, cells := 0, slots := 0, locals := 138 }
set_option maxHeartbeats 4000000 in
set_option maxRecDepth 100000 in
theorem ct_X9_within {l : Launch} {D : va_G} {cI cJ cZ cE cD cK : ClassId} {ad : Nat → Nat} {ud : Nat → Nat → Nat} {pT : Int32} {pK : Nat → Int32} {pN : Nat → Int32} {pF : Nat → Int32} {pS : Nat → Int32} {qT : Int32} {qK : Nat → Int32} {qN : Nat → Int32} {qF : Nat → Int32} {qS : Nat → Int32} {mKe : Int32} {mUn : Int32} {mFi : Int32} {mRi : Int32} {mBe : Int64} {mWc : Int32} {mAK : Int32} {mSh : Int32} {mIP : Int32} {mUS : Nat → Int32} {mWa : Nat → Int32} {mWi : Nat → Int32} {mSi : Nat → Int32} {mRo : Nat → Int64} {mSp : Nat → Int64} {mRw : Nat → Int32} {mSn : Nat → Int32} {mBg : Nat → Int32} {mLa : Nat → Int32} {mMo : Nat → Int32} {mRm : Nat → Int64} {mOw : Nat → Int64} {mGo : Nat → Int32} {mFr : Nat → Int32} {mQu : Nat → Int32} {mCh : Nat → Int64} {mPB : Nat → Int32} {mPS : Nat → Int32} {mFs : Nat → Int32} {ub : Nat → Nat} {uT : Nat → Int32} {uK : Nat → Nat → Int32} {uN : Nat → Nat → Int32} {uF : Nat → Nat → Int32} {uS : Nat → Nat → Int32}   {a1 : Int64} {Qp : Int64 → (Int32) → (Int64) → (Int32) → (Int32) → (Nat → Int32) → (Nat → Int32) → (Nat → Int32) → (Nat → Int32) → (Nat → Int64) → (Nat → Int64) → (Nat → Int32) → (Nat → Int32) → (Nat → Int32) → (Nat → Int64) → Prop}   (h : wp_X9_within pT pK pN pF mFi mBe mAK mSh mRw mSn mBg mMo mRm mOw mGo mFr mQu mCh a1 Qp) : CTl l yX9_within wsX9_within rm_X9_within D (tyL cI cJ cZ cE cD cK) [.ref (ad 0), .long a1] (WM cI cJ cZ cK ad ud pT pK pN pF pS qT qK qN qF qS mKe mUn mFi mRi mBe mWc mAK mSh mIP mUS mWa mWi mSi mRo mSp mRw mSn mBg mLa mMo mRm mOw mGo mFr mQu mCh mPB mPS mFs ub uT uK uN uF uS) (fun (r : Int64) (u : (Int32) × (Int64) × (Int32) × (Int32) × (Nat → Int32) × (Nat → Int32) × (Nat → Int32) × (Nat → Int32) × (Nat → Int64) × (Nat → Int64) × (Nat → Int32) × (Nat → Int32) × (Nat → Int32) × (Nat → Int64)) => Qp r u.1 u.2.1 u.2.2.1 u.2.2.2.1 u.2.2.2.2.1 u.2.2.2.2.2.1 u.2.2.2.2.2.2.1 u.2.2.2.2.2.2.2.1 u.2.2.2.2.2.2.2.2.1 u.2.2.2.2.2.2.2.2.2.1 u.2.2.2.2.2.2.2.2.2.2.1 u.2.2.2.2.2.2.2.2.2.2.2.1 u.2.2.2.2.2.2.2.2.2.2.2.2.1 u.2.2.2.2.2.2.2.2.2.2.2.2.2) (fun u : (Int32) × (Int64) × (Int32) × (Int32) × (Nat → Int32) × (Nat → Int32) × (Nat → Int32) × (Nat → Int32) × (Nat → Int64) × (Nat → Int64) × (Nat → Int32) × (Nat → Int32) × (Nat → Int32) × (Nat → Int64) => (WM cI cJ cZ cK ad ud pT pK pN pF pS qT qK qN qF qS mKe mUn u.1 mRi u.2.1 mWc u.2.2.1 u.2.2.2.1 mIP mUS mWa mWi mSi mRo mSp u.2.2.2.2.1 u.2.2.2.2.2.1 u.2.2.2.2.2.2.1 mLa u.2.2.2.2.2.2.2.1 u.2.2.2.2.2.2.2.2.1 u.2.2.2.2.2.2.2.2.2.1 u.2.2.2.2.2.2.2.2.2.2.1 u.2.2.2.2.2.2.2.2.2.2.2.1 u.2.2.2.2.2.2.2.2.2.2.2.2.1 u.2.2.2.2.2.2.2.2.2.2.2.2.2 mPB mPS mFs ub uT uK uN uF uS)) 0 0 := by
  refine ent_l (cc := cX9_within) (maxL := 10) (ret := (some .long)) (by decide) rfl (Nat.le_of_ble_eq_true rfl) ?_
  intro p e s m args below meth c A Q hQ hx hb hr hml hown hts hlk hA hAB hP hD hS ls hl
  have hown : s.vm.findClass RX9 = some m.cls := hown
  have hl : lv_has ls 10 [(0, .ref (ad 0)), (1, .long a1)] := hl
  generalize hH : s.heap = H at hP ⊢
  have hS : va_S A s.heap H [] := by rw [← hH]; exact hS
  clear hH
  generalize ([] : List Loc) = locs at hS ⊢
  refine lv_aload_n hx hb dX9_within_0 rfl (lv_at hl 0 rfl) ?_
  refine cl_v hD hS hA (va_runV (As := []) (rest := []) ⟨hx, hb, hml, hown, hts⟩ (ct_X9_know h H.size) (cwV 0 hts gX9_within_X9_know rfl rfl rfl (by decide +kernel) ⟨Nat.le_of_ble_eq_true rfl, Nat.le_of_ble_eq_true rfl⟩) ⟨CPre.blind, va_recv hAB.1 hP (ci := 9) (q0 := 0) rfl rfl, wd_pre hAB hP hD hS hA⟩ rfl rfl hl.1 rfl (lv_room (Nat.le_of_ble_eq_true rfl)) dX9_within_1 ⟨Nat.zero_le _, Nat.zero_le _⟩) (fun u H locs h hP hD hS => ?_)
  obtain ⟨mAK_1, mSh_2, mRw_3, mSn_4, mBg_5, mMo_6, mRm_7, mOw_8, mGo_9, mFr_10, mQu_11, mCh_12⟩ := u
  have hP : va_P D vwCl (WM cI cJ cZ cK ad ud pT pK pN pF pS qT qK qN qF qS mKe mUn mFi mRi mBe mWc mAK_1 mSh_2 mIP mUS mWa mWi mSi mRo mSp mRw_3 mSn_4 mBg_5 mLa mMo_6 mRm_7 mOw_8 mGo_9 mFr_10 mQu_11 mCh_12 mPB mPS mFs ub uT uK uN uF uS) H := hP
  have hD : va_D A (WM cI cJ cZ cK ad ud pT pK pN pF pS qT qK qN qF qS mKe mUn mFi mRi mBe mWc mAK_1 mSh_2 mIP mUS mWa mWi mSi mRo mSp mRw_3 mSn_4 mBg_5 mLa mMo_6 mRm_7 mOw_8 mGo_9 mFr_10 mQu_11 mCh_12 mPB mPS mFs ub uT uK uN uF uS) := hD
  refine lv_aload_n hx hb dX9_within_4 rfl (lv_at hl 0 rfl) ?_
  refine lv_ldc2 (v := 720) hx hb hown (hts (.constantLong RX9 254 720) (by decide +kernel)) dX9_within_5 ?_
  refine cl_l hD hS hA (va_runV (As := [.long 720]) (rest := []) ⟨hx, hb, hml, hown, hts⟩ (ct_X9_cheapAt h H.size) (cwV 1 hts gX9_within_X9_cheapAt rfl rfl rfl (by decide +kernel) ⟨Nat.le_of_ble_eq_true rfl, Nat.le_of_ble_eq_true rfl⟩) ⟨CPre.blind, va_recv hAB.1 hP (ci := 9) (q0 := 0) rfl rfl, wd_pre hAB hP hD hS hA⟩ rfl rfl hl.1 rfl (lv_room (Nat.le_of_ble_eq_true rfl)) dX9_within_8 ⟨Nat.zero_le _, Nat.zero_le _⟩) (fun r_13 u H locs h hP hD hS => ?_)
  obtain ⟨mAK_14, mSh_15, mRw_16, mSn_17, mBg_18, mMo_19, mRm_20, mOw_21, mGo_22, mFr_23, mQu_24, mCh_25⟩ := u
  have hP : va_P D vwCl (WM cI cJ cZ cK ad ud pT pK pN pF pS qT qK qN qF qS mKe mUn mFi mRi mBe mWc mAK_14 mSh_15 mIP mUS mWa mWi mSi mRo mSp mRw_16 mSn_17 mBg_18 mLa mMo_19 mRm_20 mOw_21 mGo_22 mFr_23 mQu_24 mCh_25 mPB mPS mFs ub uT uK uN uF uS) H := hP
  have hD : va_D A (WM cI cJ cZ cK ad ud pT pK pN pF pS qT qK qN qF qS mKe mUn mFi mRi mBe mWc mAK_14 mSh_15 mIP mUS mWa mWi mSi mRo mSp mRw_16 mSn_17 mBg_18 mLa mMo_19 mRm_20 mOw_21 mGo_22 mFr_23 mQu_24 mCh_25 mPB mPS mFs ub uT uK uN uF uS) := hD
  refine lv_lload_n hx hb dX9_within_11 rfl (lv_at hl 1 rfl) ?_
  refine W.lcmp hx hb dX9_within_12 ?_
  refine lv_if_le (tgt := 24) hx hb dX9_within_13 (by decide) (fun c_26 => ?_) (fun c_26 => ?_)
  · have h := h.1 c_26
    refine lv_aload_n hx hb dX9_within_24 rfl (lv_at hl 0 rfl) ?_
    refine va_get (D := D) (ci := 9) (C := RX9) (T := TX9) (N := 32) hx hb hts inn_X9_within_9 hown hAB.1 hP 0 rfl rfl 26 (by decide) (hts (.fieldLink RX9 235 "BarnBenchModel" "shortest" "I") (by decide +kernel)) (fun _ h9 => h9) rfl dX9_within_25 ?_
    refine lv_istore_n (lv' := [(3, .int mSh_15), (0, .ref (ad 0)), (1, .long a1)]) hx hb dX9_within_28 rfl hl (by decide) rfl (fun ls hl => ?_)
    have L29 : ∀ (x29 : (Int32) → (Int32) → (Int32) → (Nat → Int32) → (Nat → Int32) → (Nat → Int32) → (Nat → Int32) → (Nat → Int64) → (Nat → Int64) → (Nat → Int32) → (Nat → Int32) → (Nat → Int32) → (Nat → Int64) → Prop) (hk29 : ∀ (x3_40 : Int32) (mAK_41 : Int32) (mSh_42 : Int32) (mRw_43 : Nat → Int32) (mSn_44 : Nat → Int32) (mBg_45 : Nat → Int32) (mMo_46 : Nat → Int32) (mRm_47 : Nat → Int64) (mOw_48 : Nat → Int64) (mGo_49 : Nat → Int32) (mFr_50 : Nat → Int32) (mQu_51 : Nat → Int32) (mCh_52 : Nat → Int64), x29 x3_40 mAK_41 mSh_42 mRw_43 mSn_44 mBg_45 mMo_46 mRm_47 mOw_48 mGo_49 mFr_50 mQu_51 mCh_52 → ∀ (H : Heap) (locs : List Loc) (ls : Array Slot), va_P D vwCl (WM cI cJ cZ cK ad ud pT pK pN pF pS qT qK qN qF qS mKe mUn mFi mRi mBe mWc mAK_41 mSh_42 mIP mUS mWa mWi mSi mRo mSp mRw_43 mSn_44 mBg_45 mLa mMo_46 mRm_47 mOw_48 mGo_49 mFr_50 mQu_51 mCh_52 mPB mPS mFs ub uT uK uN uF uS) H → va_D A (WM cI cJ cZ cK ad ud pT pK pN pF pS qT qK qN qF qS mKe mUn mFi mRi mBe mWc mAK_41 mSh_42 mIP mUS mWa mWi mSi mRo mSp mRw_43 mSn_44 mBg_45 mLa mMo_46 mRm_47 mOw_48 mGo_49 mFr_50 mQu_51 mCh_52 mPB mPS mFs ub uT uK uN uF uS) → va_S A s.heap H locs → lv_has ls 10 [(0, .ref (ad 0)), (1, .long a1), (3, .int x3_40)] → W p l e (headSpec wsX9_within rm_X9_within).room s m args below meth c H locs 0 0 Q (F0 m 46 ls [])) (n29 : Nat) (x3_27 : Int32) (mAK_28 : Int32) (mSh_29 : Int32) (mRw_30 : Nat → Int32) (mSn_31 : Nat → Int32) (mBg_32 : Nat → Int32) (mMo_33 : Nat → Int32) (mRm_34 : Nat → Int64) (mOw_35 : Nat → Int64) (mGo_36 : Nat → Int32) (mFr_37 : Nat → Int32) (mQu_38 : Nat → Int32) (mCh_39 : Nat → Int64), wp_X9_within_L29 a1 pF pK pN pT x29 n29 x3_27 mAK_28 mSh_29 mRw_30 mSn_31 mBg_32 mMo_33 mRm_34 mOw_35 mGo_36 mFr_37 mQu_38 mCh_39 → ∀ (H : Heap) (locs : List Loc) (ls : Array Slot), va_P D vwCl (WM cI cJ cZ cK ad ud pT pK pN pF pS qT qK qN qF qS mKe mUn mFi mRi mBe mWc mAK_28 mSh_29 mIP mUS mWa mWi mSi mRo mSp mRw_30 mSn_31 mBg_32 mLa mMo_33 mRm_34 mOw_35 mGo_36 mFr_37 mQu_38 mCh_39 mPB mPS mFs ub uT uK uN uF uS) H → va_D A (WM cI cJ cZ cK ad ud pT pK pN pF pS qT qK qN qF qS mKe mUn mFi mRi mBe mWc mAK_28 mSh_29 mIP mUS mWa mWi mSi mRo mSp mRw_30 mSn_31 mBg_32 mLa mMo_33 mRm_34 mOw_35 mGo_36 mFr_37 mQu_38 mCh_39 mPB mPS mFs ub uT uK uN uF uS) → va_S A s.heap H locs → lv_has ls 10 [(0, .ref (ad 0)), (1, .long a1), (3, .int x3_27)] → W p l e (headSpec wsX9_within rm_X9_within).room s m args below meth c H locs 0 0 Q (F0 m 29 ls []) := by
      intro x29 hk29 n29
      induction n29 with
      | zero => intro x3_27 mAK_28 mSh_29 mRw_30 mSn_31 mBg_32 mMo_33 mRm_34 mOw_35 mGo_36 mFr_37 mQu_38 mCh_39 h; exact False.elim h
      | succ n29 ih29 =>
        intro x3_27 mAK_28 mSh_29 mRw_30 mSn_31 mBg_32 mMo_33 mRm_34 mOw_35 mGo_36 mFr_37 mQu_38 mCh_39 h H locs ls hP hD hS hl
        refine lv_aload_n hx hb dX9_within_29 rfl (lv_at hl 0 rfl) ?_
        refine lv_iload_n hx hb dX9_within_30 rfl (lv_at hl 2 rfl) ?_
        refine lv_i2l hx hb dX9_within_31 rfl ?_
        refine cl_l hD hS hA (va_runV (As := [.long (Int32.toInt64 x3_27)]) (rest := []) ⟨hx, hb, hml, hown, hts⟩ (ct_X9_cheapAt h H.size) (cwV 1 hts gX9_within_X9_cheapAt rfl rfl rfl (by decide +kernel) ⟨Nat.le_of_ble_eq_true rfl, Nat.le_of_ble_eq_true rfl⟩) ⟨CPre.blind, va_recv hAB.1 hP (ci := 9) (q0 := 0) rfl rfl, wd_pre hAB hP hD hS hA⟩ rfl rfl hl.1 rfl (lv_room (Nat.le_of_ble_eq_true rfl)) dX9_within_32 ⟨Nat.zero_le _, Nat.zero_le _⟩) (fun r_53 u H locs h hP hD hS => ?_)
        obtain ⟨mAK_54, mSh_55, mRw_56, mSn_57, mBg_58, mMo_59, mRm_60, mOw_61, mGo_62, mFr_63, mQu_64, mCh_65⟩ := u
        have hP : va_P D vwCl (WM cI cJ cZ cK ad ud pT pK pN pF pS qT qK qN qF qS mKe mUn mFi mRi mBe mWc mAK_54 mSh_55 mIP mUS mWa mWi mSi mRo mSp mRw_56 mSn_57 mBg_58 mLa mMo_59 mRm_60 mOw_61 mGo_62 mFr_63 mQu_64 mCh_65 mPB mPS mFs ub uT uK uN uF uS) H := hP
        have hD : va_D A (WM cI cJ cZ cK ad ud pT pK pN pF pS qT qK qN qF qS mKe mUn mFi mRi mBe mWc mAK_54 mSh_55 mIP mUS mWa mWi mSi mRo mSp mRw_56 mSn_57 mBg_58 mLa mMo_59 mRm_60 mOw_61 mGo_62 mFr_63 mQu_64 mCh_65 mPB mPS mFs ub uT uK uN uF uS) := hD
        refine lv_lload_n hx hb dX9_within_35 rfl (lv_at hl 1 rfl) ?_
        refine W.lcmp hx hb dX9_within_36 ?_
        refine lv_if_le (tgt := 46) hx hb dX9_within_37 (by decide) (fun c_66 => ?_) (fun c_66 => ?_)
        · have h := h.1 c_66
          exact hk29 x3_27 mAK_54 mSh_55 mRw_56 mSn_57 mBg_58 mMo_59 mRm_60 mOw_61 mGo_62 mFr_63 mQu_64 mCh_65 h H locs ls hP hD hS (lv_sub hl [0, 1, 2] rfl)
        · have h := h.2 c_66
          obtain ⟨x3_67, e_68⟩ : ∃ y : Int32, y = x3_27 + 1 := ⟨_, rfl⟩
          have h := h x3_67 e_68
          refine lv_iinc (v := x3_67) (lv' := [(3, .int x3_67), (0, .ref (ad 0)), (1, .long a1)]) hx hb dX9_within_40 hl (k := 2) rfl (by rw [e_68]; rfl) (by decide) rfl (fun ls hl => ?_)
          refine lv_goto (tgt := 29) hx hb dX9_within_43 (by decide) ?_
          exact ih29 x3_67 mAK_54 mSh_55 mRw_56 mSn_57 mBg_58 mMo_59 mRm_60 mOw_61 mGo_62 mFr_63 mQu_64 mCh_65 h H locs ls hP hD hS (lv_sub hl [1, 2, 0] rfl)
    obtain ⟨n29, h⟩ := h
    refine L29 _ (fun x3_40 mAK_41 mSh_42 mRw_43 mSn_44 mBg_45 mMo_46 mRm_47 mOw_48 mGo_49 mFr_50 mQu_51 mCh_52 h H locs ls hP hD hS hl => ?_) n29 mSh_15 mAK_14 mSh_15 mRw_16 mSn_17 mBg_18 mMo_19 mRm_20 mOw_21 mGo_22 mFr_23 mQu_24 mCh_25 h H locs ls hP hD hS (lv_sub hl [1, 2, 0] rfl)
    refine lv_iload_n hx hb dX9_within_46 rfl (lv_at hl 2 rfl) ?_
    refine lv_aload_n hx hb dX9_within_47 rfl (lv_at hl 0 rfl) ?_
    refine va_get (D := D) (ci := 9) (C := RX9) (T := TX9) (N := 32) hx hb hts inn_X9_within_9 hown hAB.1 hP 0 rfl rfl 26 (by decide) (hts (.fieldLink RX9 235 "BarnBenchModel" "shortest" "I") (by decide +kernel)) (fun _ h9 => h9) rfl dX9_within_48 ?_
    refine lv_icmp_ne (tgt := 62) hx hb dX9_within_51 (by decide) (fun c_69 => ?_) (fun c_69 => ?_)
    · have h := h.1 c_69
      refine lv_aload_n hx hb dX9_within_62 rfl (lv_at hl 0 rfl) ?_
      refine lv_iload_n hx hb dX9_within_63 rfl (lv_at hl 2 rfl) ?_
      refine lv_i2l hx hb dX9_within_64 rfl ?_
      refine lv_lconst (v := 1) hx hb dX9_within_65 (by decide) ?_
      refine lv_lsub hx hb dX9_within_66 ?_
      refine cl_l hD hS hA (va_runV (As := [.long ((Int32.toInt64 x3_40) - 1)]) (rest := []) ⟨hx, hb, hml, hown, hts⟩ (ct_X9_cheapAt h H.size) (cwV 1 hts gX9_within_X9_cheapAt rfl rfl rfl (by decide +kernel) ⟨Nat.le_of_ble_eq_true rfl, Nat.le_of_ble_eq_true rfl⟩) ⟨CPre.blind, va_recv hAB.1 hP (ci := 9) (q0 := 0) rfl rfl, wd_pre hAB hP hD hS hA⟩ rfl rfl hl.1 rfl (lv_room (Nat.le_of_ble_eq_true rfl)) dX9_within_67 ⟨Nat.zero_le _, Nat.zero_le _⟩) (fun r_70 u H locs h hP hD hS => ?_)
      obtain ⟨mAK_71, mSh_72, mRw_73, mSn_74, mBg_75, mMo_76, mRm_77, mOw_78, mGo_79, mFr_80, mQu_81, mCh_82⟩ := u
      have hP : va_P D vwCl (WM cI cJ cZ cK ad ud pT pK pN pF pS qT qK qN qF qS mKe mUn mFi mRi mBe mWc mAK_71 mSh_72 mIP mUS mWa mWi mSi mRo mSp mRw_73 mSn_74 mBg_75 mLa mMo_76 mRm_77 mOw_78 mGo_79 mFr_80 mQu_81 mCh_82 mPB mPS mFs ub uT uK uN uF uS) H := hP
      have hD : va_D A (WM cI cJ cZ cK ad ud pT pK pN pF pS qT qK qN qF qS mKe mUn mFi mRi mBe mWc mAK_71 mSh_72 mIP mUS mWa mWi mSi mRo mSp mRw_73 mSn_74 mBg_75 mLa mMo_76 mRm_77 mOw_78 mGo_79 mFr_80 mQu_81 mCh_82 mPB mPS mFs ub uT uK uN uF uS) := hD
      refine lv_aload_n hx hb dX9_within_70 rfl (lv_at hl 0 rfl) ?_
      refine lv_iload_n hx hb dX9_within_71 rfl (lv_at hl 2 rfl) ?_
      refine lv_i2l hx hb dX9_within_72 rfl ?_
      refine cl_l hD hS hA (va_runV (As := [.long (Int32.toInt64 x3_40)]) (rest := [.long r_70]) ⟨hx, hb, hml, hown, hts⟩ (ct_X9_cheapAt h H.size) (cwV 1 hts gX9_within_X9_cheapAt rfl rfl rfl (by decide +kernel) ⟨Nat.le_of_ble_eq_true rfl, Nat.le_of_ble_eq_true rfl⟩) ⟨CPre.blind, va_recv hAB.1 hP (ci := 9) (q0 := 0) rfl rfl, wd_pre hAB hP hD hS hA⟩ rfl rfl hl.1 rfl (lv_room (Nat.le_of_ble_eq_true rfl)) dX9_within_73 ⟨Nat.zero_le _, Nat.zero_le _⟩) (fun r_83 u H locs h hP hD hS => ?_)
      obtain ⟨mAK_84, mSh_85, mRw_86, mSn_87, mBg_88, mMo_89, mRm_90, mOw_91, mGo_92, mFr_93, mQu_94, mCh_95⟩ := u
      have hP : va_P D vwCl (WM cI cJ cZ cK ad ud pT pK pN pF pS qT qK qN qF qS mKe mUn mFi mRi mBe mWc mAK_84 mSh_85 mIP mUS mWa mWi mSi mRo mSp mRw_86 mSn_87 mBg_88 mLa mMo_89 mRm_90 mOw_91 mGo_92 mFr_93 mQu_94 mCh_95 mPB mPS mFs ub uT uK uN uF uS) H := hP
      have hD : va_D A (WM cI cJ cZ cK ad ud pT pK pN pF pS qT qK qN qF qS mKe mUn mFi mRi mBe mWc mAK_84 mSh_85 mIP mUS mWa mWi mSi mRo mSp mRw_86 mSn_87 mBg_88 mLa mMo_89 mRm_90 mOw_91 mGo_92 mFr_93 mQu_94 mCh_95 mPB mPS mFs ub uT uK uN uF uS) := hD
      refine lv_lsub hx hb dX9_within_76 ?_
      refine lv_topl (fun x4_96 e_97 => ?_)
      have h := h x4_96 e_97
      refine lv_lstore (lv' := [(4, .long x4_96), (0, .ref (ad 0)), (1, .long a1), (3, .int x3_40)]) hx hb dX9_within_77 hl (by decide) rfl (fun ls hl => ?_)
      refine lv_iload_n hx hb dX9_within_79 rfl (lv_at hl 3 rfl) ?_
      refine lv_i2l hx hb dX9_within_80 rfl ?_
      refine lv_lconst (v := 1) hx hb dX9_within_81 (by decide) ?_
      refine lv_lsub hx hb dX9_within_82 ?_
      refine lv_lload hx hb dX9_within_83 (lv_at hl 0 rfl) ?_
      refine lv_lmul hx hb dX9_within_85 ?_
      refine lv_aload_n hx hb dX9_within_86 rfl (lv_at hl 1 rfl) ?_
      refine lv_iload_n hx hb dX9_within_87 rfl (lv_at hl 3 rfl) ?_
      refine lv_i2l hx hb dX9_within_88 rfl ?_
      refine lv_lconst (v := 1) hx hb dX9_within_89 (by decide) ?_
      refine lv_lsub hx hb dX9_within_90 ?_
      refine cl_l hD hS hA (va_runV (As := [.long ((Int32.toInt64 x3_40) - 1)]) (rest := [.long (((Int32.toInt64 x3_40) - 1) * x4_96)]) ⟨hx, hb, hml, hown, hts⟩ (ct_X9_cheapAt h H.size) (cwV 1 hts gX9_within_X9_cheapAt rfl rfl rfl (by decide +kernel) ⟨Nat.le_of_ble_eq_true rfl, Nat.le_of_ble_eq_true rfl⟩) ⟨CPre.blind, va_recv hAB.1 hP (ci := 9) (q0 := 0) rfl rfl, wd_pre hAB hP hD hS hA⟩ rfl rfl hl.1 rfl (lv_room (Nat.le_of_ble_eq_true rfl)) dX9_within_91 ⟨Nat.zero_le _, Nat.zero_le _⟩) (fun r_98 u H locs h hP hD hS => ?_)
      obtain ⟨mAK_99, mSh_100, mRw_101, mSn_102, mBg_103, mMo_104, mRm_105, mOw_106, mGo_107, mFr_108, mQu_109, mCh_110⟩ := u
      have hP : va_P D vwCl (WM cI cJ cZ cK ad ud pT pK pN pF pS qT qK qN qF qS mKe mUn mFi mRi mBe mWc mAK_99 mSh_100 mIP mUS mWa mWi mSi mRo mSp mRw_101 mSn_102 mBg_103 mLa mMo_104 mRm_105 mOw_106 mGo_107 mFr_108 mQu_109 mCh_110 mPB mPS mFs ub uT uK uN uF uS) H := hP
      have hD : va_D A (WM cI cJ cZ cK ad ud pT pK pN pF pS qT qK qN qF qS mKe mUn mFi mRi mBe mWc mAK_99 mSh_100 mIP mUS mWa mWi mSi mRo mSp mRw_101 mSn_102 mBg_103 mLa mMo_104 mRm_105 mOw_106 mGo_107 mFr_108 mQu_109 mCh_110 mPB mPS mFs ub uT uK uN uF uS) := hD
      refine lv_ladd hx hb dX9_within_94 ?_
      refine lv_lload_n hx hb dX9_within_95 rfl (lv_at hl 2 rfl) ?_
      refine lv_lsub hx hb dX9_within_96 ?_
      refine lv_topl (fun x6_111 e_112 => ?_)
      have h := h x6_111 e_112
      refine lv_lstore (lv' := [(6, .long x6_111), (4, .long x4_96), (0, .ref (ad 0)), (1, .long a1), (3, .int x3_40)]) hx hb dX9_within_97 hl (by decide) rfl (fun ls hl => ?_)
      refine lv_lload hx hb dX9_within_99 (lv_at hl 0 rfl) ?_
      refine lv_lload hx hb dX9_within_101 (lv_at hl 1 rfl) ?_
      refine cl_l hD hS hA (va_runS (As := [.long x6_111, .long x4_96]) (rest := []) ⟨hx, hb, hml, hown, hts⟩ (ct_X9_common h H.size) (va_cwS 2 hts gX9_within_X9_common rfl rfl rfl (by decide +kernel) ⟨Nat.le_of_ble_eq_true rfl, Nat.le_of_ble_eq_true rfl⟩) ⟨CPre.blind, wd_pre hAB hP hD hS hA⟩ rfl rfl hl.1 rfl (lv_room (Nat.le_of_ble_eq_true rfl)) dX9_within_103 ⟨Nat.zero_le _, Nat.zero_le _⟩) (fun r_113 u H locs h hP hD hS => ?_)
      refine lv_lstore (lv' := [(8, .long r_113), (6, .long x6_111), (4, .long x4_96), (0, .ref (ad 0)), (1, .long a1), (3, .int x3_40)]) hx hb dX9_within_106 hl (by decide) rfl (fun ls hl => ?_)
      refine lv_aload_n hx hb dX9_within_108 rfl (lv_at hl 3 rfl) ?_
      refine lv_lload hx hb dX9_within_109 (lv_at hl 2 rfl) ?_
      refine lv_lload hx hb dX9_within_111 (lv_at hl 0 rfl) ?_
      refine lv_ldiv hx hb dX9_within_113 h.1 ?_
      have h := h.2
      refine fM_0_below hx hb hAB hP hD hS hts inn_X9_within_9 hown (hts (.fieldLink RX9 27 "BarnBenchModel" "below" "J") (by decide +kernel)) dX9_within_114 (fun mBe_114 H locs e_115 hP hD hS => ?_)
      have h := h mBe_114 e_115
      refine lv_lload hx hb dX9_within_117 (lv_at hl 1 rfl) ?_
      refine lv_lload hx hb dX9_within_119 (lv_at hl 0 rfl) ?_
      refine lv_ldiv hx hb dX9_within_121 h.1 ?_
      have h := h.2
      exact rt_l (mFi, mBe_114, mAK_99, mSh_100, mRw_101, mSn_102, mBg_103, mMo_104, mRm_105, mOw_106, mGo_107, mFr_108, mQu_109, mCh_110) hQ hx hb hr hlk hP hD hS ⟨Nat.zero_le _, Nat.zero_le _⟩ dX9_within_122 h
    · have h := h.2 c_69
      refine lv_aload_n hx hb dX9_within_54 rfl (lv_at hl 0 rfl) ?_
      refine lv_lconst (v := 1) hx hb dX9_within_55 (by decide) ?_
      refine fM_0_below hx hb hAB hP hD hS hts inn_X9_within_9 hown (hts (.fieldLink RX9 27 "BarnBenchModel" "below" "J") (by decide +kernel)) dX9_within_56 (fun mBe_116 H locs e_117 hP hD hS => ?_)
      have h := h mBe_116 e_117
      refine lv_iload_n hx hb dX9_within_59 rfl (lv_at hl 2 rfl) ?_
      refine lv_i2l hx hb dX9_within_60 rfl ?_
      exact rt_l (mFi, mBe_116, mAK_41, mSh_42, mRw_43, mSn_44, mBg_45, mMo_46, mRm_47, mOw_48, mGo_49, mFr_50, mQu_51, mCh_52) hQ hx hb hr hlk hP hD hS ⟨Nat.zero_le _, Nat.zero_le _⟩ dX9_within_61 h
  · have h := h.2 c_26
    refine lv_aload_n hx hb dX9_within_16 rfl (lv_at hl 0 rfl) ?_
    refine lv_bipush (v := (-7)) hx hb dX9_within_17 (by decide) ?_
    refine cl_i hD hS hA (va_runV (As := [.int (-7)]) (rest := []) ⟨hx, hb, hml, hown, hts⟩ (ct_X9_found h H.size) (cwV 1 hts gX9_within_X9_found rfl rfl rfl (by decide +kernel) ⟨Nat.le_of_ble_eq_true rfl, Nat.le_of_ble_eq_true rfl⟩) ⟨CPre.blind, va_recv hAB.1 hP (ci := 9) (q0 := 0) rfl rfl, wd_pre hAB hP hD hS hA⟩ rfl rfl hl.1 rfl (lv_room (Nat.le_of_ble_eq_true rfl)) dX9_within_19 ⟨Nat.zero_le _, Nat.zero_le _⟩) (fun r_118 mFi_119 H locs h hP hD hS => ?_)
    have hP : va_P D vwCl (WM cI cJ cZ cK ad ud pT pK pN pF pS qT qK qN qF qS mKe mUn mFi_119 mRi mBe mWc mAK_14 mSh_15 mIP mUS mWa mWi mSi mRo mSp mRw_16 mSn_17 mBg_18 mLa mMo_19 mRm_20 mOw_21 mGo_22 mFr_23 mQu_24 mCh_25 mPB mPS mFs ub uT uK uN uF uS) H := hP
    have hD : va_D A (WM cI cJ cZ cK ad ud pT pK pN pF pS qT qK qN qF qS mKe mUn mFi_119 mRi mBe mWc mAK_14 mSh_15 mIP mUS mWa mWi mSi mRo mSp mRw_16 mSn_17 mBg_18 mLa mMo_19 mRm_20 mOw_21 mGo_22 mFr_23 mQu_24 mCh_25 mPB mPS mFs ub uT uK uN uF uS) := hD
    refine lv_i2l hx hb dX9_within_22 rfl ?_
    exact rt_l (mFi_119, mBe, mAK_14, mSh_15, mRw_16, mSn_17, mBg_18, mMo_19, mRm_20, mOw_21, mGo_22, mFr_23, mQu_24, mCh_25) hQ hx hb hr hlk hP hD hS ⟨Nat.zero_le _, Nat.zero_le _⟩ dX9_within_23 h
def wp_X9_plan_L23 (pT : Int32) (mMo_18 : Nat → Int32) (x23 : (Nat → Int32) → (Nat → Int32) → Prop) : Nat → (Int32) → (Nat → Int32) → (Nat → Int32) → Prop
  | 0, _, _, _ => False
  | n23 + 1, x3_24, mPB_25, mPS_26 =>
  ((pT ≤ x3_24 → x23 mPB_25 mPS_26) ∧
   (¬ pT ≤ x3_24 → vp_in x3_24 24 ∧ vp_in x3_24 12 ∧ ∀ mPB_30 : Nat → Int32, mPB_30 = upd mPB_25 (Int32.toNatClampNeg x3_24) (mMo_18 (Int32.toNatClampNeg x3_24)) → vp_in (12 + x3_24) 24 ∧ vp_in x3_24 24 ∧ vp_in x3_24 12 ∧ ∀ mPS_32 : Nat → Int32, mPS_32 = upd mPS_26 (Int32.toNatClampNeg x3_24) ((mMo_18 (Int32.toNatClampNeg (12 + x3_24))) - (mMo_18 (Int32.toNatClampNeg x3_24))) → ∀ x3_34 : Int32, x3_34 = x3_24 + 1 → (wp_X9_plan_L23 pT mMo_18 x23 n23) x3_34 mPB_30 mPS_32))
def wp_X9_plan (pT : Int32) (pK : Nat → Int32) (pN : Nat → Int32) (pF : Nat → Int32) (mFi : Int32) (mAK : Int32) (mSh : Int32) (mIP : Int32) (mRw : Nat → Int32) (mSn : Nat → Int32) (mBg : Nat → Int32) (mMo : Nat → Int32) (mRm : Nat → Int64) (mOw : Nat → Int64) (mGo : Nat → Int32) (mFr : Nat → Int32) (mQu : Nat → Int32) (mCh : Nat → Int64) (mPB : Nat → Int32) (mPS : Nat → Int32) (a1 : Int32) (Qp : Int32 → (Int32) → (Int32) → (Int32) → (Int32) → (Nat → Int32) → (Nat → Int32) → (Nat → Int32) → (Nat → Int32) → (Nat → Int64) → (Nat → Int64) → (Nat → Int32) → (Nat → Int32) → (Nat → Int32) → (Nat → Int64) → (Nat → Int32) → (Nat → Int32) → Prop) : Prop :=
  wp_X9_noLength pT pK pN pF mAK mSh mRw mSn mBg mMo mRm mOw mGo mFr mQu mCh a1 (fun (r_1 : Int32) (mAK_2 : Int32) (mSh_3 : Int32) (mRw_4 : Nat → Int32) (mSn_5 : Nat → Int32) (mBg_6 : Nat → Int32) (mMo_7 : Nat → Int32) (mRm_8 : Nat → Int64) (mOw_9 : Nat → Int64) (mGo_10 : Nat → Int32) (mFr_11 : Nat → Int32) (mQu_12 : Nat → Int32) (mCh_13 : Nat → Int64) => ((r_1 = 0 → wp_X9_rise pT pK pN pF mRw_4 mSn_5 mBg_6 mMo_7 mRm_8 mOw_9 mGo_10 mFr_11 mQu_12 a1 (fun (mRw_15 : Nat → Int32) (mSn_16 : Nat → Int32) (mBg_17 : Nat → Int32) (mMo_18 : Nat → Int32) (mRm_19 : Nat → Int64) (mOw_20 : Nat → Int64) (mGo_21 : Nat → Int32) (mFr_22 : Nat → Int32) (mQu_23 : Nat → Int32) => (∃ n23 : Nat, wp_X9_plan_L23 pT mMo_18 (fun (mPB_27 : Nat → Int32) (mPS_28 : Nat → Int32) => ∀ mIP_36 : Int32, mIP_36 = 1 → wp_X9_lengthNow pT mMo_18 (fun (r_38 : Int32) => Qp r_38 mFi mAK_2 mSh_3 mIP_36 mRw_15 mSn_16 mBg_17 mMo_18 mRm_19 mOw_20 mGo_21 mFr_22 mQu_23 mCh_13 mPB_27 mPS_28)) n23 0 mPB mPS))) ∧
   (¬ r_1 = 0 → wp_X9_found mFi r_1 (fun (r_39 : Int32) (mFi_40 : Int32) => Qp r_39 mFi_40 mAK_2 mSh_3 mIP mRw_4 mSn_5 mBg_6 mMo_7 mRm_8 mOw_9 mGo_10 mFr_11 mQu_12 mCh_13 mPB mPS))))
theorem inn_X9_plan_8 : ∀ w ∈ u_ws RX8 TX8 5, w ∈ wsX9_plan := fun _ h => List.mem_cons_of_mem _ (List.mem_append_right _ h)
theorem inn_X9_plan_9 : ∀ w ∈ u_ws RX9 TX9 32, w ∈ wsX9_plan := fun _ h => List.mem_cons_of_mem _ (List.mem_append_left _ (List.mem_append_right _ h))
def rm_X9_plan : Room := { frames := 6, cells := 0, slots := 0, locals := 137 }
set_option maxHeartbeats 4000000 in
set_option maxRecDepth 100000 in
theorem ct_X9_plan {l : Launch} {D : va_G} {cI cJ cZ cE cD cK : ClassId} {ad : Nat → Nat} {ud : Nat → Nat → Nat} {pT : Int32} {pK : Nat → Int32} {pN : Nat → Int32} {pF : Nat → Int32} {pS : Nat → Int32} {qT : Int32} {qK : Nat → Int32} {qN : Nat → Int32} {qF : Nat → Int32} {qS : Nat → Int32} {mKe : Int32} {mUn : Int32} {mFi : Int32} {mRi : Int32} {mBe : Int64} {mWc : Int32} {mAK : Int32} {mSh : Int32} {mIP : Int32} {mUS : Nat → Int32} {mWa : Nat → Int32} {mWi : Nat → Int32} {mSi : Nat → Int32} {mRo : Nat → Int64} {mSp : Nat → Int64} {mRw : Nat → Int32} {mSn : Nat → Int32} {mBg : Nat → Int32} {mLa : Nat → Int32} {mMo : Nat → Int32} {mRm : Nat → Int64} {mOw : Nat → Int64} {mGo : Nat → Int32} {mFr : Nat → Int32} {mQu : Nat → Int32} {mCh : Nat → Int64} {mPB : Nat → Int32} {mPS : Nat → Int32} {mFs : Nat → Int32} {ub : Nat → Nat} {uT : Nat → Int32} {uK : Nat → Nat → Int32} {uN : Nat → Nat → Int32} {uF : Nat → Nat → Int32} {uS : Nat → Nat → Int32}   {a1 : Int32} {Qp : Int32 → (Int32) → (Int32) → (Int32) → (Int32) → (Nat → Int32) → (Nat → Int32) → (Nat → Int32) → (Nat → Int32) → (Nat → Int64) → (Nat → Int64) → (Nat → Int32) → (Nat → Int32) → (Nat → Int32) → (Nat → Int64) → (Nat → Int32) → (Nat → Int32) → Prop}   (h : wp_X9_plan pT pK pN pF mFi mAK mSh mIP mRw mSn mBg mMo mRm mOw mGo mFr mQu mCh mPB mPS a1 Qp) : CTi l yX9_plan wsX9_plan rm_X9_plan D (tyL cI cJ cZ cE cD cK) [.ref (ad 0), .int a1] (WM cI cJ cZ cK ad ud pT pK pN pF pS qT qK qN qF qS mKe mUn mFi mRi mBe mWc mAK mSh mIP mUS mWa mWi mSi mRo mSp mRw mSn mBg mLa mMo mRm mOw mGo mFr mQu mCh mPB mPS mFs ub uT uK uN uF uS) (fun (r : Int32) (u : (Int32) × (Int32) × (Int32) × (Int32) × (Nat → Int32) × (Nat → Int32) × (Nat → Int32) × (Nat → Int32) × (Nat → Int64) × (Nat → Int64) × (Nat → Int32) × (Nat → Int32) × (Nat → Int32) × (Nat → Int64) × (Nat → Int32) × (Nat → Int32)) => Qp r u.1 u.2.1 u.2.2.1 u.2.2.2.1 u.2.2.2.2.1 u.2.2.2.2.2.1 u.2.2.2.2.2.2.1 u.2.2.2.2.2.2.2.1 u.2.2.2.2.2.2.2.2.1 u.2.2.2.2.2.2.2.2.2.1 u.2.2.2.2.2.2.2.2.2.2.1 u.2.2.2.2.2.2.2.2.2.2.2.1 u.2.2.2.2.2.2.2.2.2.2.2.2.1 u.2.2.2.2.2.2.2.2.2.2.2.2.2.1 u.2.2.2.2.2.2.2.2.2.2.2.2.2.2.1 u.2.2.2.2.2.2.2.2.2.2.2.2.2.2.2) (fun u : (Int32) × (Int32) × (Int32) × (Int32) × (Nat → Int32) × (Nat → Int32) × (Nat → Int32) × (Nat → Int32) × (Nat → Int64) × (Nat → Int64) × (Nat → Int32) × (Nat → Int32) × (Nat → Int32) × (Nat → Int64) × (Nat → Int32) × (Nat → Int32) => (WM cI cJ cZ cK ad ud pT pK pN pF pS qT qK qN qF qS mKe mUn u.1 mRi mBe mWc u.2.1 u.2.2.1 u.2.2.2.1 mUS mWa mWi mSi mRo mSp u.2.2.2.2.1 u.2.2.2.2.2.1 u.2.2.2.2.2.2.1 mLa u.2.2.2.2.2.2.2.1 u.2.2.2.2.2.2.2.2.1 u.2.2.2.2.2.2.2.2.2.1 u.2.2.2.2.2.2.2.2.2.2.1 u.2.2.2.2.2.2.2.2.2.2.2.1 u.2.2.2.2.2.2.2.2.2.2.2.2.1 u.2.2.2.2.2.2.2.2.2.2.2.2.2.1 u.2.2.2.2.2.2.2.2.2.2.2.2.2.2.1 u.2.2.2.2.2.2.2.2.2.2.2.2.2.2.2 mFs ub uT uK uN uF uS)) 0 0 := by
  refine ent_i (cc := cX9_plan) (maxL := 4) (ret := (some .int)) (by decide) rfl (Nat.le_of_ble_eq_true rfl) ?_
  intro p e s m args below meth c A Q hQ hx hb hr hml hown hts hlk hA hAB hP hD hS ls hl
  have hown : s.vm.findClass RX9 = some m.cls := hown
  have hl : lv_has ls 4 [(0, .ref (ad 0)), (1, .int a1)] := hl
  generalize hH : s.heap = H at hP ⊢
  have hS : va_S A s.heap H [] := by rw [← hH]; exact hS
  clear hH
  generalize ([] : List Loc) = locs at hS ⊢
  refine lv_aload_n hx hb dX9_plan_0 rfl (lv_at hl 0 rfl) ?_
  refine lv_iload_n hx hb dX9_plan_1 rfl (lv_at hl 1 rfl) ?_
  refine cl_i hD hS hA (va_runV (As := [.int a1]) (rest := []) ⟨hx, hb, hml, hown, hts⟩ (ct_X9_noLength h H.size) (cwV 1 hts gX9_plan_X9_noLength rfl rfl rfl (by decide +kernel) ⟨Nat.le_of_ble_eq_true rfl, Nat.le_of_ble_eq_true rfl⟩) ⟨CPre.blind, va_recv hAB.1 hP (ci := 9) (q0 := 0) rfl rfl, wd_pre hAB hP hD hS hA⟩ rfl rfl hl.1 rfl (lv_room (Nat.le_of_ble_eq_true rfl)) dX9_plan_2 ⟨Nat.zero_le _, Nat.zero_le _⟩) (fun r_1 u H locs h hP hD hS => ?_)
  obtain ⟨mAK_2, mSh_3, mRw_4, mSn_5, mBg_6, mMo_7, mRm_8, mOw_9, mGo_10, mFr_11, mQu_12, mCh_13⟩ := u
  have hP : va_P D vwCl (WM cI cJ cZ cK ad ud pT pK pN pF pS qT qK qN qF qS mKe mUn mFi mRi mBe mWc mAK_2 mSh_3 mIP mUS mWa mWi mSi mRo mSp mRw_4 mSn_5 mBg_6 mLa mMo_7 mRm_8 mOw_9 mGo_10 mFr_11 mQu_12 mCh_13 mPB mPS mFs ub uT uK uN uF uS) H := hP
  have hD : va_D A (WM cI cJ cZ cK ad ud pT pK pN pF pS qT qK qN qF qS mKe mUn mFi mRi mBe mWc mAK_2 mSh_3 mIP mUS mWa mWi mSi mRo mSp mRw_4 mSn_5 mBg_6 mLa mMo_7 mRm_8 mOw_9 mGo_10 mFr_11 mQu_12 mCh_13 mPB mPS mFs ub uT uK uN uF uS) := hD
  refine lv_istore_n (lv' := [(2, .int r_1), (0, .ref (ad 0)), (1, .int a1)]) hx hb dX9_plan_5 rfl hl (by decide) rfl (fun ls hl => ?_)
  refine lv_iload_n hx hb dX9_plan_6 rfl (lv_at hl 0 rfl) ?_
  refine lv_if_eq (tgt := 16) hx hb dX9_plan_7 (by decide) (fun c_14 => ?_) (fun c_14 => ?_)
  · have h := h.1 c_14
    refine lv_aload_n hx hb dX9_plan_16 rfl (lv_at hl 1 rfl) ?_
    refine lv_iload_n hx hb dX9_plan_17 rfl (lv_at hl 2 rfl) ?_
    refine cl_v hD hS hA (va_runV (As := [.int a1]) (rest := []) ⟨hx, hb, hml, hown, hts⟩ (ct_X9_rise h H.size) (cwV 1 hts gX9_plan_X9_rise rfl rfl rfl (by decide +kernel) ⟨Nat.le_of_ble_eq_true rfl, Nat.le_of_ble_eq_true rfl⟩) ⟨CPre.blind, va_recv hAB.1 hP (ci := 9) (q0 := 0) rfl rfl, wd_pre hAB hP hD hS hA⟩ rfl rfl hl.1 rfl (lv_room (Nat.le_of_ble_eq_true rfl)) dX9_plan_18 ⟨Nat.zero_le _, Nat.zero_le _⟩) (fun u H locs h hP hD hS => ?_)
    obtain ⟨mRw_15, mSn_16, mBg_17, mMo_18, mRm_19, mOw_20, mGo_21, mFr_22, mQu_23⟩ := u
    have hP : va_P D vwCl (WM cI cJ cZ cK ad ud pT pK pN pF pS qT qK qN qF qS mKe mUn mFi mRi mBe mWc mAK_2 mSh_3 mIP mUS mWa mWi mSi mRo mSp mRw_15 mSn_16 mBg_17 mLa mMo_18 mRm_19 mOw_20 mGo_21 mFr_22 mQu_23 mCh_13 mPB mPS mFs ub uT uK uN uF uS) H := hP
    have hD : va_D A (WM cI cJ cZ cK ad ud pT pK pN pF pS qT qK qN qF qS mKe mUn mFi mRi mBe mWc mAK_2 mSh_3 mIP mUS mWa mWi mSi mRo mSp mRw_15 mSn_16 mBg_17 mLa mMo_18 mRm_19 mOw_20 mGo_21 mFr_22 mQu_23 mCh_13 mPB mPS mFs ub uT uK uN uF uS) := hD
    refine lv_iconst (v := 0) hx hb dX9_plan_21 (by decide) ?_
    refine lv_istore_n (lv' := [(3, .int 0), (2, .int r_1), (0, .ref (ad 0)), (1, .int a1)]) hx hb dX9_plan_22 rfl hl (by decide) rfl (fun ls hl => ?_)
    have L23 : ∀ (x23 : (Nat → Int32) → (Nat → Int32) → Prop) (hk23 : ∀ (mPB_27 : Nat → Int32) (mPS_28 : Nat → Int32), x23 mPB_27 mPS_28 → ∀ (H : Heap) (locs : List Loc) (ls : Array Slot), va_P D vwCl (WM cI cJ cZ cK ad ud pT pK pN pF pS qT qK qN qF qS mKe mUn mFi mRi mBe mWc mAK_2 mSh_3 mIP mUS mWa mWi mSi mRo mSp mRw_15 mSn_16 mBg_17 mLa mMo_18 mRm_19 mOw_20 mGo_21 mFr_22 mQu_23 mCh_13 mPB_27 mPS_28 mFs ub uT uK uN uF uS) H → va_D A (WM cI cJ cZ cK ad ud pT pK pN pF pS qT qK qN qF qS mKe mUn mFi mRi mBe mWc mAK_2 mSh_3 mIP mUS mWa mWi mSi mRo mSp mRw_15 mSn_16 mBg_17 mLa mMo_18 mRm_19 mOw_20 mGo_21 mFr_22 mQu_23 mCh_13 mPB_27 mPS_28 mFs ub uT uK uN uF uS) → va_S A s.heap H locs → lv_has ls 4 [(0, .ref (ad 0))] → W p l e (headSpec wsX9_plan rm_X9_plan).room s m args below meth c H locs 0 0 Q (F0 m 74 ls [])) (n23 : Nat) (x3_24 : Int32) (mPB_25 : Nat → Int32) (mPS_26 : Nat → Int32), wp_X9_plan_L23 pT mMo_18 x23 n23 x3_24 mPB_25 mPS_26 → ∀ (H : Heap) (locs : List Loc) (ls : Array Slot), va_P D vwCl (WM cI cJ cZ cK ad ud pT pK pN pF pS qT qK qN qF qS mKe mUn mFi mRi mBe mWc mAK_2 mSh_3 mIP mUS mWa mWi mSi mRo mSp mRw_15 mSn_16 mBg_17 mLa mMo_18 mRm_19 mOw_20 mGo_21 mFr_22 mQu_23 mCh_13 mPB_25 mPS_26 mFs ub uT uK uN uF uS) H → va_D A (WM cI cJ cZ cK ad ud pT pK pN pF pS qT qK qN qF qS mKe mUn mFi mRi mBe mWc mAK_2 mSh_3 mIP mUS mWa mWi mSi mRo mSp mRw_15 mSn_16 mBg_17 mLa mMo_18 mRm_19 mOw_20 mGo_21 mFr_22 mQu_23 mCh_13 mPB_25 mPS_26 mFs ub uT uK uN uF uS) → va_S A s.heap H locs → lv_has ls 4 [(0, .ref (ad 0)), (3, .int x3_24)] → W p l e (headSpec wsX9_plan rm_X9_plan).room s m args below meth c H locs 0 0 Q (F0 m 23 ls []) := by
      intro x23 hk23 n23
      induction n23 with
      | zero => intro x3_24 mPB_25 mPS_26 h; exact False.elim h
      | succ n23 ih23 =>
        intro x3_24 mPB_25 mPS_26 h H locs ls hP hD hS hl
        refine lv_iload_n hx hb dX9_plan_23 rfl (lv_at hl 1 rfl) ?_
        refine lv_aload_n hx hb dX9_plan_24 rfl (lv_at hl 0 rfl) ?_
        refine va_get (D := D) (ci := 9) (C := RX9) (T := TX9) (N := 32) hx hb hts inn_X9_plan_9 hown hAB.1 hP 0 rfl rfl 0 (by decide) (hts (.fieldLink RX9 10 "BarnBenchModel" "b" "LBarnBenchModel$Book;") (by decide +kernel)) (fun _ h9 => h9) rfl dX9_plan_25 ?_
        refine va_get (D := D) (ci := 8) (C := RX8) (T := TX8) (N := 5) hx hb hts inn_X9_plan_8 hown hAB.1 hP 1 rfl rfl 0 (by decide) (hts (.fieldLink RX9 94 "BarnBenchModel$Book" "tasks" "I") (by decide +kernel)) (fun _ h9 => h9) rfl dX9_plan_28 ?_
        refine lv_icmp_ge (tgt := 74) hx hb dX9_plan_31 (by decide) (fun c_29 => ?_) (fun c_29 => ?_)
        · have h := h.1 c_29
          exact hk23 mPB_25 mPS_26 h H locs ls hP hD hS (lv_sub hl [0] rfl)
        · have h := h.2 c_29
          refine lv_aload_n hx hb dX9_plan_34 rfl (lv_at hl 0 rfl) ?_
          refine va_get (D := D) (ci := 9) (C := RX9) (T := TX9) (N := 32) hx hb hts inn_X9_plan_9 hown hAB.1 hP 0 rfl rfl 29 (by decide) (hts (.fieldLink RX9 81 "BarnBenchModel" "planBegins" "[I") (by decide +kernel)) (fun _ h9 => h9) rfl dX9_plan_35 ?_
          refine lv_iload_n hx hb dX9_plan_38 rfl (lv_at hl 1 rfl) ?_
          refine lv_aload_n hx hb dX9_plan_39 rfl (lv_at hl 0 rfl) ?_
          refine va_get (D := D) (ci := 9) (C := RX9) (T := TX9) (N := 32) hx hb hts inn_X9_plan_9 hown hAB.1 hP 0 rfl rfl 19 (by decide) (hts (.fieldLink RX9 60 "BarnBenchModel" "moments" "[I") (by decide +kernel)) (fun _ h9 => h9) rfl dX9_plan_40 ?_
          refine lv_iload_n hx hb dX9_plan_43 rfl (lv_at hl 1 rfl) ?_
          refine va_iald hx hb hAB.1 hP 22 0 rfl rfl h.1 dX9_plan_44 ?_
          have h := h.2
          refine sM_29 hx hb hAB hP hD hS h.1 dX9_plan_45 (fun mPB_30 H locs e_31 hP hD hS => ?_)
          have h := h.2
          have h := h mPB_30 e_31
          refine lv_aload_n hx hb dX9_plan_46 rfl (lv_at hl 0 rfl) ?_
          refine va_get (D := D) (ci := 9) (C := RX9) (T := TX9) (N := 32) hx hb hts inn_X9_plan_9 hown hAB.1 hP 0 rfl rfl 30 (by decide) (hts (.fieldLink RX9 84 "BarnBenchModel" "planSpans" "[I") (by decide +kernel)) (fun _ h9 => h9) rfl dX9_plan_47 ?_
          refine lv_iload_n hx hb dX9_plan_50 rfl (lv_at hl 1 rfl) ?_
          refine lv_aload_n hx hb dX9_plan_51 rfl (lv_at hl 0 rfl) ?_
          refine va_get (D := D) (ci := 9) (C := RX9) (T := TX9) (N := 32) hx hb hts inn_X9_plan_9 hown hAB.1 hP 0 rfl rfl 19 (by decide) (hts (.fieldLink RX9 60 "BarnBenchModel" "moments" "[I") (by decide +kernel)) (fun _ h9 => h9) rfl dX9_plan_52 ?_
          refine lv_bipush (v := 12) hx hb dX9_plan_55 (by decide) ?_
          refine lv_iload_n hx hb dX9_plan_57 rfl (lv_at hl 1 rfl) ?_
          refine lv_iadd hx hb dX9_plan_58 ?_
          refine va_iald hx hb hAB.1 hP 22 0 rfl rfl h.1 dX9_plan_59 ?_
          have h := h.2
          refine lv_aload_n hx hb dX9_plan_60 rfl (lv_at hl 0 rfl) ?_
          refine va_get (D := D) (ci := 9) (C := RX9) (T := TX9) (N := 32) hx hb hts inn_X9_plan_9 hown hAB.1 hP 0 rfl rfl 19 (by decide) (hts (.fieldLink RX9 60 "BarnBenchModel" "moments" "[I") (by decide +kernel)) (fun _ h9 => h9) rfl dX9_plan_61 ?_
          refine lv_iload_n hx hb dX9_plan_64 rfl (lv_at hl 1 rfl) ?_
          refine va_iald hx hb hAB.1 hP 22 0 rfl rfl h.1 dX9_plan_65 ?_
          have h := h.2
          refine lv_isub hx hb dX9_plan_66 ?_
          refine sM_30 hx hb hAB hP hD hS h.1 dX9_plan_67 (fun mPS_32 H locs e_33 hP hD hS => ?_)
          have h := h.2
          have h := h mPS_32 e_33
          obtain ⟨x3_34, e_35⟩ : ∃ y : Int32, y = x3_24 + 1 := ⟨_, rfl⟩
          have h := h x3_34 e_35
          refine lv_iinc (v := x3_34) (lv' := [(3, .int x3_34), (0, .ref (ad 0))]) hx hb dX9_plan_68 hl (k := 1) rfl (by rw [e_35]; rfl) (by decide) rfl (fun ls hl => ?_)
          refine lv_goto (tgt := 23) hx hb dX9_plan_71 (by decide) ?_
          exact ih23 x3_34 mPB_30 mPS_32 h H locs ls hP hD hS (lv_sub hl [1, 0] rfl)
    obtain ⟨n23, h⟩ := h
    refine L23 _ (fun mPB_27 mPS_28 h H locs ls hP hD hS hl => ?_) n23 0 mPB mPS h H locs ls hP hD hS (lv_sub hl [2, 0] rfl)
    refine lv_aload_n hx hb dX9_plan_74 rfl (lv_at hl 0 rfl) ?_
    refine lv_iconst (v := 1) hx hb dX9_plan_75 (by decide) ?_
    refine fM_0_isPlanned hx hb hAB hP hD hS hts inn_X9_plan_9 hown (hts (.fieldLink RX9 121 "BarnBenchModel" "isPlanned" "Z") (by decide +kernel)) (by decide) dX9_plan_76 (fun mIP_36 H locs e_37 hP hD hS => ?_)
    have h := h mIP_36 e_37
    refine lv_aload_n hx hb dX9_plan_79 rfl (lv_at hl 0 rfl) ?_
    refine cl_i hD hS hA (va_runV (As := []) (rest := []) ⟨hx, hb, hml, hown, hts⟩ (ct_X9_lengthNow h H.size) (cwV 0 hts gX9_plan_X9_lengthNow rfl rfl rfl (by decide +kernel) ⟨Nat.le_of_ble_eq_true rfl, Nat.le_of_ble_eq_true rfl⟩) ⟨CPre.blind, va_recv hAB.1 hP (ci := 9) (q0 := 0) rfl rfl, wd_pre hAB hP hD hS hA⟩ rfl rfl hl.1 rfl (lv_room (Nat.le_of_ble_eq_true rfl)) dX9_plan_80 ⟨Nat.zero_le _, Nat.zero_le _⟩) (fun r_38 u H locs h hP hD hS => ?_)
    exact rt_i (mFi, mAK_2, mSh_3, mIP_36, mRw_15, mSn_16, mBg_17, mMo_18, mRm_19, mOw_20, mGo_21, mFr_22, mQu_23, mCh_13, mPB_27, mPS_28) hQ hx hb hr hlk hP hD hS ⟨Nat.zero_le _, Nat.zero_le _⟩ dX9_plan_83 h
  · have h := h.2 c_14
    refine lv_aload_n hx hb dX9_plan_10 rfl (lv_at hl 1 rfl) ?_
    refine lv_iload_n hx hb dX9_plan_11 rfl (lv_at hl 0 rfl) ?_
    refine cl_i hD hS hA (va_runV (As := [.int r_1]) (rest := []) ⟨hx, hb, hml, hown, hts⟩ (ct_X9_found h H.size) (cwV 1 hts gX9_plan_X9_found rfl rfl rfl (by decide +kernel) ⟨Nat.le_of_ble_eq_true rfl, Nat.le_of_ble_eq_true rfl⟩) ⟨CPre.blind, va_recv hAB.1 hP (ci := 9) (q0 := 0) rfl rfl, wd_pre hAB hP hD hS hA⟩ rfl rfl hl.1 rfl (lv_room (Nat.le_of_ble_eq_true rfl)) dX9_plan_12 ⟨Nat.zero_le _, Nat.zero_le _⟩) (fun r_39 mFi_40 H locs h hP hD hS => ?_)
    have hP : va_P D vwCl (WM cI cJ cZ cK ad ud pT pK pN pF pS qT qK qN qF qS mKe mUn mFi_40 mRi mBe mWc mAK_2 mSh_3 mIP mUS mWa mWi mSi mRo mSp mRw_4 mSn_5 mBg_6 mLa mMo_7 mRm_8 mOw_9 mGo_10 mFr_11 mQu_12 mCh_13 mPB mPS mFs ub uT uK uN uF uS) H := hP
    have hD : va_D A (WM cI cJ cZ cK ad ud pT pK pN pF pS qT qK qN qF qS mKe mUn mFi_40 mRi mBe mWc mAK_2 mSh_3 mIP mUS mWa mWi mSi mRo mSp mRw_4 mSn_5 mBg_6 mLa mMo_7 mRm_8 mOw_9 mGo_10 mFr_11 mQu_12 mCh_13 mPB mPS mFs ub uT uK uN uF uS) := hD
    exact rt_i (mFi_40, mAK_2, mSh_3, mIP, mRw_4, mSn_5, mBg_6, mMo_7, mRm_8, mOw_9, mGo_10, mFr_11, mQu_12, mCh_13, mPB, mPS) hQ hx hb hr hlk hP hD hS ⟨Nat.zero_le _, Nat.zero_le _⟩ dX9_plan_15 h
def wp_X9_planned (pT : Int32) (mFi : Int32) (mIP : Int32) (mPB : Nat → Int32) (mPS : Nat → Int32) (a1 : Int32) (a2 : Int32) (Qp : Int32 → (Int32) → Prop) : Prop :=
  ((¬ mIP = 0 → wp_X9_isTask pT a1 (fun (r_2 : Int32) => ((¬ r_2 = 0 → ((a2 = 0 → vp_in a1 12 ∧ Qp (mPB (Int32.toNatClampNeg a1)) mFi) ∧
   (¬ a2 = 0 → vp_in a1 12 ∧ Qp (mPS (Int32.toNatClampNeg a1)) mFi))) ∧
   (r_2 = 0 → wp_X9_found mFi (-1) (fun (r_5 : Int32) (mFi_6 : Int32) => Qp r_5 mFi_6))))) ∧
   (mIP = 0 → wp_X9_found mFi (-7) (fun (r_7 : Int32) (mFi_8 : Int32) => Qp r_7 mFi_8)))
theorem inn_X9_planned_9 : ∀ w ∈ u_ws RX9 TX9 32, w ∈ wsX9_planned := fun _ h => List.mem_cons_of_mem _ (List.mem_append_left _ (List.mem_append_right _ h))
def rm_X9_planned : Room := { frames := 2, cells := 0, slots := 0, locals := 46 }
set_option maxHeartbeats 4000000 in
set_option maxRecDepth 100000 in
theorem ct_X9_planned {l : Launch} {D : va_G} {cI cJ cZ cE cD cK : ClassId} {ad : Nat → Nat} {ud : Nat → Nat → Nat} {pT : Int32} {pK : Nat → Int32} {pN : Nat → Int32} {pF : Nat → Int32} {pS : Nat → Int32} {qT : Int32} {qK : Nat → Int32} {qN : Nat → Int32} {qF : Nat → Int32} {qS : Nat → Int32} {mKe : Int32} {mUn : Int32} {mFi : Int32} {mRi : Int32} {mBe : Int64} {mWc : Int32} {mAK : Int32} {mSh : Int32} {mIP : Int32} {mUS : Nat → Int32} {mWa : Nat → Int32} {mWi : Nat → Int32} {mSi : Nat → Int32} {mRo : Nat → Int64} {mSp : Nat → Int64} {mRw : Nat → Int32} {mSn : Nat → Int32} {mBg : Nat → Int32} {mLa : Nat → Int32} {mMo : Nat → Int32} {mRm : Nat → Int64} {mOw : Nat → Int64} {mGo : Nat → Int32} {mFr : Nat → Int32} {mQu : Nat → Int32} {mCh : Nat → Int64} {mPB : Nat → Int32} {mPS : Nat → Int32} {mFs : Nat → Int32} {ub : Nat → Nat} {uT : Nat → Int32} {uK : Nat → Nat → Int32} {uN : Nat → Nat → Int32} {uF : Nat → Nat → Int32} {uS : Nat → Nat → Int32}   {a1 : Int32} {a2 : Int32} {Qp : Int32 → (Int32) → Prop}   (h : wp_X9_planned pT mFi mIP mPB mPS a1 a2 Qp) : CTi l yX9_planned wsX9_planned rm_X9_planned D (tyL cI cJ cZ cE cD cK) [.ref (ad 0), .int a1, .int a2] (WM cI cJ cZ cK ad ud pT pK pN pF pS qT qK qN qF qS mKe mUn mFi mRi mBe mWc mAK mSh mIP mUS mWa mWi mSi mRo mSp mRw mSn mBg mLa mMo mRm mOw mGo mFr mQu mCh mPB mPS mFs ub uT uK uN uF uS) (fun (r : Int32) (u : (Int32)) => Qp r u) (fun u : (Int32) => (WM cI cJ cZ cK ad ud pT pK pN pF pS qT qK qN qF qS mKe mUn u mRi mBe mWc mAK mSh mIP mUS mWa mWi mSi mRo mSp mRw mSn mBg mLa mMo mRm mOw mGo mFr mQu mCh mPB mPS mFs ub uT uK uN uF uS)) 0 0 := by
  refine ent_i (cc := cX9_planned) (maxL := 3) (ret := (some .int)) (by decide) rfl (Nat.le_of_ble_eq_true rfl) ?_
  intro p e s m args below meth c A Q hQ hx hb hr hml hown hts hlk hA hAB hP hD hS ls hl
  have hown : s.vm.findClass RX9 = some m.cls := hown
  have hl : lv_has ls 3 [(0, .ref (ad 0)), (1, .int a1), (2, .int a2)] := hl
  generalize hH : s.heap = H at hP ⊢
  have hS : va_S A s.heap H [] := by rw [← hH]; exact hS
  clear hH
  generalize ([] : List Loc) = locs at hS ⊢
  refine lv_aload_n hx hb dX9_planned_0 rfl (lv_at hl 0 rfl) ?_
  refine va_get (D := D) (ci := 9) (C := RX9) (T := TX9) (N := 32) hx hb hts inn_X9_planned_9 hown hAB.1 hP 0 rfl rfl 28 (by decide) (hts (.fieldLink RX9 121 "BarnBenchModel" "isPlanned" "Z") (by decide +kernel)) (fun _ h9 => h9) rfl dX9_planned_1 ?_
  refine lv_if_ne (tgt := 14) hx hb dX9_planned_4 (by decide) (fun c_1 => ?_) (fun c_1 => ?_)
  · have h := h.1 c_1
    refine lv_aload_n hx hb dX9_planned_14 rfl (lv_at hl 0 rfl) ?_
    refine lv_iload_n hx hb dX9_planned_15 rfl (lv_at hl 1 rfl) ?_
    refine cl_i hD hS hA (va_runV (As := [.int a1]) (rest := []) ⟨hx, hb, hml, hown, hts⟩ (ct_X9_isTask h H.size) (cwV 1 hts gX9_planned_X9_isTask rfl rfl rfl (by decide +kernel) ⟨Nat.le_of_ble_eq_true rfl, Nat.le_of_ble_eq_true rfl⟩) ⟨CPre.blind, va_recv hAB.1 hP (ci := 9) (q0 := 0) rfl rfl, wd_pre hAB hP hD hS hA⟩ rfl rfl hl.1 rfl (lv_room (Nat.le_of_ble_eq_true rfl)) dX9_planned_16 ⟨Nat.zero_le _, Nat.zero_le _⟩) (fun r_2 u H locs h hP hD hS => ?_)
    refine lv_if_ne (tgt := 28) hx hb dX9_planned_19 (by decide) (fun c_3 => ?_) (fun c_3 => ?_)
    · have h := h.1 c_3
      refine lv_iload_n hx hb dX9_planned_28 rfl (lv_at hl 2 rfl) ?_
      refine lv_if_eq (tgt := 41) hx hb dX9_planned_29 (by decide) (fun c_4 => ?_) (fun c_4 => ?_)
      · have h := h.1 c_4
        refine lv_aload_n hx hb dX9_planned_41 rfl (lv_at hl 0 rfl) ?_
        refine va_get (D := D) (ci := 9) (C := RX9) (T := TX9) (N := 32) hx hb hts inn_X9_planned_9 hown hAB.1 hP 0 rfl rfl 29 (by decide) (hts (.fieldLink RX9 81 "BarnBenchModel" "planBegins" "[I") (by decide +kernel)) (fun _ h9 => h9) rfl dX9_planned_42 ?_
        refine lv_iload_n hx hb dX9_planned_45 rfl (lv_at hl 1 rfl) ?_
        refine va_iald hx hb hAB.1 hP 29 0 rfl rfl h.1 dX9_planned_46 ?_
        have h := h.2
        exact rt_i (mFi) hQ hx hb hr hlk hP hD hS ⟨Nat.zero_le _, Nat.zero_le _⟩ dX9_planned_47 h
      · have h := h.2 c_4
        refine lv_aload_n hx hb dX9_planned_32 rfl (lv_at hl 0 rfl) ?_
        refine va_get (D := D) (ci := 9) (C := RX9) (T := TX9) (N := 32) hx hb hts inn_X9_planned_9 hown hAB.1 hP 0 rfl rfl 30 (by decide) (hts (.fieldLink RX9 84 "BarnBenchModel" "planSpans" "[I") (by decide +kernel)) (fun _ h9 => h9) rfl dX9_planned_33 ?_
        refine lv_iload_n hx hb dX9_planned_36 rfl (lv_at hl 1 rfl) ?_
        refine va_iald hx hb hAB.1 hP 30 0 rfl rfl h.1 dX9_planned_37 ?_
        have h := h.2
        refine lv_goto (tgt := 47) hx hb dX9_planned_38 (by decide) ?_
        exact rt_i (mFi) hQ hx hb hr hlk hP hD hS ⟨Nat.zero_le _, Nat.zero_le _⟩ dX9_planned_47 h
    · have h := h.2 c_3
      refine lv_aload_n hx hb dX9_planned_22 rfl (lv_at hl 0 rfl) ?_
      refine lv_iconst (v := (-1)) hx hb dX9_planned_23 (by decide) ?_
      refine cl_i hD hS hA (va_runV (As := [.int (-1)]) (rest := []) ⟨hx, hb, hml, hown, hts⟩ (ct_X9_found h H.size) (cwV 1 hts gX9_planned_X9_found rfl rfl rfl (by decide +kernel) ⟨Nat.le_of_ble_eq_true rfl, Nat.le_of_ble_eq_true rfl⟩) ⟨CPre.blind, va_recv hAB.1 hP (ci := 9) (q0 := 0) rfl rfl, wd_pre hAB hP hD hS hA⟩ rfl rfl hl.1 rfl (lv_room (Nat.le_of_ble_eq_true rfl)) dX9_planned_24 ⟨Nat.zero_le _, Nat.zero_le _⟩) (fun r_5 mFi_6 H locs h hP hD hS => ?_)
      have hP : va_P D vwCl (WM cI cJ cZ cK ad ud pT pK pN pF pS qT qK qN qF qS mKe mUn mFi_6 mRi mBe mWc mAK mSh mIP mUS mWa mWi mSi mRo mSp mRw mSn mBg mLa mMo mRm mOw mGo mFr mQu mCh mPB mPS mFs ub uT uK uN uF uS) H := hP
      have hD : va_D A (WM cI cJ cZ cK ad ud pT pK pN pF pS qT qK qN qF qS mKe mUn mFi_6 mRi mBe mWc mAK mSh mIP mUS mWa mWi mSi mRo mSp mRw mSn mBg mLa mMo mRm mOw mGo mFr mQu mCh mPB mPS mFs ub uT uK uN uF uS) := hD
      exact rt_i (mFi_6) hQ hx hb hr hlk hP hD hS ⟨Nat.zero_le _, Nat.zero_le _⟩ dX9_planned_27 h
  · have h := h.2 c_1
    refine lv_aload_n hx hb dX9_planned_7 rfl (lv_at hl 0 rfl) ?_
    refine lv_bipush (v := (-7)) hx hb dX9_planned_8 (by decide) ?_
    refine cl_i hD hS hA (va_runV (As := [.int (-7)]) (rest := []) ⟨hx, hb, hml, hown, hts⟩ (ct_X9_found h H.size) (cwV 1 hts gX9_planned_X9_found rfl rfl rfl (by decide +kernel) ⟨Nat.le_of_ble_eq_true rfl, Nat.le_of_ble_eq_true rfl⟩) ⟨CPre.blind, va_recv hAB.1 hP (ci := 9) (q0 := 0) rfl rfl, wd_pre hAB hP hD hS hA⟩ rfl rfl hl.1 rfl (lv_room (Nat.le_of_ble_eq_true rfl)) dX9_planned_10 ⟨Nat.zero_le _, Nat.zero_le _⟩) (fun r_7 mFi_8 H locs h hP hD hS => ?_)
    have hP : va_P D vwCl (WM cI cJ cZ cK ad ud pT pK pN pF pS qT qK qN qF qS mKe mUn mFi_8 mRi mBe mWc mAK mSh mIP mUS mWa mWi mSi mRo mSp mRw mSn mBg mLa mMo mRm mOw mGo mFr mQu mCh mPB mPS mFs ub uT uK uN uF uS) H := hP
    have hD : va_D A (WM cI cJ cZ cK ad ud pT pK pN pF pS qT qK qN qF qS mKe mUn mFi_8 mRi mBe mWc mAK mSh mIP mUS mWa mWi mSi mRo mSp mRw mSn mBg mLa mMo mRm mOw mGo mFr mQu mCh mPB mPS mFs ub uT uK uN uF uS) := hD
    exact rt_i (mFi_8) hQ hx hb hr hlk hP hD hS ⟨Nat.zero_le _, Nat.zero_le _⟩ dX9_planned_13 h
def wp_X9_cost_L19 (mPS : Nat → Int32) (pK : Nat → Int32) (pN : Nat → Int32) (pT : Int32) (x19 : (Int64) → Prop) : Nat → (Int64) → (Int32) → Prop
  | 0, _, _ => False
  | n19 + 1, x1_2, x3_3 =>
  ((pT ≤ x3_3 → x19 x1_2) ∧
   (¬ pT ≤ x3_3 → vp_in x3_3 12 ∧ wp_X9_costOf pK pN x3_3 (mPS (Int32.toNatClampNeg x3_3)) (fun (r_6 : Int64) => ∀ x1_7 : Int64, x1_7 = (x1_2 + r_6) → ∀ x3_9 : Int32, x3_9 = x3_3 + 1 → (wp_X9_cost_L19 mPS pK pN pT x19 n19) x1_7 x3_9)))
def wp_X9_cost (pT : Int32) (pK : Nat → Int32) (pN : Nat → Int32) (mFi : Int32) (mIP : Int32) (mPS : Nat → Int32)  (Qp : Int64 → (Int32) → Prop) : Prop :=
  ((¬ mIP = 0 → (∃ n19 : Nat, wp_X9_cost_L19 mPS pK pN pT (fun (x1_4 : Int64) => Qp x1_4 mFi) n19 0 0)) ∧
   (mIP = 0 → wp_X9_found mFi (-7) (fun (r_11 : Int32) (mFi_12 : Int32) => Qp (Int32.toInt64 r_11) mFi_12)))
theorem inn_X9_cost_8 : ∀ w ∈ u_ws RX8 TX8 5, w ∈ wsX9_cost := fun _ h => List.mem_cons_of_mem _ (List.mem_append_right _ h)
theorem inn_X9_cost_9 : ∀ w ∈ u_ws RX9 TX9 32, w ∈ wsX9_cost := fun _ h => List.mem_cons_of_mem _ (List.mem_append_left _ (List.mem_append_right _ h))
def rm_X9_cost : Room := { frames := 2, cells := 0, slots := 0, locals := 50 }
set_option maxHeartbeats 4000000 in
set_option maxRecDepth 100000 in
theorem ct_X9_cost {l : Launch} {D : va_G} {cI cJ cZ cE cD cK : ClassId} {ad : Nat → Nat} {ud : Nat → Nat → Nat} {pT : Int32} {pK : Nat → Int32} {pN : Nat → Int32} {pF : Nat → Int32} {pS : Nat → Int32} {qT : Int32} {qK : Nat → Int32} {qN : Nat → Int32} {qF : Nat → Int32} {qS : Nat → Int32} {mKe : Int32} {mUn : Int32} {mFi : Int32} {mRi : Int32} {mBe : Int64} {mWc : Int32} {mAK : Int32} {mSh : Int32} {mIP : Int32} {mUS : Nat → Int32} {mWa : Nat → Int32} {mWi : Nat → Int32} {mSi : Nat → Int32} {mRo : Nat → Int64} {mSp : Nat → Int64} {mRw : Nat → Int32} {mSn : Nat → Int32} {mBg : Nat → Int32} {mLa : Nat → Int32} {mMo : Nat → Int32} {mRm : Nat → Int64} {mOw : Nat → Int64} {mGo : Nat → Int32} {mFr : Nat → Int32} {mQu : Nat → Int32} {mCh : Nat → Int64} {mPB : Nat → Int32} {mPS : Nat → Int32} {mFs : Nat → Int32} {ub : Nat → Nat} {uT : Nat → Int32} {uK : Nat → Nat → Int32} {uN : Nat → Nat → Int32} {uF : Nat → Nat → Int32} {uS : Nat → Nat → Int32}    {Qp : Int64 → (Int32) → Prop}   (h : wp_X9_cost pT pK pN mFi mIP mPS Qp) : CTl l yX9_cost wsX9_cost rm_X9_cost D (tyL cI cJ cZ cE cD cK) [.ref (ad 0)] (WM cI cJ cZ cK ad ud pT pK pN pF pS qT qK qN qF qS mKe mUn mFi mRi mBe mWc mAK mSh mIP mUS mWa mWi mSi mRo mSp mRw mSn mBg mLa mMo mRm mOw mGo mFr mQu mCh mPB mPS mFs ub uT uK uN uF uS) (fun (r : Int64) (u : (Int32)) => Qp r u) (fun u : (Int32) => (WM cI cJ cZ cK ad ud pT pK pN pF pS qT qK qN qF qS mKe mUn u mRi mBe mWc mAK mSh mIP mUS mWa mWi mSi mRo mSp mRw mSn mBg mLa mMo mRm mOw mGo mFr mQu mCh mPB mPS mFs ub uT uK uN uF uS)) 0 0 := by
  refine ent_l (cc := cX9_cost) (maxL := 4) (ret := (some .long)) (by decide) rfl (Nat.le_of_ble_eq_true rfl) ?_
  intro p e s m args below meth c A Q hQ hx hb hr hml hown hts hlk hA hAB hP hD hS ls hl
  have hown : s.vm.findClass RX9 = some m.cls := hown
  have hl : lv_has ls 4 [(0, .ref (ad 0))] := hl
  generalize hH : s.heap = H at hP ⊢
  have hS : va_S A s.heap H [] := by rw [← hH]; exact hS
  clear hH
  generalize ([] : List Loc) = locs at hS ⊢
  refine lv_aload_n hx hb dX9_cost_0 rfl (lv_at hl 0 rfl) ?_
  refine va_get (D := D) (ci := 9) (C := RX9) (T := TX9) (N := 32) hx hb hts inn_X9_cost_9 hown hAB.1 hP 0 rfl rfl 28 (by decide) (hts (.fieldLink RX9 121 "BarnBenchModel" "isPlanned" "Z") (by decide +kernel)) (fun _ h9 => h9) rfl dX9_cost_1 ?_
  refine lv_if_ne (tgt := 15) hx hb dX9_cost_4 (by decide) (fun c_1 => ?_) (fun c_1 => ?_)
  · have h := h.1 c_1
    refine lv_lconst (v := 0) hx hb dX9_cost_15 (by decide) ?_
    refine lv_lstore_n (lv' := [(1, .long 0), (0, .ref (ad 0))]) hx hb dX9_cost_16 rfl hl (by decide) rfl (fun ls hl => ?_)
    refine lv_iconst (v := 0) hx hb dX9_cost_17 (by decide) ?_
    refine lv_istore_n (lv' := [(3, .int 0), (1, .long 0), (0, .ref (ad 0))]) hx hb dX9_cost_18 rfl hl (by decide) rfl (fun ls hl => ?_)
    have L19 : ∀ (x19 : (Int64) → Prop) (hk19 : ∀ (x1_4 : Int64), x19 x1_4 → ∀ (H : Heap) (locs : List Loc) (ls : Array Slot), va_P D vwCl (WM cI cJ cZ cK ad ud pT pK pN pF pS qT qK qN qF qS mKe mUn mFi mRi mBe mWc mAK mSh mIP mUS mWa mWi mSi mRo mSp mRw mSn mBg mLa mMo mRm mOw mGo mFr mQu mCh mPB mPS mFs ub uT uK uN uF uS) H → va_D A (WM cI cJ cZ cK ad ud pT pK pN pF pS qT qK qN qF qS mKe mUn mFi mRi mBe mWc mAK mSh mIP mUS mWa mWi mSi mRo mSp mRw mSn mBg mLa mMo mRm mOw mGo mFr mQu mCh mPB mPS mFs ub uT uK uN uF uS) → va_S A s.heap H locs → lv_has ls 4 [(1, .long x1_4)] → W p l e (headSpec wsX9_cost rm_X9_cost).room s m args below meth c H locs 0 0 Q (F0 m 50 ls [])) (n19 : Nat) (x1_2 : Int64) (x3_3 : Int32), wp_X9_cost_L19 mPS pK pN pT x19 n19 x1_2 x3_3 → ∀ (H : Heap) (locs : List Loc) (ls : Array Slot), va_P D vwCl (WM cI cJ cZ cK ad ud pT pK pN pF pS qT qK qN qF qS mKe mUn mFi mRi mBe mWc mAK mSh mIP mUS mWa mWi mSi mRo mSp mRw mSn mBg mLa mMo mRm mOw mGo mFr mQu mCh mPB mPS mFs ub uT uK uN uF uS) H → va_D A (WM cI cJ cZ cK ad ud pT pK pN pF pS qT qK qN qF qS mKe mUn mFi mRi mBe mWc mAK mSh mIP mUS mWa mWi mSi mRo mSp mRw mSn mBg mLa mMo mRm mOw mGo mFr mQu mCh mPB mPS mFs ub uT uK uN uF uS) → va_S A s.heap H locs → lv_has ls 4 [(0, .ref (ad 0)), (1, .long x1_2), (3, .int x3_3)] → W p l e (headSpec wsX9_cost rm_X9_cost).room s m args below meth c H locs 0 0 Q (F0 m 19 ls []) := by
      intro x19 hk19 n19
      induction n19 with
      | zero => intro x1_2 x3_3 h; exact False.elim h
      | succ n19 ih19 =>
        intro x1_2 x3_3 h H locs ls hP hD hS hl
        refine lv_iload_n hx hb dX9_cost_19 rfl (lv_at hl 2 rfl) ?_
        refine lv_aload_n hx hb dX9_cost_20 rfl (lv_at hl 0 rfl) ?_
        refine va_get (D := D) (ci := 9) (C := RX9) (T := TX9) (N := 32) hx hb hts inn_X9_cost_9 hown hAB.1 hP 0 rfl rfl 0 (by decide) (hts (.fieldLink RX9 10 "BarnBenchModel" "b" "LBarnBenchModel$Book;") (by decide +kernel)) (fun _ h9 => h9) rfl dX9_cost_21 ?_
        refine va_get (D := D) (ci := 8) (C := RX8) (T := TX8) (N := 5) hx hb hts inn_X9_cost_8 hown hAB.1 hP 1 rfl rfl 0 (by decide) (hts (.fieldLink RX9 94 "BarnBenchModel$Book" "tasks" "I") (by decide +kernel)) (fun _ h9 => h9) rfl dX9_cost_24 ?_
        refine lv_icmp_ge (tgt := 50) hx hb dX9_cost_27 (by decide) (fun c_5 => ?_) (fun c_5 => ?_)
        · have h := h.1 c_5
          exact hk19 x1_2 h H locs ls hP hD hS (lv_sub hl [1] rfl)
        · have h := h.2 c_5
          refine lv_lload_n hx hb dX9_cost_30 rfl (lv_at hl 1 rfl) ?_
          refine lv_aload_n hx hb dX9_cost_31 rfl (lv_at hl 0 rfl) ?_
          refine lv_iload_n hx hb dX9_cost_32 rfl (lv_at hl 2 rfl) ?_
          refine lv_aload_n hx hb dX9_cost_33 rfl (lv_at hl 0 rfl) ?_
          refine va_get (D := D) (ci := 9) (C := RX9) (T := TX9) (N := 32) hx hb hts inn_X9_cost_9 hown hAB.1 hP 0 rfl rfl 30 (by decide) (hts (.fieldLink RX9 84 "BarnBenchModel" "planSpans" "[I") (by decide +kernel)) (fun _ h9 => h9) rfl dX9_cost_34 ?_
          refine lv_iload_n hx hb dX9_cost_37 rfl (lv_at hl 2 rfl) ?_
          refine va_iald hx hb hAB.1 hP 30 0 rfl rfl h.1 dX9_cost_38 ?_
          have h := h.2
          refine cl_l hD hS hA (va_runV (As := [.int x3_3, .int (mPS (Int32.toNatClampNeg x3_3))]) (rest := [.long x1_2]) ⟨hx, hb, hml, hown, hts⟩ (ct_X9_costOf h H.size) (cwV 2 hts gX9_cost_X9_costOf rfl rfl rfl (by decide +kernel) ⟨Nat.le_of_ble_eq_true rfl, Nat.le_of_ble_eq_true rfl⟩) ⟨CPre.blind, va_recv hAB.1 hP (ci := 9) (q0 := 0) rfl rfl, wd_pre hAB hP hD hS hA⟩ rfl rfl hl.1 rfl (lv_room (Nat.le_of_ble_eq_true rfl)) dX9_cost_39 ⟨Nat.zero_le _, Nat.zero_le _⟩) (fun r_6 u H locs h hP hD hS => ?_)
          refine lv_ladd hx hb dX9_cost_42 ?_
          refine lv_topl (fun x1_7 e_8 => ?_)
          have h := h x1_7 e_8
          refine lv_lstore_n (lv' := [(1, .long x1_7), (0, .ref (ad 0)), (3, .int x3_3)]) hx hb dX9_cost_43 rfl hl (by decide) rfl (fun ls hl => ?_)
          obtain ⟨x3_9, e_10⟩ : ∃ y : Int32, y = x3_3 + 1 := ⟨_, rfl⟩
          have h := h x3_9 e_10
          refine lv_iinc (v := x3_9) (lv' := [(3, .int x3_9), (1, .long x1_7), (0, .ref (ad 0))]) hx hb dX9_cost_44 hl (k := 2) rfl (by rw [e_10]; rfl) (by decide) rfl (fun ls hl => ?_)
          refine lv_goto (tgt := 19) hx hb dX9_cost_47 (by decide) ?_
          exact ih19 x1_7 x3_9 h H locs ls hP hD hS (lv_sub hl [2, 1, 0] rfl)
    obtain ⟨n19, h⟩ := h
    refine L19 _ (fun x1_4 h H locs ls hP hD hS hl => ?_) n19 0 0 h H locs ls hP hD hS (lv_sub hl [2, 1, 0] rfl)
    refine lv_lload_n hx hb dX9_cost_50 rfl (lv_at hl 0 rfl) ?_
    exact rt_l (mFi) hQ hx hb hr hlk hP hD hS ⟨Nat.zero_le _, Nat.zero_le _⟩ dX9_cost_51 h
  · have h := h.2 c_1
    refine lv_aload_n hx hb dX9_cost_7 rfl (lv_at hl 0 rfl) ?_
    refine lv_bipush (v := (-7)) hx hb dX9_cost_8 (by decide) ?_
    refine cl_i hD hS hA (va_runV (As := [.int (-7)]) (rest := []) ⟨hx, hb, hml, hown, hts⟩ (ct_X9_found h H.size) (cwV 1 hts gX9_cost_X9_found rfl rfl rfl (by decide +kernel) ⟨Nat.le_of_ble_eq_true rfl, Nat.le_of_ble_eq_true rfl⟩) ⟨CPre.blind, va_recv hAB.1 hP (ci := 9) (q0 := 0) rfl rfl, wd_pre hAB hP hD hS hA⟩ rfl rfl hl.1 rfl (lv_room (Nat.le_of_ble_eq_true rfl)) dX9_cost_10 ⟨Nat.zero_le _, Nat.zero_le _⟩) (fun r_11 mFi_12 H locs h hP hD hS => ?_)
    have hP : va_P D vwCl (WM cI cJ cZ cK ad ud pT pK pN pF pS qT qK qN qF qS mKe mUn mFi_12 mRi mBe mWc mAK mSh mIP mUS mWa mWi mSi mRo mSp mRw mSn mBg mLa mMo mRm mOw mGo mFr mQu mCh mPB mPS mFs ub uT uK uN uF uS) H := hP
    have hD : va_D A (WM cI cJ cZ cK ad ud pT pK pN pF pS qT qK qN qF qS mKe mUn mFi_12 mRi mBe mWc mAK mSh mIP mUS mWa mWi mSi mRo mSp mRw mSn mBg mLa mMo mRm mOw mGo mFr mQu mCh mPB mPS mFs ub uT uK uN uF uS) := hD
    refine lv_i2l hx hb dX9_cost_13 rfl ?_
    exact rt_l (mFi_12) hQ hx hb hr hlk hP hD hS ⟨Nat.zero_le _, Nat.zero_le _⟩ dX9_cost_14 h
def wp_X9_hurried_L24 (pT : Int32) (mMo_18 : Nat → Int32) (x24 : (Nat → Int32) → Prop) : Nat → (Int32) → (Nat → Int32) → Prop
  | 0, _, _ => False
  | n24 + 1, x4_24, mFs_25 =>
  ((pT ≤ x4_24 → x24 mFs_25) ∧
   (¬ pT ≤ x4_24 → vp_in (12 + x4_24) 24 ∧ vp_in x4_24 24 ∧ vp_in x4_24 12 ∧ ∀ mFs_28 : Nat → Int32, mFs_28 = upd mFs_25 (Int32.toNatClampNeg x4_24) ((mMo_18 (Int32.toNatClampNeg (12 + x4_24))) - (mMo_18 (Int32.toNatClampNeg x4_24))) → ∀ x4_30 : Int32, x4_30 = x4_24 + 1 → (wp_X9_hurried_L24 pT mMo_18 x24 n24) x4_30 mFs_28))
def wp_X9_hurried_b153 (k80 : (Int32) → (Int32) → Prop) (y_45 : Int32) (y_46 : Int32) (x5_44 : Int32) : Prop :=
  ∀ x4_47 : Int32, x4_47 = (y_45 ||| y_46) → ∀ x5_49 : Int32, x5_49 = x5_44 + 1 → k80 x4_47 x5_49
def wp_X9_hurried_b152 (k80 : (Int32) → (Int32) → Prop) (y_52 : Int32) (x5_51 : Int32) : Prop :=
  wp_X9_hurried_b153 k80 y_52 0 x5_51
def wp_X9_hurried_b145 (k80 : (Int32) → (Int32) → Prop) (y_54 : Int32) (x5_53 : Int32) : Prop :=
  wp_X9_hurried_b153 k80 y_54 (1 <<< (x5_53 &&& 31)) x5_53
def wp_X9_hurried_L80 (a2 : Int32) (pT : Int32) (mFs_26 : Nat → Int32) (mMo_35 : Nat → Int32) (x80 : (Int32) → Prop) : Nat → (Int32) → (Int32) → Prop
  | 0, _, _ => False
  | n80 + 1, x4_41, x5_42 =>
  ((pT ≤ x5_42 → x80 x4_41) ∧
   (¬ pT ≤ x5_42 → vp_in (12 + x5_42) 24 ∧ vp_in x5_42 24 ∧ ∀ x6_56 : Int32, x6_56 = ((mMo_35 (Int32.toNatClampNeg (12 + x5_42))) - (mMo_35 (Int32.toNatClampNeg x5_42))) → ((a2 = 0 → vp_in x5_42 12 ∧ ((x6_56 ≤ (mFs_26 (Int32.toNatClampNeg x5_42)) → wp_X9_hurried_b152 (wp_X9_hurried_L80 a2 pT mFs_26 mMo_35 x80 n80) x4_41 x5_42) ∧
   (¬ x6_56 ≤ (mFs_26 (Int32.toNatClampNeg x5_42)) → wp_X9_hurried_b145 (wp_X9_hurried_L80 a2 pT mFs_26 mMo_35 x80 n80) x4_41 x5_42))) ∧
   (¬ a2 = 0 → vp_in x5_42 12 ∧ (((mFs_26 (Int32.toNatClampNeg x5_42)) ≤ x6_56 → wp_X9_hurried_b152 (wp_X9_hurried_L80 a2 pT mFs_26 mMo_35 x80 n80) x4_41 x5_42) ∧
   (¬ (mFs_26 (Int32.toNatClampNeg x5_42)) ≤ x6_56 → wp_X9_hurried_b145 (wp_X9_hurried_L80 a2 pT mFs_26 mMo_35 x80 n80) x4_41 x5_42))))))
def wp_X9_hurried (pT : Int32) (pK : Nat → Int32) (pN : Nat → Int32) (pF : Nat → Int32) (mFi : Int32) (mAK : Int32) (mSh : Int32) (mRw : Nat → Int32) (mSn : Nat → Int32) (mBg : Nat → Int32) (mMo : Nat → Int32) (mRm : Nat → Int64) (mOw : Nat → Int64) (mGo : Nat → Int32) (mFr : Nat → Int32) (mQu : Nat → Int32) (mCh : Nat → Int64) (mFs : Nat → Int32) (a1 : Int32) (a2 : Int32) (Qp : Int32 → (Int32) → (Int32) → (Int32) → (Nat → Int32) → (Nat → Int32) → (Nat → Int32) → (Nat → Int32) → (Nat → Int64) → (Nat → Int64) → (Nat → Int32) → (Nat → Int32) → (Nat → Int32) → (Nat → Int64) → (Nat → Int32) → Prop) : Prop :=
  wp_X9_noLength pT pK pN pF mAK mSh mRw mSn mBg mMo mRm mOw mGo mFr mQu mCh a1 (fun (r_1 : Int32) (mAK_2 : Int32) (mSh_3 : Int32) (mRw_4 : Nat → Int32) (mSn_5 : Nat → Int32) (mBg_6 : Nat → Int32) (mMo_7 : Nat → Int32) (mRm_8 : Nat → Int64) (mOw_9 : Nat → Int64) (mGo_10 : Nat → Int32) (mFr_11 : Nat → Int32) (mQu_12 : Nat → Int32) (mCh_13 : Nat → Int64) => ((r_1 = 0 → wp_X9_rise pT pK pN pF mRw_4 mSn_5 mBg_6 mMo_7 mRm_8 mOw_9 mGo_10 mFr_11 mQu_12 a1 (fun (mRw_15 : Nat → Int32) (mSn_16 : Nat → Int32) (mBg_17 : Nat → Int32) (mMo_18 : Nat → Int32) (mRm_19 : Nat → Int64) (mOw_20 : Nat → Int64) (mGo_21 : Nat → Int32) (mFr_22 : Nat → Int32) (mQu_23 : Nat → Int32) => (∃ n24 : Nat, wp_X9_hurried_L24 pT mMo_18 (fun (mFs_26 : Nat → Int32) => wp_X9_rise pT pK pN pF mRw_15 mSn_16 mBg_17 mMo_18 mRm_19 mOw_20 mGo_21 mFr_22 mQu_23 (a1 + 1) (fun (mRw_32 : Nat → Int32) (mSn_33 : Nat → Int32) (mBg_34 : Nat → Int32) (mMo_35 : Nat → Int32) (mRm_36 : Nat → Int64) (mOw_37 : Nat → Int64) (mGo_38 : Nat → Int32) (mFr_39 : Nat → Int32) (mQu_40 : Nat → Int32) => (∃ n80 : Nat, wp_X9_hurried_L80 a2 pT mFs_26 mMo_35 (fun (x4_43 : Int32) => Qp x4_43 mFi mAK_2 mSh_3 mRw_32 mSn_33 mBg_34 mMo_35 mRm_36 mOw_37 mGo_38 mFr_39 mQu_40 mCh_13 mFs_26) n80 0 0))) n24 0 mFs))) ∧
   (¬ r_1 = 0 → wp_X9_found mFi r_1 (fun (r_61 : Int32) (mFi_62 : Int32) => Qp r_61 mFi_62 mAK_2 mSh_3 mRw_4 mSn_5 mBg_6 mMo_7 mRm_8 mOw_9 mGo_10 mFr_11 mQu_12 mCh_13 mFs))))
theorem inn_X9_hurried_8 : ∀ w ∈ u_ws RX8 TX8 5, w ∈ wsX9_hurried := fun _ h => List.mem_cons_of_mem _ (List.mem_append_right _ h)
theorem inn_X9_hurried_9 : ∀ w ∈ u_ws RX9 TX9 32, w ∈ wsX9_hurried := fun _ h => List.mem_cons_of_mem _ (List.mem_append_left _ (List.mem_append_right _ h))
def rm_X9_hurried : Room := { frames := 6, cells := 0, slots := 0, locals := 137 }
set_option maxHeartbeats 4000000 in
set_option maxRecDepth 100000 in
theorem ct_X9_hurried {l : Launch} {D : va_G} {cI cJ cZ cE cD cK : ClassId} {ad : Nat → Nat} {ud : Nat → Nat → Nat} {pT : Int32} {pK : Nat → Int32} {pN : Nat → Int32} {pF : Nat → Int32} {pS : Nat → Int32} {qT : Int32} {qK : Nat → Int32} {qN : Nat → Int32} {qF : Nat → Int32} {qS : Nat → Int32} {mKe : Int32} {mUn : Int32} {mFi : Int32} {mRi : Int32} {mBe : Int64} {mWc : Int32} {mAK : Int32} {mSh : Int32} {mIP : Int32} {mUS : Nat → Int32} {mWa : Nat → Int32} {mWi : Nat → Int32} {mSi : Nat → Int32} {mRo : Nat → Int64} {mSp : Nat → Int64} {mRw : Nat → Int32} {mSn : Nat → Int32} {mBg : Nat → Int32} {mLa : Nat → Int32} {mMo : Nat → Int32} {mRm : Nat → Int64} {mOw : Nat → Int64} {mGo : Nat → Int32} {mFr : Nat → Int32} {mQu : Nat → Int32} {mCh : Nat → Int64} {mPB : Nat → Int32} {mPS : Nat → Int32} {mFs : Nat → Int32} {ub : Nat → Nat} {uT : Nat → Int32} {uK : Nat → Nat → Int32} {uN : Nat → Nat → Int32} {uF : Nat → Nat → Int32} {uS : Nat → Nat → Int32}   {a1 : Int32} {a2 : Int32} {Qp : Int32 → (Int32) → (Int32) → (Int32) → (Nat → Int32) → (Nat → Int32) → (Nat → Int32) → (Nat → Int32) → (Nat → Int64) → (Nat → Int64) → (Nat → Int32) → (Nat → Int32) → (Nat → Int32) → (Nat → Int64) → (Nat → Int32) → Prop}   (h : wp_X9_hurried pT pK pN pF mFi mAK mSh mRw mSn mBg mMo mRm mOw mGo mFr mQu mCh mFs a1 a2 Qp) : CTi l yX9_hurried wsX9_hurried rm_X9_hurried D (tyL cI cJ cZ cE cD cK) [.ref (ad 0), .int a1, .int a2] (WM cI cJ cZ cK ad ud pT pK pN pF pS qT qK qN qF qS mKe mUn mFi mRi mBe mWc mAK mSh mIP mUS mWa mWi mSi mRo mSp mRw mSn mBg mLa mMo mRm mOw mGo mFr mQu mCh mPB mPS mFs ub uT uK uN uF uS) (fun (r : Int32) (u : (Int32) × (Int32) × (Int32) × (Nat → Int32) × (Nat → Int32) × (Nat → Int32) × (Nat → Int32) × (Nat → Int64) × (Nat → Int64) × (Nat → Int32) × (Nat → Int32) × (Nat → Int32) × (Nat → Int64) × (Nat → Int32)) => Qp r u.1 u.2.1 u.2.2.1 u.2.2.2.1 u.2.2.2.2.1 u.2.2.2.2.2.1 u.2.2.2.2.2.2.1 u.2.2.2.2.2.2.2.1 u.2.2.2.2.2.2.2.2.1 u.2.2.2.2.2.2.2.2.2.1 u.2.2.2.2.2.2.2.2.2.2.1 u.2.2.2.2.2.2.2.2.2.2.2.1 u.2.2.2.2.2.2.2.2.2.2.2.2.1 u.2.2.2.2.2.2.2.2.2.2.2.2.2) (fun u : (Int32) × (Int32) × (Int32) × (Nat → Int32) × (Nat → Int32) × (Nat → Int32) × (Nat → Int32) × (Nat → Int64) × (Nat → Int64) × (Nat → Int32) × (Nat → Int32) × (Nat → Int32) × (Nat → Int64) × (Nat → Int32) => (WM cI cJ cZ cK ad ud pT pK pN pF pS qT qK qN qF qS mKe mUn u.1 mRi mBe mWc u.2.1 u.2.2.1 mIP mUS mWa mWi mSi mRo mSp u.2.2.2.1 u.2.2.2.2.1 u.2.2.2.2.2.1 mLa u.2.2.2.2.2.2.1 u.2.2.2.2.2.2.2.1 u.2.2.2.2.2.2.2.2.1 u.2.2.2.2.2.2.2.2.2.1 u.2.2.2.2.2.2.2.2.2.2.1 u.2.2.2.2.2.2.2.2.2.2.2.1 u.2.2.2.2.2.2.2.2.2.2.2.2.1 mPB mPS u.2.2.2.2.2.2.2.2.2.2.2.2.2 ub uT uK uN uF uS)) 0 0 := by
  refine ent_i (cc := cX9_hurried) (maxL := 7) (ret := (some .int)) (by decide) rfl (Nat.le_of_ble_eq_true rfl) ?_
  intro p e s m args below meth c A Q hQ hx hb hr hml hown hts hlk hA hAB hP hD hS ls hl
  have hown : s.vm.findClass RX9 = some m.cls := hown
  have hl : lv_has ls 7 [(0, .ref (ad 0)), (1, .int a1), (2, .int a2)] := hl
  generalize hH : s.heap = H at hP ⊢
  have hS : va_S A s.heap H [] := by rw [← hH]; exact hS
  clear hH
  generalize ([] : List Loc) = locs at hS ⊢
  refine lv_aload_n hx hb dX9_hurried_0 rfl (lv_at hl 0 rfl) ?_
  refine lv_iload_n hx hb dX9_hurried_1 rfl (lv_at hl 1 rfl) ?_
  refine cl_i hD hS hA (va_runV (As := [.int a1]) (rest := []) ⟨hx, hb, hml, hown, hts⟩ (ct_X9_noLength h H.size) (cwV 1 hts gX9_hurried_X9_noLength rfl rfl rfl (by decide +kernel) ⟨Nat.le_of_ble_eq_true rfl, Nat.le_of_ble_eq_true rfl⟩) ⟨CPre.blind, va_recv hAB.1 hP (ci := 9) (q0 := 0) rfl rfl, wd_pre hAB hP hD hS hA⟩ rfl rfl hl.1 rfl (lv_room (Nat.le_of_ble_eq_true rfl)) dX9_hurried_2 ⟨Nat.zero_le _, Nat.zero_le _⟩) (fun r_1 u H locs h hP hD hS => ?_)
  obtain ⟨mAK_2, mSh_3, mRw_4, mSn_5, mBg_6, mMo_7, mRm_8, mOw_9, mGo_10, mFr_11, mQu_12, mCh_13⟩ := u
  have hP : va_P D vwCl (WM cI cJ cZ cK ad ud pT pK pN pF pS qT qK qN qF qS mKe mUn mFi mRi mBe mWc mAK_2 mSh_3 mIP mUS mWa mWi mSi mRo mSp mRw_4 mSn_5 mBg_6 mLa mMo_7 mRm_8 mOw_9 mGo_10 mFr_11 mQu_12 mCh_13 mPB mPS mFs ub uT uK uN uF uS) H := hP
  have hD : va_D A (WM cI cJ cZ cK ad ud pT pK pN pF pS qT qK qN qF qS mKe mUn mFi mRi mBe mWc mAK_2 mSh_3 mIP mUS mWa mWi mSi mRo mSp mRw_4 mSn_5 mBg_6 mLa mMo_7 mRm_8 mOw_9 mGo_10 mFr_11 mQu_12 mCh_13 mPB mPS mFs ub uT uK uN uF uS) := hD
  refine lv_istore_n (lv' := [(3, .int r_1), (0, .ref (ad 0)), (1, .int a1), (2, .int a2)]) hx hb dX9_hurried_5 rfl hl (by decide) rfl (fun ls hl => ?_)
  refine lv_iload_n hx hb dX9_hurried_6 rfl (lv_at hl 0 rfl) ?_
  refine lv_if_eq (tgt := 16) hx hb dX9_hurried_7 (by decide) (fun c_14 => ?_) (fun c_14 => ?_)
  · have h := h.1 c_14
    refine lv_aload_n hx hb dX9_hurried_16 rfl (lv_at hl 1 rfl) ?_
    refine lv_iload_n hx hb dX9_hurried_17 rfl (lv_at hl 2 rfl) ?_
    refine cl_v hD hS hA (va_runV (As := [.int a1]) (rest := []) ⟨hx, hb, hml, hown, hts⟩ (ct_X9_rise h H.size) (cwV 1 hts gX9_hurried_X9_rise rfl rfl rfl (by decide +kernel) ⟨Nat.le_of_ble_eq_true rfl, Nat.le_of_ble_eq_true rfl⟩) ⟨CPre.blind, va_recv hAB.1 hP (ci := 9) (q0 := 0) rfl rfl, wd_pre hAB hP hD hS hA⟩ rfl rfl hl.1 rfl (lv_room (Nat.le_of_ble_eq_true rfl)) dX9_hurried_18 ⟨Nat.zero_le _, Nat.zero_le _⟩) (fun u H locs h hP hD hS => ?_)
    obtain ⟨mRw_15, mSn_16, mBg_17, mMo_18, mRm_19, mOw_20, mGo_21, mFr_22, mQu_23⟩ := u
    have hP : va_P D vwCl (WM cI cJ cZ cK ad ud pT pK pN pF pS qT qK qN qF qS mKe mUn mFi mRi mBe mWc mAK_2 mSh_3 mIP mUS mWa mWi mSi mRo mSp mRw_15 mSn_16 mBg_17 mLa mMo_18 mRm_19 mOw_20 mGo_21 mFr_22 mQu_23 mCh_13 mPB mPS mFs ub uT uK uN uF uS) H := hP
    have hD : va_D A (WM cI cJ cZ cK ad ud pT pK pN pF pS qT qK qN qF qS mKe mUn mFi mRi mBe mWc mAK_2 mSh_3 mIP mUS mWa mWi mSi mRo mSp mRw_15 mSn_16 mBg_17 mLa mMo_18 mRm_19 mOw_20 mGo_21 mFr_22 mQu_23 mCh_13 mPB mPS mFs ub uT uK uN uF uS) := hD
    refine lv_iconst (v := 0) hx hb dX9_hurried_21 (by decide) ?_
    refine lv_istore (lv' := [(4, .int 0), (3, .int r_1), (0, .ref (ad 0)), (1, .int a1), (2, .int a2)]) hx hb dX9_hurried_22 hl (by decide) rfl (fun ls hl => ?_)
    have L24 : ∀ (x24 : (Nat → Int32) → Prop) (hk24 : ∀ (mFs_26 : Nat → Int32), x24 mFs_26 → ∀ (H : Heap) (locs : List Loc) (ls : Array Slot), va_P D vwCl (WM cI cJ cZ cK ad ud pT pK pN pF pS qT qK qN qF qS mKe mUn mFi mRi mBe mWc mAK_2 mSh_3 mIP mUS mWa mWi mSi mRo mSp mRw_15 mSn_16 mBg_17 mLa mMo_18 mRm_19 mOw_20 mGo_21 mFr_22 mQu_23 mCh_13 mPB mPS mFs_26 ub uT uK uN uF uS) H → va_D A (WM cI cJ cZ cK ad ud pT pK pN pF pS qT qK qN qF qS mKe mUn mFi mRi mBe mWc mAK_2 mSh_3 mIP mUS mWa mWi mSi mRo mSp mRw_15 mSn_16 mBg_17 mLa mMo_18 mRm_19 mOw_20 mGo_21 mFr_22 mQu_23 mCh_13 mPB mPS mFs_26 ub uT uK uN uF uS) → va_S A s.heap H locs → lv_has ls 7 [(0, .ref (ad 0)), (1, .int a1), (2, .int a2)] → W p l e (headSpec wsX9_hurried rm_X9_hurried).room s m args below meth c H locs 0 0 Q (F0 m 67 ls [])) (n24 : Nat) (x4_24 : Int32) (mFs_25 : Nat → Int32), wp_X9_hurried_L24 pT mMo_18 x24 n24 x4_24 mFs_25 → ∀ (H : Heap) (locs : List Loc) (ls : Array Slot), va_P D vwCl (WM cI cJ cZ cK ad ud pT pK pN pF pS qT qK qN qF qS mKe mUn mFi mRi mBe mWc mAK_2 mSh_3 mIP mUS mWa mWi mSi mRo mSp mRw_15 mSn_16 mBg_17 mLa mMo_18 mRm_19 mOw_20 mGo_21 mFr_22 mQu_23 mCh_13 mPB mPS mFs_25 ub uT uK uN uF uS) H → va_D A (WM cI cJ cZ cK ad ud pT pK pN pF pS qT qK qN qF qS mKe mUn mFi mRi mBe mWc mAK_2 mSh_3 mIP mUS mWa mWi mSi mRo mSp mRw_15 mSn_16 mBg_17 mLa mMo_18 mRm_19 mOw_20 mGo_21 mFr_22 mQu_23 mCh_13 mPB mPS mFs_25 ub uT uK uN uF uS) → va_S A s.heap H locs → lv_has ls 7 [(0, .ref (ad 0)), (1, .int a1), (2, .int a2), (4, .int x4_24)] → W p l e (headSpec wsX9_hurried rm_X9_hurried).room s m args below meth c H locs 0 0 Q (F0 m 24 ls []) := by
      intro x24 hk24 n24
      induction n24 with
      | zero => intro x4_24 mFs_25 h; exact False.elim h
      | succ n24 ih24 =>
        intro x4_24 mFs_25 h H locs ls hP hD hS hl
        refine lv_iload hx hb dX9_hurried_24 (lv_at hl 3 rfl) ?_
        refine lv_aload_n hx hb dX9_hurried_26 rfl (lv_at hl 0 rfl) ?_
        refine va_get (D := D) (ci := 9) (C := RX9) (T := TX9) (N := 32) hx hb hts inn_X9_hurried_9 hown hAB.1 hP 0 rfl rfl 0 (by decide) (hts (.fieldLink RX9 10 "BarnBenchModel" "b" "LBarnBenchModel$Book;") (by decide +kernel)) (fun _ h9 => h9) rfl dX9_hurried_27 ?_
        refine va_get (D := D) (ci := 8) (C := RX8) (T := TX8) (N := 5) hx hb hts inn_X9_hurried_8 hown hAB.1 hP 1 rfl rfl 0 (by decide) (hts (.fieldLink RX9 94 "BarnBenchModel$Book" "tasks" "I") (by decide +kernel)) (fun _ h9 => h9) rfl dX9_hurried_30 ?_
        refine lv_icmp_ge (tgt := 67) hx hb dX9_hurried_33 (by decide) (fun c_27 => ?_) (fun c_27 => ?_)
        · have h := h.1 c_27
          exact hk24 mFs_25 h H locs ls hP hD hS (lv_sub hl [0, 1, 2] rfl)
        · have h := h.2 c_27
          refine lv_aload_n hx hb dX9_hurried_36 rfl (lv_at hl 0 rfl) ?_
          refine va_get (D := D) (ci := 9) (C := RX9) (T := TX9) (N := 32) hx hb hts inn_X9_hurried_9 hown hAB.1 hP 0 rfl rfl 31 (by decide) (hts (.fieldLink RX9 87 "BarnBenchModel" "first" "[I") (by decide +kernel)) (fun _ h9 => h9) rfl dX9_hurried_37 ?_
          refine lv_iload hx hb dX9_hurried_40 (lv_at hl 3 rfl) ?_
          refine lv_aload_n hx hb dX9_hurried_42 rfl (lv_at hl 0 rfl) ?_
          refine va_get (D := D) (ci := 9) (C := RX9) (T := TX9) (N := 32) hx hb hts inn_X9_hurried_9 hown hAB.1 hP 0 rfl rfl 19 (by decide) (hts (.fieldLink RX9 60 "BarnBenchModel" "moments" "[I") (by decide +kernel)) (fun _ h9 => h9) rfl dX9_hurried_43 ?_
          refine lv_bipush (v := 12) hx hb dX9_hurried_46 (by decide) ?_
          refine lv_iload hx hb dX9_hurried_48 (lv_at hl 3 rfl) ?_
          refine lv_iadd hx hb dX9_hurried_50 ?_
          refine va_iald hx hb hAB.1 hP 22 0 rfl rfl h.1 dX9_hurried_51 ?_
          have h := h.2
          refine lv_aload_n hx hb dX9_hurried_52 rfl (lv_at hl 0 rfl) ?_
          refine va_get (D := D) (ci := 9) (C := RX9) (T := TX9) (N := 32) hx hb hts inn_X9_hurried_9 hown hAB.1 hP 0 rfl rfl 19 (by decide) (hts (.fieldLink RX9 60 "BarnBenchModel" "moments" "[I") (by decide +kernel)) (fun _ h9 => h9) rfl dX9_hurried_53 ?_
          refine lv_iload hx hb dX9_hurried_56 (lv_at hl 3 rfl) ?_
          refine va_iald hx hb hAB.1 hP 22 0 rfl rfl h.1 dX9_hurried_58 ?_
          have h := h.2
          refine lv_isub hx hb dX9_hurried_59 ?_
          refine sM_31 hx hb hAB hP hD hS h.1 dX9_hurried_60 (fun mFs_28 H locs e_29 hP hD hS => ?_)
          have h := h.2
          have h := h mFs_28 e_29
          obtain ⟨x4_30, e_31⟩ : ∃ y : Int32, y = x4_24 + 1 := ⟨_, rfl⟩
          have h := h x4_30 e_31
          refine lv_iinc (v := x4_30) (lv' := [(4, .int x4_30), (0, .ref (ad 0)), (1, .int a1), (2, .int a2)]) hx hb dX9_hurried_61 hl (k := 3) rfl (by rw [e_31]; rfl) (by decide) rfl (fun ls hl => ?_)
          refine lv_goto (tgt := 24) hx hb dX9_hurried_64 (by decide) ?_
          exact ih24 x4_30 mFs_28 h H locs ls hP hD hS (lv_sub hl [1, 2, 3, 0] rfl)
    obtain ⟨n24, h⟩ := h
    refine L24 _ (fun mFs_26 h H locs ls hP hD hS hl => ?_) n24 0 mFs h H locs ls hP hD hS (lv_sub hl [2, 3, 4, 0] rfl)
    refine lv_aload_n hx hb dX9_hurried_67 rfl (lv_at hl 0 rfl) ?_
    refine lv_iload_n hx hb dX9_hurried_68 rfl (lv_at hl 1 rfl) ?_
    refine lv_iconst (v := 1) hx hb dX9_hurried_69 (by decide) ?_
    refine lv_iadd hx hb dX9_hurried_70 ?_
    refine cl_v hD hS hA (va_runV (As := [.int (a1 + 1)]) (rest := []) ⟨hx, hb, hml, hown, hts⟩ (ct_X9_rise h H.size) (cwV 1 hts gX9_hurried_X9_rise rfl rfl rfl (by decide +kernel) ⟨Nat.le_of_ble_eq_true rfl, Nat.le_of_ble_eq_true rfl⟩) ⟨CPre.blind, va_recv hAB.1 hP (ci := 9) (q0 := 0) rfl rfl, wd_pre hAB hP hD hS hA⟩ rfl rfl hl.1 rfl (lv_room (Nat.le_of_ble_eq_true rfl)) dX9_hurried_71 ⟨Nat.zero_le _, Nat.zero_le _⟩) (fun u H locs h hP hD hS => ?_)
    obtain ⟨mRw_32, mSn_33, mBg_34, mMo_35, mRm_36, mOw_37, mGo_38, mFr_39, mQu_40⟩ := u
    have hP : va_P D vwCl (WM cI cJ cZ cK ad ud pT pK pN pF pS qT qK qN qF qS mKe mUn mFi mRi mBe mWc mAK_2 mSh_3 mIP mUS mWa mWi mSi mRo mSp mRw_32 mSn_33 mBg_34 mLa mMo_35 mRm_36 mOw_37 mGo_38 mFr_39 mQu_40 mCh_13 mPB mPS mFs_26 ub uT uK uN uF uS) H := hP
    have hD : va_D A (WM cI cJ cZ cK ad ud pT pK pN pF pS qT qK qN qF qS mKe mUn mFi mRi mBe mWc mAK_2 mSh_3 mIP mUS mWa mWi mSi mRo mSp mRw_32 mSn_33 mBg_34 mLa mMo_35 mRm_36 mOw_37 mGo_38 mFr_39 mQu_40 mCh_13 mPB mPS mFs_26 ub uT uK uN uF uS) := hD
    refine lv_iconst (v := 0) hx hb dX9_hurried_74 (by decide) ?_
    refine lv_istore (lv' := [(4, .int 0), (0, .ref (ad 0)), (1, .int a1), (2, .int a2)]) hx hb dX9_hurried_75 hl (by decide) rfl (fun ls hl => ?_)
    refine lv_iconst (v := 0) hx hb dX9_hurried_77 (by decide) ?_
    refine lv_istore (lv' := [(5, .int 0), (4, .int 0), (0, .ref (ad 0)), (1, .int a1), (2, .int a2)]) hx hb dX9_hurried_78 hl (by decide) rfl (fun ls hl => ?_)
    have L80 : ∀ (x80 : (Int32) → Prop) (hk80 : ∀ (x4_43 : Int32), x80 x4_43 → ∀ (H : Heap) (locs : List Loc) (ls : Array Slot), va_P D vwCl (WM cI cJ cZ cK ad ud pT pK pN pF pS qT qK qN qF qS mKe mUn mFi mRi mBe mWc mAK_2 mSh_3 mIP mUS mWa mWi mSi mRo mSp mRw_32 mSn_33 mBg_34 mLa mMo_35 mRm_36 mOw_37 mGo_38 mFr_39 mQu_40 mCh_13 mPB mPS mFs_26 ub uT uK uN uF uS) H → va_D A (WM cI cJ cZ cK ad ud pT pK pN pF pS qT qK qN qF qS mKe mUn mFi mRi mBe mWc mAK_2 mSh_3 mIP mUS mWa mWi mSi mRo mSp mRw_32 mSn_33 mBg_34 mLa mMo_35 mRm_36 mOw_37 mGo_38 mFr_39 mQu_40 mCh_13 mPB mPS mFs_26 ub uT uK uN uF uS) → va_S A s.heap H locs → lv_has ls 7 [(4, .int x4_43)] → W p l e (headSpec wsX9_hurried rm_X9_hurried).room s m args below meth c H locs 0 0 Q (F0 m 162 ls [])) (n80 : Nat) (x4_41 : Int32) (x5_42 : Int32), wp_X9_hurried_L80 a2 pT mFs_26 mMo_35 x80 n80 x4_41 x5_42 → ∀ (H : Heap) (locs : List Loc) (ls : Array Slot), va_P D vwCl (WM cI cJ cZ cK ad ud pT pK pN pF pS qT qK qN qF qS mKe mUn mFi mRi mBe mWc mAK_2 mSh_3 mIP mUS mWa mWi mSi mRo mSp mRw_32 mSn_33 mBg_34 mLa mMo_35 mRm_36 mOw_37 mGo_38 mFr_39 mQu_40 mCh_13 mPB mPS mFs_26 ub uT uK uN uF uS) H → va_D A (WM cI cJ cZ cK ad ud pT pK pN pF pS qT qK qN qF qS mKe mUn mFi mRi mBe mWc mAK_2 mSh_3 mIP mUS mWa mWi mSi mRo mSp mRw_32 mSn_33 mBg_34 mLa mMo_35 mRm_36 mOw_37 mGo_38 mFr_39 mQu_40 mCh_13 mPB mPS mFs_26 ub uT uK uN uF uS) → va_S A s.heap H locs → lv_has ls 7 [(0, .ref (ad 0)), (2, .int a2), (4, .int x4_41), (5, .int x5_42)] → W p l e (headSpec wsX9_hurried rm_X9_hurried).room s m args below meth c H locs 0 0 Q (F0 m 80 ls []) := by
      intro x80 hk80 n80
      induction n80 with
      | zero => intro x4_41 x5_42 h; exact False.elim h
      | succ n80 ih80 =>
        intro x4_41 x5_42 h H locs ls hP hD hS hl
        have B153 : ∀ (y_45 : Int32) (y_46 : Int32) (x5_44 : Int32), wp_X9_hurried_b153 (wp_X9_hurried_L80 a2 pT mFs_26 mMo_35 x80 n80) y_45 y_46 x5_44 → ∀ (H : Heap) (locs : List Loc) (ls : Array Slot), va_P D vwCl (WM cI cJ cZ cK ad ud pT pK pN pF pS qT qK qN qF qS mKe mUn mFi mRi mBe mWc mAK_2 mSh_3 mIP mUS mWa mWi mSi mRo mSp mRw_32 mSn_33 mBg_34 mLa mMo_35 mRm_36 mOw_37 mGo_38 mFr_39 mQu_40 mCh_13 mPB mPS mFs_26 ub uT uK uN uF uS) H → va_D A (WM cI cJ cZ cK ad ud pT pK pN pF pS qT qK qN qF qS mKe mUn mFi mRi mBe mWc mAK_2 mSh_3 mIP mUS mWa mWi mSi mRo mSp mRw_32 mSn_33 mBg_34 mLa mMo_35 mRm_36 mOw_37 mGo_38 mFr_39 mQu_40 mCh_13 mPB mPS mFs_26 ub uT uK uN uF uS) → va_S A s.heap H locs → lv_has ls 7 [(0, .ref (ad 0)), (2, .int a2), (5, .int x5_44)] → W p l e (headSpec wsX9_hurried rm_X9_hurried).room s m args below meth c H locs 0 0 Q (F0 m 153 ls [.int y_46, .int y_45]) := by
          intro y_45 y_46 x5_44 h H locs ls hP hD hS hl
          refine lv_ior hx hb dX9_hurried_153 ?_
          refine lv_topi (fun x4_47 e_48 => ?_)
          have h := h x4_47 e_48
          refine lv_istore (lv' := [(4, .int x4_47), (0, .ref (ad 0)), (2, .int a2), (5, .int x5_44)]) hx hb dX9_hurried_154 hl (by decide) rfl (fun ls hl => ?_)
          obtain ⟨x5_49, e_50⟩ : ∃ y : Int32, y = x5_44 + 1 := ⟨_, rfl⟩
          have h := h x5_49 e_50
          refine lv_iinc (v := x5_49) (lv' := [(5, .int x5_49), (4, .int x4_47), (0, .ref (ad 0)), (2, .int a2)]) hx hb dX9_hurried_156 hl (k := 3) rfl (by rw [e_50]; rfl) (by decide) rfl (fun ls hl => ?_)
          refine lv_goto (tgt := 80) hx hb dX9_hurried_159 (by decide) ?_
          exact ih80 x4_47 x5_49 h H locs ls hP hD hS (lv_sub hl [2, 3, 1, 0] rfl)
        have B152 : ∀ (y_52 : Int32) (x5_51 : Int32), wp_X9_hurried_b152 (wp_X9_hurried_L80 a2 pT mFs_26 mMo_35 x80 n80) y_52 x5_51 → ∀ (H : Heap) (locs : List Loc) (ls : Array Slot), va_P D vwCl (WM cI cJ cZ cK ad ud pT pK pN pF pS qT qK qN qF qS mKe mUn mFi mRi mBe mWc mAK_2 mSh_3 mIP mUS mWa mWi mSi mRo mSp mRw_32 mSn_33 mBg_34 mLa mMo_35 mRm_36 mOw_37 mGo_38 mFr_39 mQu_40 mCh_13 mPB mPS mFs_26 ub uT uK uN uF uS) H → va_D A (WM cI cJ cZ cK ad ud pT pK pN pF pS qT qK qN qF qS mKe mUn mFi mRi mBe mWc mAK_2 mSh_3 mIP mUS mWa mWi mSi mRo mSp mRw_32 mSn_33 mBg_34 mLa mMo_35 mRm_36 mOw_37 mGo_38 mFr_39 mQu_40 mCh_13 mPB mPS mFs_26 ub uT uK uN uF uS) → va_S A s.heap H locs → lv_has ls 7 [(0, .ref (ad 0)), (2, .int a2), (5, .int x5_51)] → W p l e (headSpec wsX9_hurried rm_X9_hurried).room s m args below meth c H locs 0 0 Q (F0 m 152 ls [.int y_52]) := by
          intro y_52 x5_51 h H locs ls hP hD hS hl
          refine lv_iconst (v := 0) hx hb dX9_hurried_152 (by decide) ?_
          exact B153 y_52 0 x5_51 h H locs ls hP hD hS (lv_sub hl [0, 1, 2] rfl)
        have B145 : ∀ (y_54 : Int32) (x5_53 : Int32), wp_X9_hurried_b145 (wp_X9_hurried_L80 a2 pT mFs_26 mMo_35 x80 n80) y_54 x5_53 → ∀ (H : Heap) (locs : List Loc) (ls : Array Slot), va_P D vwCl (WM cI cJ cZ cK ad ud pT pK pN pF pS qT qK qN qF qS mKe mUn mFi mRi mBe mWc mAK_2 mSh_3 mIP mUS mWa mWi mSi mRo mSp mRw_32 mSn_33 mBg_34 mLa mMo_35 mRm_36 mOw_37 mGo_38 mFr_39 mQu_40 mCh_13 mPB mPS mFs_26 ub uT uK uN uF uS) H → va_D A (WM cI cJ cZ cK ad ud pT pK pN pF pS qT qK qN qF qS mKe mUn mFi mRi mBe mWc mAK_2 mSh_3 mIP mUS mWa mWi mSi mRo mSp mRw_32 mSn_33 mBg_34 mLa mMo_35 mRm_36 mOw_37 mGo_38 mFr_39 mQu_40 mCh_13 mPB mPS mFs_26 ub uT uK uN uF uS) → va_S A s.heap H locs → lv_has ls 7 [(0, .ref (ad 0)), (2, .int a2), (5, .int x5_53)] → W p l e (headSpec wsX9_hurried rm_X9_hurried).room s m args below meth c H locs 0 0 Q (F0 m 145 ls [.int y_54]) := by
          intro y_54 x5_53 h H locs ls hP hD hS hl
          refine lv_iconst (v := 1) hx hb dX9_hurried_145 (by decide) ?_
          refine lv_iload hx hb dX9_hurried_146 (lv_at hl 2 rfl) ?_
          refine lv_ishl hx hb dX9_hurried_148 ?_
          refine lv_goto (tgt := 153) hx hb dX9_hurried_149 (by decide) ?_
          exact B153 y_54 (1 <<< (x5_53 &&& 31)) x5_53 h H locs ls hP hD hS (lv_sub hl [0, 1, 2] rfl)
        refine lv_iload hx hb dX9_hurried_80 (lv_at hl 3 rfl) ?_
        refine lv_aload_n hx hb dX9_hurried_82 rfl (lv_at hl 0 rfl) ?_
        refine va_get (D := D) (ci := 9) (C := RX9) (T := TX9) (N := 32) hx hb hts inn_X9_hurried_9 hown hAB.1 hP 0 rfl rfl 0 (by decide) (hts (.fieldLink RX9 10 "BarnBenchModel" "b" "LBarnBenchModel$Book;") (by decide +kernel)) (fun _ h9 => h9) rfl dX9_hurried_83 ?_
        refine va_get (D := D) (ci := 8) (C := RX8) (T := TX8) (N := 5) hx hb hts inn_X9_hurried_8 hown hAB.1 hP 1 rfl rfl 0 (by decide) (hts (.fieldLink RX9 94 "BarnBenchModel$Book" "tasks" "I") (by decide +kernel)) (fun _ h9 => h9) rfl dX9_hurried_86 ?_
        refine lv_icmp_ge (tgt := 162) hx hb dX9_hurried_89 (by decide) (fun c_55 => ?_) (fun c_55 => ?_)
        · have h := h.1 c_55
          exact hk80 x4_41 h H locs ls hP hD hS (lv_sub hl [2] rfl)
        · have h := h.2 c_55
          refine lv_aload_n hx hb dX9_hurried_92 rfl (lv_at hl 0 rfl) ?_
          refine va_get (D := D) (ci := 9) (C := RX9) (T := TX9) (N := 32) hx hb hts inn_X9_hurried_9 hown hAB.1 hP 0 rfl rfl 19 (by decide) (hts (.fieldLink RX9 60 "BarnBenchModel" "moments" "[I") (by decide +kernel)) (fun _ h9 => h9) rfl dX9_hurried_93 ?_
          refine lv_bipush (v := 12) hx hb dX9_hurried_96 (by decide) ?_
          refine lv_iload hx hb dX9_hurried_98 (lv_at hl 3 rfl) ?_
          refine lv_iadd hx hb dX9_hurried_100 ?_
          refine va_iald hx hb hAB.1 hP 22 0 rfl rfl h.1 dX9_hurried_101 ?_
          have h := h.2
          refine lv_aload_n hx hb dX9_hurried_102 rfl (lv_at hl 0 rfl) ?_
          refine va_get (D := D) (ci := 9) (C := RX9) (T := TX9) (N := 32) hx hb hts inn_X9_hurried_9 hown hAB.1 hP 0 rfl rfl 19 (by decide) (hts (.fieldLink RX9 60 "BarnBenchModel" "moments" "[I") (by decide +kernel)) (fun _ h9 => h9) rfl dX9_hurried_103 ?_
          refine lv_iload hx hb dX9_hurried_106 (lv_at hl 3 rfl) ?_
          refine va_iald hx hb hAB.1 hP 22 0 rfl rfl h.1 dX9_hurried_108 ?_
          have h := h.2
          refine lv_isub hx hb dX9_hurried_109 ?_
          refine lv_topi (fun x6_56 e_57 => ?_)
          have h := h x6_56 e_57
          refine lv_istore (lv' := [(6, .int x6_56), (0, .ref (ad 0)), (2, .int a2), (4, .int x4_41), (5, .int x5_42)]) hx hb dX9_hurried_110 hl (by decide) rfl (fun ls hl => ?_)
          refine lv_iload hx hb dX9_hurried_112 (lv_at hl 3 rfl) ?_
          refine lv_iload_n hx hb dX9_hurried_114 rfl (lv_at hl 2 rfl) ?_
          refine lv_if_eq (tgt := 133) hx hb dX9_hurried_115 (by decide) (fun c_58 => ?_) (fun c_58 => ?_)
          · have h := h.1 c_58
            refine lv_aload_n hx hb dX9_hurried_133 rfl (lv_at hl 1 rfl) ?_
            refine va_get (D := D) (ci := 9) (C := RX9) (T := TX9) (N := 32) hx hb hts inn_X9_hurried_9 hown hAB.1 hP 0 rfl rfl 31 (by decide) (hts (.fieldLink RX9 87 "BarnBenchModel" "first" "[I") (by decide +kernel)) (fun _ h9 => h9) rfl dX9_hurried_134 ?_
            refine lv_iload hx hb dX9_hurried_137 (lv_at hl 4 rfl) ?_
            refine va_iald hx hb hAB.1 hP 31 0 rfl rfl h.1 dX9_hurried_139 ?_
            have h := h.2
            refine lv_iload hx hb dX9_hurried_140 (lv_at hl 0 rfl) ?_
            refine lv_icmp_ge (tgt := 152) hx hb dX9_hurried_142 (by decide) (fun c_59 => ?_) (fun c_59 => ?_)
            · have h := h.1 c_59
              exact B152 x4_41 x5_42 h H locs ls hP hD hS (lv_sub hl [1, 2, 4] rfl)
            · have h := h.2 c_59
              exact B145 x4_41 x5_42 h H locs ls hP hD hS (lv_sub hl [1, 2, 4] rfl)
          · have h := h.2 c_58
            refine lv_aload_n hx hb dX9_hurried_118 rfl (lv_at hl 1 rfl) ?_
            refine va_get (D := D) (ci := 9) (C := RX9) (T := TX9) (N := 32) hx hb hts inn_X9_hurried_9 hown hAB.1 hP 0 rfl rfl 31 (by decide) (hts (.fieldLink RX9 87 "BarnBenchModel" "first" "[I") (by decide +kernel)) (fun _ h9 => h9) rfl dX9_hurried_119 ?_
            refine lv_iload hx hb dX9_hurried_122 (lv_at hl 4 rfl) ?_
            refine va_iald hx hb hAB.1 hP 31 0 rfl rfl h.1 dX9_hurried_124 ?_
            have h := h.2
            refine lv_iload hx hb dX9_hurried_125 (lv_at hl 0 rfl) ?_
            refine lv_icmp_le (tgt := 152) hx hb dX9_hurried_127 (by decide) (fun c_60 => ?_) (fun c_60 => ?_)
            · have h := h.1 c_60
              exact B152 x4_41 x5_42 h H locs ls hP hD hS (lv_sub hl [1, 2, 4] rfl)
            · have h := h.2 c_60
              refine lv_goto (tgt := 145) hx hb dX9_hurried_130 (by decide) ?_
              exact B145 x4_41 x5_42 h H locs ls hP hD hS (lv_sub hl [1, 2, 4] rfl)
    obtain ⟨n80, h⟩ := h
    refine L80 _ (fun x4_43 h H locs ls hP hD hS hl => ?_) n80 0 0 h H locs ls hP hD hS (lv_sub hl [2, 4, 1, 0] rfl)
    refine lv_iload hx hb dX9_hurried_162 (lv_at hl 0 rfl) ?_
    exact rt_i (mFi, mAK_2, mSh_3, mRw_32, mSn_33, mBg_34, mMo_35, mRm_36, mOw_37, mGo_38, mFr_39, mQu_40, mCh_13, mFs_26) hQ hx hb hr hlk hP hD hS ⟨Nat.zero_le _, Nat.zero_le _⟩ dX9_hurried_164 h
  · have h := h.2 c_14
    refine lv_aload_n hx hb dX9_hurried_10 rfl (lv_at hl 1 rfl) ?_
    refine lv_iload_n hx hb dX9_hurried_11 rfl (lv_at hl 0 rfl) ?_
    refine cl_i hD hS hA (va_runV (As := [.int r_1]) (rest := []) ⟨hx, hb, hml, hown, hts⟩ (ct_X9_found h H.size) (cwV 1 hts gX9_hurried_X9_found rfl rfl rfl (by decide +kernel) ⟨Nat.le_of_ble_eq_true rfl, Nat.le_of_ble_eq_true rfl⟩) ⟨CPre.blind, va_recv hAB.1 hP (ci := 9) (q0 := 0) rfl rfl, wd_pre hAB hP hD hS hA⟩ rfl rfl hl.1 rfl (lv_room (Nat.le_of_ble_eq_true rfl)) dX9_hurried_12 ⟨Nat.zero_le _, Nat.zero_le _⟩) (fun r_61 mFi_62 H locs h hP hD hS => ?_)
    have hP : va_P D vwCl (WM cI cJ cZ cK ad ud pT pK pN pF pS qT qK qN qF qS mKe mUn mFi_62 mRi mBe mWc mAK_2 mSh_3 mIP mUS mWa mWi mSi mRo mSp mRw_4 mSn_5 mBg_6 mLa mMo_7 mRm_8 mOw_9 mGo_10 mFr_11 mQu_12 mCh_13 mPB mPS mFs ub uT uK uN uF uS) H := hP
    have hD : va_D A (WM cI cJ cZ cK ad ud pT pK pN pF pS qT qK qN qF qS mKe mUn mFi_62 mRi mBe mWc mAK_2 mSh_3 mIP mUS mWa mWi mSi mRo mSp mRw_4 mSn_5 mBg_6 mLa mMo_7 mRm_8 mOw_9 mGo_10 mFr_11 mQu_12 mCh_13 mPB mPS mFs ub uT uK uN uF uS) := hD
    exact rt_i (mFi_62, mAK_2, mSh_3, mRw_4, mSn_5, mBg_6, mMo_7, mRm_8, mOw_9, mGo_10, mFr_11, mQu_12, mCh_13, mFs) hQ hx hb hr hlk hP hD hS ⟨Nat.zero_le _, Nat.zero_le _⟩ dX9_hurried_15 h
def wp_X9_isGood_b168 (k84 : (Int32) → (Int32) → Prop) (x7_15 : Int32) (x8_16 : Int32) : Prop :=
  ∀ x8_17 : Int32, x8_17 = x8_16 + 1 → k84 x7_15 x8_17
def wp_X9_isGood_b166 (k84 : (Int32) → (Int32) → Prop) (y_20 : Int32) (x8_19 : Int32) : Prop :=
  wp_X9_isGood_b168 k84 y_20 x8_19
def wp_X9_isGood_b165 (k84 : (Int32) → (Int32) → Prop) (x8_21 : Int32) : Prop :=
  wp_X9_isGood_b166 k84 0 x8_21
def wp_X9_isGood_L84 (a1 : Int32) (a3 : Int32) (mWa : Nat → Int32) (pF : Nat → Int32) (pT : Int32) (x4_2 : Int64) (x84 : (Int32) → Prop) : Nat → (Int32) → (Int32) → Prop
  | 0, _, _ => False
  | n84 + 1, x7_12, x8_13 =>
  ((pT ≤ x8_13 → x84 x7_12) ∧
   (¬ pT ≤ x8_13 → vp_in ((12 * a1) + x8_13) 144 ∧ (((pF (Int32.toNatClampNeg ((12 * a1) + x8_13))) = 0 → wp_X9_isGood_b168 (wp_X9_isGood_L84 a1 a3 mWa pF pT x4_2 x84 n84) x7_12 x8_13) ∧
   (¬ (pF (Int32.toNatClampNeg ((12 * a1) + x8_13))) = 0 → ((((2 * x8_13) + 1) < a3 → ((x7_12 = 0 → wp_X9_isGood_b165 (wp_X9_isGood_L84 a1 a3 mWa pF pT x4_2 x84 n84) x8_13) ∧
   (¬ x7_12 = 0 → vp_in (2 * x8_13) 60 ∧ vp_in ((2 * x8_13) + 1) 60 ∧ (((lg_cmp x4_2 ((Int32.toInt64 (mWa (Int32.toNatClampNeg (2 * x8_13)))) + (Int32.toInt64 (mWa (Int32.toNatClampNeg ((2 * x8_13) + 1)))))) < 0 → wp_X9_isGood_b165 (wp_X9_isGood_L84 a1 a3 mWa pF pT x4_2 x84 n84) x8_13) ∧
   (¬ (lg_cmp x4_2 ((Int32.toInt64 (mWa (Int32.toNatClampNeg (2 * x8_13)))) + (Int32.toInt64 (mWa (Int32.toNatClampNeg ((2 * x8_13) + 1)))))) < 0 → wp_X9_isGood_b166 (wp_X9_isGood_L84 a1 a3 mWa pF pT x4_2 x84 n84) 1 x8_13))))) ∧
   (¬ ((2 * x8_13) + 1) < a3 → wp_X9_isGood_b168 (wp_X9_isGood_L84 a1 a3 mWa pF pT x4_2 x84 n84) x7_12 x8_13))))))
def wp_X9_isGood (pT : Int32) (pN : Nat → Int32) (pF : Nat → Int32) (mWa : Nat → Int32) (a1 : Int32) (a2 : Int32) (a3 : Int32) (Qp : Int32 → Prop) : Prop :=
  ((((2 * a1) + 1) < a3 → vp_in (2 * a1) 60 ∧ ∀ x4_2 : Int64, x4_2 = (Int32.toInt64 (mWa (Int32.toNatClampNeg (2 * a1)))) → vp_in ((2 * a1) + 1) 60 ∧ ∀ x6_4 : Int32, x6_4 = (mWa (Int32.toNatClampNeg ((2 * a1) + 1))) → wp_X9_number pN a1 1 (fun (r_6 : Int32) => wp_X9_number pN a1 0 (fun (r_7 : Int32) => wp_X9_in (Int32.toInt64 x6_4) (Int32.toInt64 r_6) (Int32.toInt64 r_7) (fun (r_8 : Int32) => ((r_8 = 0 → Qp 0) ∧
   (¬ r_8 = 0 → (((lg_cmp x4_2 0) < 0 → Qp 0) ∧
   (¬ (lg_cmp x4_2 0) < 0 → (((lg_cmp (x4_2 + (Int32.toInt64 x6_4)) (Int32.toInt64 a2)) ≤ 0 → (∃ n84 : Nat, wp_X9_isGood_L84 a1 a3 mWa pF pT x4_2 (fun (x7_14 : Int32) => (x7_14 = 0 ∨ x7_14 = 1) ∧ Qp x7_14) n84 1 0)) ∧
   (¬ (lg_cmp (x4_2 + (Int32.toInt64 x6_4)) (Int32.toInt64 a2)) ≤ 0 → Qp 0)))))))))) ∧
   (¬ ((2 * a1) + 1) < a3 → Qp 0))
theorem inn_X9_isGood_8 : ∀ w ∈ u_ws RX8 TX8 5, w ∈ wsX9_isGood := fun _ h => List.mem_cons_of_mem _ (List.mem_append_right _ h)
theorem inn_X9_isGood_9 : ∀ w ∈ u_ws RX9 TX9 32, w ∈ wsX9_isGood := fun _ h => List.mem_cons_of_mem _ (List.mem_append_left _ (List.mem_append_right _ h))
def rm_X9_isGood : Room := { frames := 1, cells := 0, slots := 0, locals := 25 }
set_option maxHeartbeats 4000000 in
set_option maxRecDepth 100000 in
theorem ct_X9_isGood {l : Launch} {D : va_G} {cI cJ cZ cE cD cK : ClassId} {ad : Nat → Nat} {ud : Nat → Nat → Nat} {pT : Int32} {pK : Nat → Int32} {pN : Nat → Int32} {pF : Nat → Int32} {pS : Nat → Int32} {qT : Int32} {qK : Nat → Int32} {qN : Nat → Int32} {qF : Nat → Int32} {qS : Nat → Int32} {mKe : Int32} {mUn : Int32} {mFi : Int32} {mRi : Int32} {mBe : Int64} {mWc : Int32} {mAK : Int32} {mSh : Int32} {mIP : Int32} {mUS : Nat → Int32} {mWa : Nat → Int32} {mWi : Nat → Int32} {mSi : Nat → Int32} {mRo : Nat → Int64} {mSp : Nat → Int64} {mRw : Nat → Int32} {mSn : Nat → Int32} {mBg : Nat → Int32} {mLa : Nat → Int32} {mMo : Nat → Int32} {mRm : Nat → Int64} {mOw : Nat → Int64} {mGo : Nat → Int32} {mFr : Nat → Int32} {mQu : Nat → Int32} {mCh : Nat → Int64} {mPB : Nat → Int32} {mPS : Nat → Int32} {mFs : Nat → Int32} {ub : Nat → Nat} {uT : Nat → Int32} {uK : Nat → Nat → Int32} {uN : Nat → Nat → Int32} {uF : Nat → Nat → Int32} {uS : Nat → Nat → Int32}   {a1 : Int32} {a2 : Int32} {a3 : Int32} {Qp : Int32 → Prop}   (h : wp_X9_isGood pT pN pF mWa a1 a2 a3 Qp) : CTi l yX9_isGood wsX9_isGood rm_X9_isGood D (tyL cI cJ cZ cE cD cK) [.ref (ad 0), .int a1, .int a2, .int a3] (WM cI cJ cZ cK ad ud pT pK pN pF pS qT qK qN qF qS mKe mUn mFi mRi mBe mWc mAK mSh mIP mUS mWa mWi mSi mRo mSp mRw mSn mBg mLa mMo mRm mOw mGo mFr mQu mCh mPB mPS mFs ub uT uK uN uF uS) (fun (r : Int32) (u : Unit) => Qp r ) (fun u : Unit => (WM cI cJ cZ cK ad ud pT pK pN pF pS qT qK qN qF qS mKe mUn mFi mRi mBe mWc mAK mSh mIP mUS mWa mWi mSi mRo mSp mRw mSn mBg mLa mMo mRm mOw mGo mFr mQu mCh mPB mPS mFs ub uT uK uN uF uS)) 0 0 := by
  refine ent_i (cc := cX9_isGood) (maxL := 9) (ret := (some .boolean)) (by decide) rfl (Nat.le_of_ble_eq_true rfl) ?_
  intro p e s m args below meth c A Q hQ hx hb hr hml hown hts hlk hA hAB hP hD hS ls hl
  have hown : s.vm.findClass RX9 = some m.cls := hown
  have hl : lv_has ls 9 [(0, .ref (ad 0)), (1, .int a1), (2, .int a2), (3, .int a3)] := hl
  generalize hH : s.heap = H at hP ⊢
  have hS : va_S A s.heap H [] := by rw [← hH]; exact hS
  clear hH
  generalize ([] : List Loc) = locs at hS ⊢
  refine lv_iconst (v := 2) hx hb dX9_isGood_0 (by decide) ?_
  refine lv_iload_n hx hb dX9_isGood_1 rfl (lv_at hl 1 rfl) ?_
  refine lv_imul hx hb dX9_isGood_2 ?_
  refine lv_iconst (v := 1) hx hb dX9_isGood_3 (by decide) ?_
  refine lv_iadd hx hb dX9_isGood_4 ?_
  refine lv_iload_n hx hb dX9_isGood_5 rfl (lv_at hl 3 rfl) ?_
  refine lv_icmp_lt (tgt := 11) hx hb dX9_isGood_6 (by decide) (fun c_1 => ?_) (fun c_1 => ?_)
  · have h := h.1 c_1
    refine lv_aload_n hx hb dX9_isGood_11 rfl (lv_at hl 0 rfl) ?_
    refine va_get (D := D) (ci := 9) (C := RX9) (T := TX9) (N := 32) hx hb hts inn_X9_isGood_9 hown hAB.1 hP 0 rfl rfl 10 (by decide) (hts (.fieldLink RX9 31 "BarnBenchModel" "wait" "[I") (by decide +kernel)) (fun _ h9 => h9) rfl dX9_isGood_12 ?_
    refine lv_iconst (v := 2) hx hb dX9_isGood_15 (by decide) ?_
    refine lv_iload_n hx hb dX9_isGood_16 rfl (lv_at hl 1 rfl) ?_
    refine lv_imul hx hb dX9_isGood_17 ?_
    refine va_iald hx hb hAB.1 hP 13 0 rfl rfl h.1 dX9_isGood_18 ?_
    have h := h.2
    refine lv_i2l hx hb dX9_isGood_19 rfl ?_
    refine lv_topl (fun x4_2 e_3 => ?_)
    have h := h x4_2 e_3
    refine lv_lstore (lv' := [(4, .long x4_2), (0, .ref (ad 0)), (1, .int a1), (2, .int a2), (3, .int a3)]) hx hb dX9_isGood_20 hl (by decide) rfl (fun ls hl => ?_)
    refine lv_aload_n hx hb dX9_isGood_22 rfl (lv_at hl 1 rfl) ?_
    refine va_get (D := D) (ci := 9) (C := RX9) (T := TX9) (N := 32) hx hb hts inn_X9_isGood_9 hown hAB.1 hP 0 rfl rfl 10 (by decide) (hts (.fieldLink RX9 31 "BarnBenchModel" "wait" "[I") (by decide +kernel)) (fun _ h9 => h9) rfl dX9_isGood_23 ?_
    refine lv_iconst (v := 2) hx hb dX9_isGood_26 (by decide) ?_
    refine lv_iload_n hx hb dX9_isGood_27 rfl (lv_at hl 2 rfl) ?_
    refine lv_imul hx hb dX9_isGood_28 ?_
    refine lv_iconst (v := 1) hx hb dX9_isGood_29 (by decide) ?_
    refine lv_iadd hx hb dX9_isGood_30 ?_
    refine va_iald hx hb hAB.1 hP 13 0 rfl rfl h.1 dX9_isGood_31 ?_
    have h := h.2
    refine lv_topi (fun x6_4 e_5 => ?_)
    have h := h x6_4 e_5
    refine lv_istore (lv' := [(6, .int x6_4), (4, .long x4_2), (0, .ref (ad 0)), (1, .int a1), (2, .int a2), (3, .int a3)]) hx hb dX9_isGood_32 hl (by decide) rfl (fun ls hl => ?_)
    refine lv_iload hx hb dX9_isGood_34 (lv_at hl 0 rfl) ?_
    refine lv_i2l hx hb dX9_isGood_36 rfl ?_
    refine lv_aload_n hx hb dX9_isGood_37 rfl (lv_at hl 2 rfl) ?_
    refine lv_iload_n hx hb dX9_isGood_38 rfl (lv_at hl 3 rfl) ?_
    refine lv_iconst (v := 1) hx hb dX9_isGood_39 (by decide) ?_
    refine cl_i hD hS hA (va_runV (As := [.int a1, .int 1]) (rest := [.long (Int32.toInt64 x6_4)]) ⟨hx, hb, hml, hown, hts⟩ (ct_X9_number h H.size) (cwV 2 hts gX9_isGood_X9_number rfl rfl rfl (by decide +kernel) ⟨Nat.le_of_ble_eq_true rfl, Nat.le_of_ble_eq_true rfl⟩) ⟨CPre.blind, va_recv hAB.1 hP (ci := 9) (q0 := 0) rfl rfl, wd_pre hAB hP hD hS hA⟩ rfl rfl hl.1 rfl (lv_room (Nat.le_of_ble_eq_true rfl)) dX9_isGood_40 ⟨Nat.zero_le _, Nat.zero_le _⟩) (fun r_6 u H locs h hP hD hS => ?_)
    refine lv_i2l hx hb dX9_isGood_43 rfl ?_
    refine lv_aload_n hx hb dX9_isGood_44 rfl (lv_at hl 2 rfl) ?_
    refine lv_iload_n hx hb dX9_isGood_45 rfl (lv_at hl 3 rfl) ?_
    refine lv_iconst (v := 0) hx hb dX9_isGood_46 (by decide) ?_
    refine cl_i hD hS hA (va_runV (As := [.int a1, .int 0]) (rest := [.long (Int32.toInt64 r_6), .long (Int32.toInt64 x6_4)]) ⟨hx, hb, hml, hown, hts⟩ (ct_X9_number h H.size) (cwV 2 hts gX9_isGood_X9_number rfl rfl rfl (by decide +kernel) ⟨Nat.le_of_ble_eq_true rfl, Nat.le_of_ble_eq_true rfl⟩) ⟨CPre.blind, va_recv hAB.1 hP (ci := 9) (q0 := 0) rfl rfl, wd_pre hAB hP hD hS hA⟩ rfl rfl hl.1 rfl (lv_room (Nat.le_of_ble_eq_true rfl)) dX9_isGood_47 ⟨Nat.zero_le _, Nat.zero_le _⟩) (fun r_7 u H locs h hP hD hS => ?_)
    refine lv_i2l hx hb dX9_isGood_50 rfl ?_
    refine cl_i hD hS hA (va_runS (As := [.long (Int32.toInt64 x6_4), .long (Int32.toInt64 r_6), .long (Int32.toInt64 r_7)]) (rest := []) ⟨hx, hb, hml, hown, hts⟩ (ct_X9_in h H.size) (va_cwS 3 hts gX9_isGood_X9_in rfl rfl rfl (by decide +kernel) ⟨Nat.le_of_ble_eq_true rfl, Nat.le_of_ble_eq_true rfl⟩) ⟨CPre.blind, wd_pre hAB hP hD hS hA⟩ rfl rfl hl.1 rfl (lv_room (Nat.le_of_ble_eq_true rfl)) dX9_isGood_51 ⟨Nat.zero_le _, Nat.zero_le _⟩) (fun r_8 u H locs h hP hD hS => ?_)
    refine lv_if_eq (tgt := 76) hx hb dX9_isGood_54 (by decide) (fun c_9 => ?_) (fun c_9 => ?_)
    · have h := h.1 c_9
      refine lv_iconst (v := 0) hx hb dX9_isGood_76 (by decide) ?_
      exact rt_z () hQ hx hb hr hlk hP hD hS ⟨Nat.zero_le _, Nat.zero_le _⟩ (by decide) dX9_isGood_77 h
    · have h := h.2 c_9
      refine lv_lload hx hb dX9_isGood_57 (lv_at hl 1 rfl) ?_
      refine lv_lconst (v := 0) hx hb dX9_isGood_59 (by decide) ?_
      refine W.lcmp hx hb dX9_isGood_60 ?_
      refine lv_if_lt (tgt := 76) hx hb dX9_isGood_61 (by decide) (fun c_10 => ?_) (fun c_10 => ?_)
      · have h := h.1 c_10
        refine lv_iconst (v := 0) hx hb dX9_isGood_76 (by decide) ?_
        exact rt_z () hQ hx hb hr hlk hP hD hS ⟨Nat.zero_le _, Nat.zero_le _⟩ (by decide) dX9_isGood_77 h
      · have h := h.2 c_10
        refine lv_lload hx hb dX9_isGood_64 (lv_at hl 1 rfl) ?_
        refine lv_iload hx hb dX9_isGood_66 (lv_at hl 0 rfl) ?_
        refine lv_i2l hx hb dX9_isGood_68 rfl ?_
        refine lv_ladd hx hb dX9_isGood_69 ?_
        refine lv_iload_n hx hb dX9_isGood_70 rfl (lv_at hl 4 rfl) ?_
        refine lv_i2l hx hb dX9_isGood_71 rfl ?_
        refine W.lcmp hx hb dX9_isGood_72 ?_
        refine lv_if_le (tgt := 78) hx hb dX9_isGood_73 (by decide) (fun c_11 => ?_) (fun c_11 => ?_)
        · have h := h.1 c_11
          refine lv_iconst (v := 1) hx hb dX9_isGood_78 (by decide) ?_
          refine lv_istore (lv' := [(7, .int 1), (6, .int x6_4), (4, .long x4_2), (0, .ref (ad 0)), (1, .int a1), (2, .int a2), (3, .int a3)]) hx hb dX9_isGood_79 hl (by decide) rfl (fun ls hl => ?_)
          refine lv_iconst (v := 0) hx hb dX9_isGood_81 (by decide) ?_
          refine lv_istore (lv' := [(8, .int 0), (7, .int 1), (6, .int x6_4), (4, .long x4_2), (0, .ref (ad 0)), (1, .int a1), (2, .int a2), (3, .int a3)]) hx hb dX9_isGood_82 hl (by decide) rfl (fun ls hl => ?_)
          have L84 : ∀ (x84 : (Int32) → Prop) (hk84 : ∀ (x7_14 : Int32), x84 x7_14 → ∀ (H : Heap) (locs : List Loc) (ls : Array Slot), va_P D vwCl (WM cI cJ cZ cK ad ud pT pK pN pF pS qT qK qN qF qS mKe mUn mFi mRi mBe mWc mAK mSh mIP mUS mWa mWi mSi mRo mSp mRw mSn mBg mLa mMo mRm mOw mGo mFr mQu mCh mPB mPS mFs ub uT uK uN uF uS) H → va_D A (WM cI cJ cZ cK ad ud pT pK pN pF pS qT qK qN qF qS mKe mUn mFi mRi mBe mWc mAK mSh mIP mUS mWa mWi mSi mRo mSp mRw mSn mBg mLa mMo mRm mOw mGo mFr mQu mCh mPB mPS mFs ub uT uK uN uF uS) → va_S A s.heap H locs → lv_has ls 9 [(7, .int x7_14)] → W p l e (headSpec wsX9_isGood rm_X9_isGood).room s m args below meth c H locs 0 0 Q (F0 m 174 ls [])) (n84 : Nat) (x7_12 : Int32) (x8_13 : Int32), wp_X9_isGood_L84 a1 a3 mWa pF pT x4_2 x84 n84 x7_12 x8_13 → ∀ (H : Heap) (locs : List Loc) (ls : Array Slot), va_P D vwCl (WM cI cJ cZ cK ad ud pT pK pN pF pS qT qK qN qF qS mKe mUn mFi mRi mBe mWc mAK mSh mIP mUS mWa mWi mSi mRo mSp mRw mSn mBg mLa mMo mRm mOw mGo mFr mQu mCh mPB mPS mFs ub uT uK uN uF uS) H → va_D A (WM cI cJ cZ cK ad ud pT pK pN pF pS qT qK qN qF qS mKe mUn mFi mRi mBe mWc mAK mSh mIP mUS mWa mWi mSi mRo mSp mRw mSn mBg mLa mMo mRm mOw mGo mFr mQu mCh mPB mPS mFs ub uT uK uN uF uS) → va_S A s.heap H locs → lv_has ls 9 [(0, .ref (ad 0)), (1, .int a1), (3, .int a3), (4, .long x4_2), (7, .int x7_12), (8, .int x8_13)] → W p l e (headSpec wsX9_isGood rm_X9_isGood).room s m args below meth c H locs 0 0 Q (F0 m 84 ls []) := by
            intro x84 hk84 n84
            induction n84 with
            | zero => intro x7_12 x8_13 h; exact False.elim h
            | succ n84 ih84 =>
              intro x7_12 x8_13 h H locs ls hP hD hS hl
              have B168 : ∀ (x7_15 : Int32) (x8_16 : Int32), wp_X9_isGood_b168 (wp_X9_isGood_L84 a1 a3 mWa pF pT x4_2 x84 n84) x7_15 x8_16 → ∀ (H : Heap) (locs : List Loc) (ls : Array Slot), va_P D vwCl (WM cI cJ cZ cK ad ud pT pK pN pF pS qT qK qN qF qS mKe mUn mFi mRi mBe mWc mAK mSh mIP mUS mWa mWi mSi mRo mSp mRw mSn mBg mLa mMo mRm mOw mGo mFr mQu mCh mPB mPS mFs ub uT uK uN uF uS) H → va_D A (WM cI cJ cZ cK ad ud pT pK pN pF pS qT qK qN qF qS mKe mUn mFi mRi mBe mWc mAK mSh mIP mUS mWa mWi mSi mRo mSp mRw mSn mBg mLa mMo mRm mOw mGo mFr mQu mCh mPB mPS mFs ub uT uK uN uF uS) → va_S A s.heap H locs → lv_has ls 9 [(0, .ref (ad 0)), (1, .int a1), (3, .int a3), (4, .long x4_2), (7, .int x7_15), (8, .int x8_16)] → W p l e (headSpec wsX9_isGood rm_X9_isGood).room s m args below meth c H locs 0 0 Q (F0 m 168 ls []) := by
                intro x7_15 x8_16 h H locs ls hP hD hS hl
                obtain ⟨x8_17, e_18⟩ : ∃ y : Int32, y = x8_16 + 1 := ⟨_, rfl⟩
                have h := h x8_17 e_18
                refine lv_iinc (v := x8_17) (lv' := [(8, .int x8_17), (0, .ref (ad 0)), (1, .int a1), (3, .int a3), (4, .long x4_2), (7, .int x7_15)]) hx hb dX9_isGood_168 hl (k := 5) rfl (by rw [e_18]; rfl) (by decide) rfl (fun ls hl => ?_)
                refine lv_goto (tgt := 84) hx hb dX9_isGood_171 (by decide) ?_
                exact ih84 x7_15 x8_17 h H locs ls hP hD hS (lv_sub hl [1, 2, 3, 4, 5, 0] rfl)
              have B166 : ∀ (y_20 : Int32) (x8_19 : Int32), wp_X9_isGood_b166 (wp_X9_isGood_L84 a1 a3 mWa pF pT x4_2 x84 n84) y_20 x8_19 → ∀ (H : Heap) (locs : List Loc) (ls : Array Slot), va_P D vwCl (WM cI cJ cZ cK ad ud pT pK pN pF pS qT qK qN qF qS mKe mUn mFi mRi mBe mWc mAK mSh mIP mUS mWa mWi mSi mRo mSp mRw mSn mBg mLa mMo mRm mOw mGo mFr mQu mCh mPB mPS mFs ub uT uK uN uF uS) H → va_D A (WM cI cJ cZ cK ad ud pT pK pN pF pS qT qK qN qF qS mKe mUn mFi mRi mBe mWc mAK mSh mIP mUS mWa mWi mSi mRo mSp mRw mSn mBg mLa mMo mRm mOw mGo mFr mQu mCh mPB mPS mFs ub uT uK uN uF uS) → va_S A s.heap H locs → lv_has ls 9 [(0, .ref (ad 0)), (1, .int a1), (3, .int a3), (4, .long x4_2), (8, .int x8_19)] → W p l e (headSpec wsX9_isGood rm_X9_isGood).room s m args below meth c H locs 0 0 Q (F0 m 166 ls [.int y_20]) := by
                intro y_20 x8_19 h H locs ls hP hD hS hl
                refine lv_istore (lv' := [(7, .int y_20), (0, .ref (ad 0)), (1, .int a1), (3, .int a3), (4, .long x4_2), (8, .int x8_19)]) hx hb dX9_isGood_166 hl (by decide) rfl (fun ls hl => ?_)
                exact B168 y_20 x8_19 h H locs ls hP hD hS (lv_sub hl [1, 2, 3, 4, 0, 5] rfl)
              have B165 : ∀ (x8_21 : Int32), wp_X9_isGood_b165 (wp_X9_isGood_L84 a1 a3 mWa pF pT x4_2 x84 n84) x8_21 → ∀ (H : Heap) (locs : List Loc) (ls : Array Slot), va_P D vwCl (WM cI cJ cZ cK ad ud pT pK pN pF pS qT qK qN qF qS mKe mUn mFi mRi mBe mWc mAK mSh mIP mUS mWa mWi mSi mRo mSp mRw mSn mBg mLa mMo mRm mOw mGo mFr mQu mCh mPB mPS mFs ub uT uK uN uF uS) H → va_D A (WM cI cJ cZ cK ad ud pT pK pN pF pS qT qK qN qF qS mKe mUn mFi mRi mBe mWc mAK mSh mIP mUS mWa mWi mSi mRo mSp mRw mSn mBg mLa mMo mRm mOw mGo mFr mQu mCh mPB mPS mFs ub uT uK uN uF uS) → va_S A s.heap H locs → lv_has ls 9 [(0, .ref (ad 0)), (1, .int a1), (3, .int a3), (4, .long x4_2), (8, .int x8_21)] → W p l e (headSpec wsX9_isGood rm_X9_isGood).room s m args below meth c H locs 0 0 Q (F0 m 165 ls []) := by
                intro x8_21 h H locs ls hP hD hS hl
                refine lv_iconst (v := 0) hx hb dX9_isGood_165 (by decide) ?_
                exact B166 0 x8_21 h H locs ls hP hD hS (lv_sub hl [0, 1, 2, 3, 4] rfl)
              refine lv_iload hx hb dX9_isGood_84 (lv_at hl 5 rfl) ?_
              refine lv_aload_n hx hb dX9_isGood_86 rfl (lv_at hl 0 rfl) ?_
              refine va_get (D := D) (ci := 9) (C := RX9) (T := TX9) (N := 32) hx hb hts inn_X9_isGood_9 hown hAB.1 hP 0 rfl rfl 0 (by decide) (hts (.fieldLink RX9 10 "BarnBenchModel" "b" "LBarnBenchModel$Book;") (by decide +kernel)) (fun _ h9 => h9) rfl dX9_isGood_87 ?_
              refine va_get (D := D) (ci := 8) (C := RX8) (T := TX8) (N := 5) hx hb hts inn_X9_isGood_8 hown hAB.1 hP 1 rfl rfl 0 (by decide) (hts (.fieldLink RX9 94 "BarnBenchModel$Book" "tasks" "I") (by decide +kernel)) (fun _ h9 => h9) rfl dX9_isGood_90 ?_
              refine lv_icmp_ge (tgt := 174) hx hb dX9_isGood_93 (by decide) (fun c_22 => ?_) (fun c_22 => ?_)
              · have h := h.1 c_22
                exact hk84 x7_12 h H locs ls hP hD hS (lv_sub hl [4] rfl)
              · have h := h.2 c_22
                refine lv_aload_n hx hb dX9_isGood_96 rfl (lv_at hl 0 rfl) ?_
                refine va_get (D := D) (ci := 9) (C := RX9) (T := TX9) (N := 32) hx hb hts inn_X9_isGood_9 hown hAB.1 hP 0 rfl rfl 0 (by decide) (hts (.fieldLink RX9 10 "BarnBenchModel" "b" "LBarnBenchModel$Book;") (by decide +kernel)) (fun _ h9 => h9) rfl dX9_isGood_97 ?_
                refine va_get (D := D) (ci := 8) (C := RX8) (T := TX8) (N := 5) hx hb hts inn_X9_isGood_8 hown hAB.1 hP 1 rfl rfl 3 (by decide) (hts (.fieldLink RX9 147 "BarnBenchModel$Book" "follows" "[Z") (by decide +kernel)) (fun _ h9 => h9) rfl dX9_isGood_100 ?_
                refine lv_bipush (v := 12) hx hb dX9_isGood_103 (by decide) ?_
                refine lv_iload_n hx hb dX9_isGood_105 rfl (lv_at hl 1 rfl) ?_
                refine lv_imul hx hb dX9_isGood_106 ?_
                refine lv_iload hx hb dX9_isGood_107 (lv_at hl 5 rfl) ?_
                refine lv_iadd hx hb dX9_isGood_109 ?_
                refine va_zald hx hb hAB.1 hP 4 2 rfl rfl h.1 dX9_isGood_110 ?_
                have h := h.2
                refine lv_if_eq (tgt := 168) hx hb dX9_isGood_111 (by decide) (fun c_23 => ?_) (fun c_23 => ?_)
                · have h := h.1 c_23
                  exact B168 x7_12 x8_13 h H locs ls hP hD hS (lv_sub hl [0, 1, 2, 3, 4, 5] rfl)
                · have h := h.2 c_23
                  refine lv_iconst (v := 2) hx hb dX9_isGood_114 (by decide) ?_
                  refine lv_iload hx hb dX9_isGood_115 (lv_at hl 5 rfl) ?_
                  refine lv_imul hx hb dX9_isGood_117 ?_
                  refine lv_iconst (v := 1) hx hb dX9_isGood_118 (by decide) ?_
                  refine lv_iadd hx hb dX9_isGood_119 ?_
                  refine lv_iload_n hx hb dX9_isGood_120 rfl (lv_at hl 2 rfl) ?_
                  refine lv_icmp_lt (tgt := 127) hx hb dX9_isGood_121 (by decide) (fun c_24 => ?_) (fun c_24 => ?_)
                  · have h := h.1 c_24
                    refine lv_iload hx hb dX9_isGood_127 (lv_at hl 4 rfl) ?_
                    refine lv_if_eq (tgt := 165) hx hb dX9_isGood_129 (by decide) (fun c_25 => ?_) (fun c_25 => ?_)
                    · have h := h.1 c_25
                      exact B165 x8_13 h H locs ls hP hD hS (lv_sub hl [0, 1, 2, 3, 5] rfl)
                    · have h := h.2 c_25
                      refine lv_lload hx hb dX9_isGood_132 (lv_at hl 3 rfl) ?_
                      refine lv_aload_n hx hb dX9_isGood_134 rfl (lv_at hl 0 rfl) ?_
                      refine va_get (D := D) (ci := 9) (C := RX9) (T := TX9) (N := 32) hx hb hts inn_X9_isGood_9 hown hAB.1 hP 0 rfl rfl 10 (by decide) (hts (.fieldLink RX9 31 "BarnBenchModel" "wait" "[I") (by decide +kernel)) (fun _ h9 => h9) rfl dX9_isGood_135 ?_
                      refine lv_iconst (v := 2) hx hb dX9_isGood_138 (by decide) ?_
                      refine lv_iload hx hb dX9_isGood_139 (lv_at hl 5 rfl) ?_
                      refine lv_imul hx hb dX9_isGood_141 ?_
                      refine va_iald hx hb hAB.1 hP 13 0 rfl rfl h.1 dX9_isGood_142 ?_
                      have h := h.2
                      refine lv_i2l hx hb dX9_isGood_143 rfl ?_
                      refine lv_aload_n hx hb dX9_isGood_144 rfl (lv_at hl 0 rfl) ?_
                      refine va_get (D := D) (ci := 9) (C := RX9) (T := TX9) (N := 32) hx hb hts inn_X9_isGood_9 hown hAB.1 hP 0 rfl rfl 10 (by decide) (hts (.fieldLink RX9 31 "BarnBenchModel" "wait" "[I") (by decide +kernel)) (fun _ h9 => h9) rfl dX9_isGood_145 ?_
                      refine lv_iconst (v := 2) hx hb dX9_isGood_148 (by decide) ?_
                      refine lv_iload hx hb dX9_isGood_149 (lv_at hl 5 rfl) ?_
                      refine lv_imul hx hb dX9_isGood_151 ?_
                      refine lv_iconst (v := 1) hx hb dX9_isGood_152 (by decide) ?_
                      refine lv_iadd hx hb dX9_isGood_153 ?_
                      refine va_iald hx hb hAB.1 hP 13 0 rfl rfl h.1 dX9_isGood_154 ?_
                      have h := h.2
                      refine lv_i2l hx hb dX9_isGood_155 rfl ?_
                      refine lv_ladd hx hb dX9_isGood_156 ?_
                      refine W.lcmp hx hb dX9_isGood_157 ?_
                      refine lv_if_lt (tgt := 165) hx hb dX9_isGood_158 (by decide) (fun c_26 => ?_) (fun c_26 => ?_)
                      · have h := h.1 c_26
                        exact B165 x8_13 h H locs ls hP hD hS (lv_sub hl [0, 1, 2, 3, 5] rfl)
                      · have h := h.2 c_26
                        refine lv_iconst (v := 1) hx hb dX9_isGood_161 (by decide) ?_
                        refine lv_goto (tgt := 166) hx hb dX9_isGood_162 (by decide) ?_
                        exact B166 1 x8_13 h H locs ls hP hD hS (lv_sub hl [0, 1, 2, 3, 5] rfl)
                  · have h := h.2 c_24
                    refine lv_goto (tgt := 168) hx hb dX9_isGood_124 (by decide) ?_
                    exact B168 x7_12 x8_13 h H locs ls hP hD hS (lv_sub hl [0, 1, 2, 3, 4, 5] rfl)
          obtain ⟨n84, h⟩ := h
          refine L84 _ (fun x7_14 h H locs ls hP hD hS hl => ?_) n84 1 0 h H locs ls hP hD hS (lv_sub hl [4, 5, 7, 3, 1, 0] rfl)
          refine lv_iload hx hb dX9_isGood_174 (lv_at hl 0 rfl) ?_
          exact rt_z () hQ hx hb hr hlk hP hD hS ⟨Nat.zero_le _, Nat.zero_le _⟩ h.1 dX9_isGood_176 h.2
        · have h := h.2 c_11
          refine lv_iconst (v := 0) hx hb dX9_isGood_76 (by decide) ?_
          exact rt_z () hQ hx hb hr hlk hP hD hS ⟨Nat.zero_le _, Nat.zero_le _⟩ (by decide) dX9_isGood_77 h
  · have h := h.2 c_1
    refine lv_iconst (v := 0) hx hb dX9_isGood_9 (by decide) ?_
    exact rt_z () hQ hx hb hr hlk hP hD hS ⟨Nat.zero_le _, Nat.zero_le _⟩ (by decide) dX9_isGood_10 h
def wp_X9_check_L34 (Qp : Int32 → (Int32) → (Int32) → (Int32) → (Int32) → (Nat → Int32) → (Nat → Int32) → (Nat → Int32) → (Nat → Int32) → (Nat → Int64) → (Nat → Int64) → (Nat → Int32) → (Nat → Int32) → (Nat → Int32) → (Nat → Int64) → Prop) (a1 : Int32) (mFi : Int32) (mWa : Nat → Int32) (mWc : Int32) (pF : Nat → Int32) (pK : Nat → Int32) (pN : Nat → Int32) (pT : Int32) (mWc_1 : Int32) (mAK_3 : Int32) (mSh_4 : Int32) (mRw_5 : Nat → Int32) (mSn_6 : Nat → Int32) (mBg_7 : Nat → Int32) (mMo_8 : Nat → Int32) (mRm_9 : Nat → Int64) (mOw_10 : Nat → Int64) (mGo_11 : Nat → Int32) (mFr_12 : Nat → Int32) (mQu_13 : Nat → Int32) (mCh_14 : Nat → Int64) (x34 : (Int64) → Prop) : Nat → (Int64) → (Int32) → Prop
  | 0, _, _ => False
  | n34 + 1, x3_16, x5_17 =>
  ((pT ≤ x5_17 → x34 x3_16) ∧
   (¬ pT ≤ x5_17 → wp_X9_isGood pT pN pF mWa x5_17 a1 mWc (fun (r_20 : Int32) => ((¬ r_20 = 0 → vp_in ((2 * x5_17) + 1) 60 ∧ wp_X9_costOf pK pN x5_17 (mWa (Int32.toNatClampNeg ((2 * x5_17) + 1))) (fun (r_22 : Int64) => ∀ x3_23 : Int64, x3_23 = (x3_16 + r_22) → ∀ x5_25 : Int32, x5_25 = x5_17 + 1 → (wp_X9_check_L34 Qp a1 mFi mWa mWc pF pK pN pT mWc_1 mAK_3 mSh_4 mRw_5 mSn_6 mBg_7 mMo_8 mRm_9 mOw_10 mGo_11 mFr_12 mQu_13 mCh_14 x34 n34) x3_23 x5_25)) ∧
   (r_20 = 0 → Qp (100 + x5_17) mFi mWc_1 mAK_3 mSh_4 mRw_5 mSn_6 mBg_7 mMo_8 mRm_9 mOw_10 mGo_11 mFr_12 mQu_13 mCh_14)))))
def wp_X9_check (pT : Int32) (pK : Nat → Int32) (pN : Nat → Int32) (pF : Nat → Int32) (mFi : Int32) (mWc : Int32) (mAK : Int32) (mSh : Int32) (mWa : Nat → Int32) (mRw : Nat → Int32) (mSn : Nat → Int32) (mBg : Nat → Int32) (mMo : Nat → Int32) (mRm : Nat → Int64) (mOw : Nat → Int64) (mGo : Nat → Int32) (mFr : Nat → Int32) (mQu : Nat → Int32) (mCh : Nat → Int64) (a1 : Int32) (Qp : Int32 → (Int32) → (Int32) → (Int32) → (Int32) → (Nat → Int32) → (Nat → Int32) → (Nat → Int32) → (Nat → Int32) → (Nat → Int64) → (Nat → Int64) → (Nat → Int32) → (Nat → Int32) → (Nat → Int32) → (Nat → Int64) → Prop) : Prop :=
  ∀ mWc_1 : Int32, mWc_1 = 0 → wp_X9_know pT pK pN pF mAK mSh mRw mSn mBg mMo mRm mOw mGo mFr mQu mCh (fun (mAK_3 : Int32) (mSh_4 : Int32) (mRw_5 : Nat → Int32) (mSn_6 : Nat → Int32) (mBg_7 : Nat → Int32) (mMo_8 : Nat → Int32) (mRm_9 : Nat → Int64) (mOw_10 : Nat → Int64) (mGo_11 : Nat → Int32) (mFr_12 : Nat → Int32) (mQu_13 : Nat → Int32) (mCh_14 : Nat → Int64) => ((mSh_4 ≤ a1 → (∃ n34 : Nat, wp_X9_check_L34 Qp a1 mFi mWa mWc pF pK pN pT mWc_1 mAK_3 mSh_4 mRw_5 mSn_6 mBg_7 mMo_8 mRm_9 mOw_10 mGo_11 mFr_12 mQu_13 mCh_14 (fun (x3_18 : Int64) => ((mWc ≤ (2 * pT) → wp_X9_cheapAt pT pK pN pF mAK_3 mSh_4 mRw_5 mSn_6 mBg_7 mMo_8 mRm_9 mOw_10 mGo_11 mFr_12 mQu_13 mCh_14 (Int32.toInt64 a1) (fun (r_28 : Int64) (mAK_29 : Int32) (mSh_30 : Int32) (mRw_31 : Nat → Int32) (mSn_32 : Nat → Int32) (mBg_33 : Nat → Int32) (mMo_34 : Nat → Int32) (mRm_35 : Nat → Int64) (mOw_36 : Nat → Int64) (mGo_37 : Nat → Int32) (mFr_38 : Nat → Int32) (mQu_39 : Nat → Int32) (mCh_40 : Nat → Int64) => ((¬ (lg_cmp x3_18 r_28) = 0 → Qp 1 mFi mWc_1 mAK_29 mSh_30 mRw_31 mSn_32 mBg_33 mMo_34 mRm_35 mOw_36 mGo_37 mFr_38 mQu_39 mCh_40) ∧
   ((lg_cmp x3_18 r_28) = 0 → Qp 0 mFi mWc_1 mAK_29 mSh_30 mRw_31 mSn_32 mBg_33 mMo_34 mRm_35 mOw_36 mGo_37 mFr_38 mQu_39 mCh_40)))) ∧
   (¬ mWc ≤ (2 * pT) → Qp 90 mFi mWc_1 mAK_3 mSh_4 mRw_5 mSn_6 mBg_7 mMo_8 mRm_9 mOw_10 mGo_11 mFr_12 mQu_13 mCh_14))) n34 0 0)) ∧
   (¬ mSh_4 ≤ a1 → wp_X9_found mFi (-8) (fun (r_42 : Int32) (mFi_43 : Int32) => Qp r_42 mFi_43 mWc_1 mAK_3 mSh_4 mRw_5 mSn_6 mBg_7 mMo_8 mRm_9 mOw_10 mGo_11 mFr_12 mQu_13 mCh_14))))
theorem inn_X9_check_8 : ∀ w ∈ u_ws RX8 TX8 5, w ∈ wsX9_check := fun _ h => List.mem_cons_of_mem _ (List.mem_append_right _ h)
theorem inn_X9_check_9 : ∀ w ∈ u_ws RX9 TX9 32, w ∈ wsX9_check := fun _ h => List.mem_cons_of_mem _ (List.mem_append_left _ (List.mem_append_right _ h))
def rm_X9_check : Room := { frames := 6, cells := 0, slots := 0, locals := 138 }
set_option maxHeartbeats 4000000 in
set_option maxRecDepth 100000 in
theorem ct_X9_check {l : Launch} {D : va_G} {cI cJ cZ cE cD cK : ClassId} {ad : Nat → Nat} {ud : Nat → Nat → Nat} {pT : Int32} {pK : Nat → Int32} {pN : Nat → Int32} {pF : Nat → Int32} {pS : Nat → Int32} {qT : Int32} {qK : Nat → Int32} {qN : Nat → Int32} {qF : Nat → Int32} {qS : Nat → Int32} {mKe : Int32} {mUn : Int32} {mFi : Int32} {mRi : Int32} {mBe : Int64} {mWc : Int32} {mAK : Int32} {mSh : Int32} {mIP : Int32} {mUS : Nat → Int32} {mWa : Nat → Int32} {mWi : Nat → Int32} {mSi : Nat → Int32} {mRo : Nat → Int64} {mSp : Nat → Int64} {mRw : Nat → Int32} {mSn : Nat → Int32} {mBg : Nat → Int32} {mLa : Nat → Int32} {mMo : Nat → Int32} {mRm : Nat → Int64} {mOw : Nat → Int64} {mGo : Nat → Int32} {mFr : Nat → Int32} {mQu : Nat → Int32} {mCh : Nat → Int64} {mPB : Nat → Int32} {mPS : Nat → Int32} {mFs : Nat → Int32} {ub : Nat → Nat} {uT : Nat → Int32} {uK : Nat → Nat → Int32} {uN : Nat → Nat → Int32} {uF : Nat → Nat → Int32} {uS : Nat → Nat → Int32}   {a1 : Int32} {Qp : Int32 → (Int32) → (Int32) → (Int32) → (Int32) → (Nat → Int32) → (Nat → Int32) → (Nat → Int32) → (Nat → Int32) → (Nat → Int64) → (Nat → Int64) → (Nat → Int32) → (Nat → Int32) → (Nat → Int32) → (Nat → Int64) → Prop}   (h : wp_X9_check pT pK pN pF mFi mWc mAK mSh mWa mRw mSn mBg mMo mRm mOw mGo mFr mQu mCh a1 Qp) : CTi l yX9_check wsX9_check rm_X9_check D (tyL cI cJ cZ cE cD cK) [.ref (ad 0), .int a1] (WM cI cJ cZ cK ad ud pT pK pN pF pS qT qK qN qF qS mKe mUn mFi mRi mBe mWc mAK mSh mIP mUS mWa mWi mSi mRo mSp mRw mSn mBg mLa mMo mRm mOw mGo mFr mQu mCh mPB mPS mFs ub uT uK uN uF uS) (fun (r : Int32) (u : (Int32) × (Int32) × (Int32) × (Int32) × (Nat → Int32) × (Nat → Int32) × (Nat → Int32) × (Nat → Int32) × (Nat → Int64) × (Nat → Int64) × (Nat → Int32) × (Nat → Int32) × (Nat → Int32) × (Nat → Int64)) => Qp r u.1 u.2.1 u.2.2.1 u.2.2.2.1 u.2.2.2.2.1 u.2.2.2.2.2.1 u.2.2.2.2.2.2.1 u.2.2.2.2.2.2.2.1 u.2.2.2.2.2.2.2.2.1 u.2.2.2.2.2.2.2.2.2.1 u.2.2.2.2.2.2.2.2.2.2.1 u.2.2.2.2.2.2.2.2.2.2.2.1 u.2.2.2.2.2.2.2.2.2.2.2.2.1 u.2.2.2.2.2.2.2.2.2.2.2.2.2) (fun u : (Int32) × (Int32) × (Int32) × (Int32) × (Nat → Int32) × (Nat → Int32) × (Nat → Int32) × (Nat → Int32) × (Nat → Int64) × (Nat → Int64) × (Nat → Int32) × (Nat → Int32) × (Nat → Int32) × (Nat → Int64) => (WM cI cJ cZ cK ad ud pT pK pN pF pS qT qK qN qF qS mKe mUn u.1 mRi mBe u.2.1 u.2.2.1 u.2.2.2.1 mIP mUS mWa mWi mSi mRo mSp u.2.2.2.2.1 u.2.2.2.2.2.1 u.2.2.2.2.2.2.1 mLa u.2.2.2.2.2.2.2.1 u.2.2.2.2.2.2.2.2.1 u.2.2.2.2.2.2.2.2.2.1 u.2.2.2.2.2.2.2.2.2.2.1 u.2.2.2.2.2.2.2.2.2.2.2.1 u.2.2.2.2.2.2.2.2.2.2.2.2.1 u.2.2.2.2.2.2.2.2.2.2.2.2.2 mPB mPS mFs ub uT uK uN uF uS)) 0 0 := by
  refine ent_i (cc := cX9_check) (maxL := 6) (ret := (some .int)) (by decide) rfl (Nat.le_of_ble_eq_true rfl) ?_
  intro p e s m args below meth c A Q hQ hx hb hr hml hown hts hlk hA hAB hP hD hS ls hl
  have hown : s.vm.findClass RX9 = some m.cls := hown
  have hl : lv_has ls 6 [(0, .ref (ad 0)), (1, .int a1)] := hl
  generalize hH : s.heap = H at hP ⊢
  have hS : va_S A s.heap H [] := by rw [← hH]; exact hS
  clear hH
  generalize ([] : List Loc) = locs at hS ⊢
  refine lv_aload_n hx hb dX9_check_0 rfl (lv_at hl 0 rfl) ?_
  refine va_get (D := D) (ci := 9) (C := RX9) (T := TX9) (N := 32) hx hb hts inn_X9_check_9 hown hAB.1 hP 0 rfl rfl 9 (by decide) (hts (.fieldLink RX9 275 "BarnBenchModel" "waiting" "I") (by decide +kernel)) (fun _ h9 => h9) rfl dX9_check_1 ?_
  refine lv_istore_n (lv' := [(2, .int mWc), (0, .ref (ad 0)), (1, .int a1)]) hx hb dX9_check_4 rfl hl (by decide) rfl (fun ls hl => ?_)
  refine lv_aload_n hx hb dX9_check_5 rfl (lv_at hl 1 rfl) ?_
  refine lv_iconst (v := 0) hx hb dX9_check_6 (by decide) ?_
  refine fM_0_waiting hx hb hAB hP hD hS hts inn_X9_check_9 hown (hts (.fieldLink RX9 275 "BarnBenchModel" "waiting" "I") (by decide +kernel)) dX9_check_7 (fun mWc_1 H locs e_2 hP hD hS => ?_)
  have h := h mWc_1 e_2
  refine lv_aload_n hx hb dX9_check_10 rfl (lv_at hl 1 rfl) ?_
  refine cl_v hD hS hA (va_runV (As := []) (rest := []) ⟨hx, hb, hml, hown, hts⟩ (ct_X9_know h H.size) (cwV 0 hts gX9_check_X9_know rfl rfl rfl (by decide +kernel) ⟨Nat.le_of_ble_eq_true rfl, Nat.le_of_ble_eq_true rfl⟩) ⟨CPre.blind, va_recv hAB.1 hP (ci := 9) (q0 := 0) rfl rfl, wd_pre hAB hP hD hS hA⟩ rfl rfl hl.1 rfl (lv_room (Nat.le_of_ble_eq_true rfl)) dX9_check_11 ⟨Nat.zero_le _, Nat.zero_le _⟩) (fun u H locs h hP hD hS => ?_)
  obtain ⟨mAK_3, mSh_4, mRw_5, mSn_6, mBg_7, mMo_8, mRm_9, mOw_10, mGo_11, mFr_12, mQu_13, mCh_14⟩ := u
  have hP : va_P D vwCl (WM cI cJ cZ cK ad ud pT pK pN pF pS qT qK qN qF qS mKe mUn mFi mRi mBe mWc_1 mAK_3 mSh_4 mIP mUS mWa mWi mSi mRo mSp mRw_5 mSn_6 mBg_7 mLa mMo_8 mRm_9 mOw_10 mGo_11 mFr_12 mQu_13 mCh_14 mPB mPS mFs ub uT uK uN uF uS) H := hP
  have hD : va_D A (WM cI cJ cZ cK ad ud pT pK pN pF pS qT qK qN qF qS mKe mUn mFi mRi mBe mWc_1 mAK_3 mSh_4 mIP mUS mWa mWi mSi mRo mSp mRw_5 mSn_6 mBg_7 mLa mMo_8 mRm_9 mOw_10 mGo_11 mFr_12 mQu_13 mCh_14 mPB mPS mFs ub uT uK uN uF uS) := hD
  refine lv_iload_n hx hb dX9_check_14 rfl (lv_at hl 2 rfl) ?_
  refine lv_aload_n hx hb dX9_check_15 rfl (lv_at hl 1 rfl) ?_
  refine va_get (D := D) (ci := 9) (C := RX9) (T := TX9) (N := 32) hx hb hts inn_X9_check_9 hown hAB.1 hP 0 rfl rfl 26 (by decide) (hts (.fieldLink RX9 235 "BarnBenchModel" "shortest" "I") (by decide +kernel)) (fun _ h9 => h9) rfl dX9_check_16 ?_
  refine lv_icmp_ge (tgt := 29) hx hb dX9_check_19 (by decide) (fun c_15 => ?_) (fun c_15 => ?_)
  · have h := h.1 c_15
    refine lv_lconst (v := 0) hx hb dX9_check_29 (by decide) ?_
    refine lv_lstore_n (lv' := [(3, .long 0), (2, .int mWc), (0, .ref (ad 0)), (1, .int a1)]) hx hb dX9_check_30 rfl hl (by decide) rfl (fun ls hl => ?_)
    refine lv_iconst (v := 0) hx hb dX9_check_31 (by decide) ?_
    refine lv_istore (lv' := [(5, .int 0), (3, .long 0), (2, .int mWc), (0, .ref (ad 0)), (1, .int a1)]) hx hb dX9_check_32 hl (by decide) rfl (fun ls hl => ?_)
    have L34 : ∀ (x34 : (Int64) → Prop) (hk34 : ∀ (x3_18 : Int64), x34 x3_18 → ∀ (H : Heap) (locs : List Loc) (ls : Array Slot), va_P D vwCl (WM cI cJ cZ cK ad ud pT pK pN pF pS qT qK qN qF qS mKe mUn mFi mRi mBe mWc_1 mAK_3 mSh_4 mIP mUS mWa mWi mSi mRo mSp mRw_5 mSn_6 mBg_7 mLa mMo_8 mRm_9 mOw_10 mGo_11 mFr_12 mQu_13 mCh_14 mPB mPS mFs ub uT uK uN uF uS) H → va_D A (WM cI cJ cZ cK ad ud pT pK pN pF pS qT qK qN qF qS mKe mUn mFi mRi mBe mWc_1 mAK_3 mSh_4 mIP mUS mWa mWi mSi mRo mSp mRw_5 mSn_6 mBg_7 mLa mMo_8 mRm_9 mOw_10 mGo_11 mFr_12 mQu_13 mCh_14 mPB mPS mFs ub uT uK uN uF uS) → va_S A s.heap H locs → lv_has ls 6 [(0, .ref (ad 0)), (1, .int a1), (2, .int mWc), (3, .long x3_18)] → W p l e (headSpec wsX9_check rm_X9_check).room s m args below meth c H locs 0 0 Q (F0 m 89 ls [])) (n34 : Nat) (x3_16 : Int64) (x5_17 : Int32), wp_X9_check_L34 Qp a1 mFi mWa mWc pF pK pN pT mWc_1 mAK_3 mSh_4 mRw_5 mSn_6 mBg_7 mMo_8 mRm_9 mOw_10 mGo_11 mFr_12 mQu_13 mCh_14 x34 n34 x3_16 x5_17 → ∀ (H : Heap) (locs : List Loc) (ls : Array Slot), va_P D vwCl (WM cI cJ cZ cK ad ud pT pK pN pF pS qT qK qN qF qS mKe mUn mFi mRi mBe mWc_1 mAK_3 mSh_4 mIP mUS mWa mWi mSi mRo mSp mRw_5 mSn_6 mBg_7 mLa mMo_8 mRm_9 mOw_10 mGo_11 mFr_12 mQu_13 mCh_14 mPB mPS mFs ub uT uK uN uF uS) H → va_D A (WM cI cJ cZ cK ad ud pT pK pN pF pS qT qK qN qF qS mKe mUn mFi mRi mBe mWc_1 mAK_3 mSh_4 mIP mUS mWa mWi mSi mRo mSp mRw_5 mSn_6 mBg_7 mLa mMo_8 mRm_9 mOw_10 mGo_11 mFr_12 mQu_13 mCh_14 mPB mPS mFs ub uT uK uN uF uS) → va_S A s.heap H locs → lv_has ls 6 [(0, .ref (ad 0)), (1, .int a1), (2, .int mWc), (3, .long x3_16), (5, .int x5_17)] → W p l e (headSpec wsX9_check rm_X9_check).room s m args below meth c H locs 0 0 Q (F0 m 34 ls []) := by
      intro x34 hk34 n34
      induction n34 with
      | zero => intro x3_16 x5_17 h; exact False.elim h
      | succ n34 ih34 =>
        intro x3_16 x5_17 h H locs ls hP hD hS hl
        refine lv_iload hx hb dX9_check_34 (lv_at hl 4 rfl) ?_
        refine lv_aload_n hx hb dX9_check_36 rfl (lv_at hl 0 rfl) ?_
        refine va_get (D := D) (ci := 9) (C := RX9) (T := TX9) (N := 32) hx hb hts inn_X9_check_9 hown hAB.1 hP 0 rfl rfl 0 (by decide) (hts (.fieldLink RX9 10 "BarnBenchModel" "b" "LBarnBenchModel$Book;") (by decide +kernel)) (fun _ h9 => h9) rfl dX9_check_37 ?_
        refine va_get (D := D) (ci := 8) (C := RX8) (T := TX8) (N := 5) hx hb hts inn_X9_check_8 hown hAB.1 hP 1 rfl rfl 0 (by decide) (hts (.fieldLink RX9 94 "BarnBenchModel$Book" "tasks" "I") (by decide +kernel)) (fun _ h9 => h9) rfl dX9_check_40 ?_
        refine lv_icmp_ge (tgt := 89) hx hb dX9_check_43 (by decide) (fun c_19 => ?_) (fun c_19 => ?_)
        · have h := h.1 c_19
          exact hk34 x3_16 h H locs ls hP hD hS (lv_sub hl [0, 1, 2, 3] rfl)
        · have h := h.2 c_19
          refine lv_aload_n hx hb dX9_check_46 rfl (lv_at hl 0 rfl) ?_
          refine lv_iload hx hb dX9_check_47 (lv_at hl 4 rfl) ?_
          refine lv_iload_n hx hb dX9_check_49 rfl (lv_at hl 1 rfl) ?_
          refine lv_iload_n hx hb dX9_check_50 rfl (lv_at hl 2 rfl) ?_
          refine cl_i hD hS hA (va_runV (As := [.int x5_17, .int a1, .int mWc]) (rest := []) ⟨hx, hb, hml, hown, hts⟩ (ct_X9_isGood h H.size) (cwV 3 hts gX9_check_X9_isGood rfl rfl rfl (by decide +kernel) ⟨Nat.le_of_ble_eq_true rfl, Nat.le_of_ble_eq_true rfl⟩) ⟨CPre.blind, va_recv hAB.1 hP (ci := 9) (q0 := 0) rfl rfl, wd_pre hAB hP hD hS hA⟩ rfl rfl hl.1 rfl (lv_room (Nat.le_of_ble_eq_true rfl)) dX9_check_51 ⟨Nat.zero_le _, Nat.zero_le _⟩) (fun r_20 u H locs h hP hD hS => ?_)
          refine lv_if_ne (tgt := 63) hx hb dX9_check_54 (by decide) (fun c_21 => ?_) (fun c_21 => ?_)
          · have h := h.1 c_21
            refine lv_lload_n hx hb dX9_check_63 rfl (lv_at hl 3 rfl) ?_
            refine lv_aload_n hx hb dX9_check_64 rfl (lv_at hl 0 rfl) ?_
            refine lv_iload hx hb dX9_check_65 (lv_at hl 4 rfl) ?_
            refine lv_aload_n hx hb dX9_check_67 rfl (lv_at hl 0 rfl) ?_
            refine va_get (D := D) (ci := 9) (C := RX9) (T := TX9) (N := 32) hx hb hts inn_X9_check_9 hown hAB.1 hP 0 rfl rfl 10 (by decide) (hts (.fieldLink RX9 31 "BarnBenchModel" "wait" "[I") (by decide +kernel)) (fun _ h9 => h9) rfl dX9_check_68 ?_
            refine lv_iconst (v := 2) hx hb dX9_check_71 (by decide) ?_
            refine lv_iload hx hb dX9_check_72 (lv_at hl 4 rfl) ?_
            refine lv_imul hx hb dX9_check_74 ?_
            refine lv_iconst (v := 1) hx hb dX9_check_75 (by decide) ?_
            refine lv_iadd hx hb dX9_check_76 ?_
            refine va_iald hx hb hAB.1 hP 13 0 rfl rfl h.1 dX9_check_77 ?_
            have h := h.2
            refine cl_l hD hS hA (va_runV (As := [.int x5_17, .int (mWa (Int32.toNatClampNeg ((2 * x5_17) + 1)))]) (rest := [.long x3_16]) ⟨hx, hb, hml, hown, hts⟩ (ct_X9_costOf h H.size) (cwV 2 hts gX9_check_X9_costOf rfl rfl rfl (by decide +kernel) ⟨Nat.le_of_ble_eq_true rfl, Nat.le_of_ble_eq_true rfl⟩) ⟨CPre.blind, va_recv hAB.1 hP (ci := 9) (q0 := 0) rfl rfl, wd_pre hAB hP hD hS hA⟩ rfl rfl hl.1 rfl (lv_room (Nat.le_of_ble_eq_true rfl)) dX9_check_78 ⟨Nat.zero_le _, Nat.zero_le _⟩) (fun r_22 u H locs h hP hD hS => ?_)
            refine lv_ladd hx hb dX9_check_81 ?_
            refine lv_topl (fun x3_23 e_24 => ?_)
            have h := h x3_23 e_24
            refine lv_lstore_n (lv' := [(3, .long x3_23), (0, .ref (ad 0)), (1, .int a1), (2, .int mWc), (5, .int x5_17)]) hx hb dX9_check_82 rfl hl (by decide) rfl (fun ls hl => ?_)
            obtain ⟨x5_25, e_26⟩ : ∃ y : Int32, y = x5_17 + 1 := ⟨_, rfl⟩
            have h := h x5_25 e_26
            refine lv_iinc (v := x5_25) (lv' := [(5, .int x5_25), (3, .long x3_23), (0, .ref (ad 0)), (1, .int a1), (2, .int mWc)]) hx hb dX9_check_83 hl (k := 4) rfl (by rw [e_26]; rfl) (by decide) rfl (fun ls hl => ?_)
            refine lv_goto (tgt := 34) hx hb dX9_check_86 (by decide) ?_
            exact ih34 x3_23 x5_25 h H locs ls hP hD hS (lv_sub hl [2, 3, 4, 1, 0] rfl)
          · have h := h.2 c_21
            refine lv_bipush (v := 100) hx hb dX9_check_57 (by decide) ?_
            refine lv_iload hx hb dX9_check_59 (lv_at hl 4 rfl) ?_
            refine lv_iadd hx hb dX9_check_61 ?_
            exact rt_i (mFi, mWc_1, mAK_3, mSh_4, mRw_5, mSn_6, mBg_7, mMo_8, mRm_9, mOw_10, mGo_11, mFr_12, mQu_13, mCh_14) hQ hx hb hr hlk hP hD hS ⟨Nat.zero_le _, Nat.zero_le _⟩ dX9_check_62 h
    obtain ⟨n34, h⟩ := h
    refine L34 _ (fun x3_18 h H locs ls hP hD hS hl => ?_) n34 0 0 h H locs ls hP hD hS (lv_sub hl [3, 4, 2, 1, 0] rfl)
    refine lv_iload_n hx hb dX9_check_89 rfl (lv_at hl 2 rfl) ?_
    refine lv_iconst (v := 2) hx hb dX9_check_90 (by decide) ?_
    refine lv_aload_n hx hb dX9_check_91 rfl (lv_at hl 0 rfl) ?_
    refine va_get (D := D) (ci := 9) (C := RX9) (T := TX9) (N := 32) hx hb hts inn_X9_check_9 hown hAB.1 hP 0 rfl rfl 0 (by decide) (hts (.fieldLink RX9 10 "BarnBenchModel" "b" "LBarnBenchModel$Book;") (by decide +kernel)) (fun _ h9 => h9) rfl dX9_check_92 ?_
    refine va_get (D := D) (ci := 8) (C := RX8) (T := TX8) (N := 5) hx hb hts inn_X9_check_8 hown hAB.1 hP 1 rfl rfl 0 (by decide) (hts (.fieldLink RX9 94 "BarnBenchModel$Book" "tasks" "I") (by decide +kernel)) (fun _ h9 => h9) rfl dX9_check_95 ?_
    refine lv_imul hx hb dX9_check_98 ?_
    refine lv_icmp_le (tgt := 105) hx hb dX9_check_99 (by decide) (fun c_27 => ?_) (fun c_27 => ?_)
    · have h := h.1 c_27
      refine lv_lload_n hx hb dX9_check_105 rfl (lv_at hl 3 rfl) ?_
      refine lv_aload_n hx hb dX9_check_106 rfl (lv_at hl 0 rfl) ?_
      refine lv_iload_n hx hb dX9_check_107 rfl (lv_at hl 1 rfl) ?_
      refine lv_i2l hx hb dX9_check_108 rfl ?_
      refine cl_l hD hS hA (va_runV (As := [.long (Int32.toInt64 a1)]) (rest := [.long x3_18]) ⟨hx, hb, hml, hown, hts⟩ (ct_X9_cheapAt h H.size) (cwV 1 hts gX9_check_X9_cheapAt rfl rfl rfl (by decide +kernel) ⟨Nat.le_of_ble_eq_true rfl, Nat.le_of_ble_eq_true rfl⟩) ⟨CPre.blind, va_recv hAB.1 hP (ci := 9) (q0 := 0) rfl rfl, wd_pre hAB hP hD hS hA⟩ rfl rfl hl.1 rfl (lv_room (Nat.le_of_ble_eq_true rfl)) dX9_check_109 ⟨Nat.zero_le _, Nat.zero_le _⟩) (fun r_28 u H locs h hP hD hS => ?_)
      obtain ⟨mAK_29, mSh_30, mRw_31, mSn_32, mBg_33, mMo_34, mRm_35, mOw_36, mGo_37, mFr_38, mQu_39, mCh_40⟩ := u
      have hP : va_P D vwCl (WM cI cJ cZ cK ad ud pT pK pN pF pS qT qK qN qF qS mKe mUn mFi mRi mBe mWc_1 mAK_29 mSh_30 mIP mUS mWa mWi mSi mRo mSp mRw_31 mSn_32 mBg_33 mLa mMo_34 mRm_35 mOw_36 mGo_37 mFr_38 mQu_39 mCh_40 mPB mPS mFs ub uT uK uN uF uS) H := hP
      have hD : va_D A (WM cI cJ cZ cK ad ud pT pK pN pF pS qT qK qN qF qS mKe mUn mFi mRi mBe mWc_1 mAK_29 mSh_30 mIP mUS mWa mWi mSi mRo mSp mRw_31 mSn_32 mBg_33 mLa mMo_34 mRm_35 mOw_36 mGo_37 mFr_38 mQu_39 mCh_40 mPB mPS mFs ub uT uK uN uF uS) := hD
      refine W.lcmp hx hb dX9_check_112 ?_
      refine lv_if_ne (tgt := 120) hx hb dX9_check_113 (by decide) (fun c_41 => ?_) (fun c_41 => ?_)
      · have h := h.1 c_41
        refine lv_iconst (v := 1) hx hb dX9_check_120 (by decide) ?_
        exact rt_i (mFi, mWc_1, mAK_29, mSh_30, mRw_31, mSn_32, mBg_33, mMo_34, mRm_35, mOw_36, mGo_37, mFr_38, mQu_39, mCh_40) hQ hx hb hr hlk hP hD hS ⟨Nat.zero_le _, Nat.zero_le _⟩ dX9_check_121 h
      · have h := h.2 c_41
        refine lv_iconst (v := 0) hx hb dX9_check_116 (by decide) ?_
        refine lv_goto (tgt := 121) hx hb dX9_check_117 (by decide) ?_
        exact rt_i (mFi, mWc_1, mAK_29, mSh_30, mRw_31, mSn_32, mBg_33, mMo_34, mRm_35, mOw_36, mGo_37, mFr_38, mQu_39, mCh_40) hQ hx hb hr hlk hP hD hS ⟨Nat.zero_le _, Nat.zero_le _⟩ dX9_check_121 h
    · have h := h.2 c_27
      refine lv_bipush (v := 90) hx hb dX9_check_102 (by decide) ?_
      exact rt_i (mFi, mWc_1, mAK_3, mSh_4, mRw_5, mSn_6, mBg_7, mMo_8, mRm_9, mOw_10, mGo_11, mFr_12, mQu_13, mCh_14) hQ hx hb hr hlk hP hD hS ⟨Nat.zero_le _, Nat.zero_le _⟩ dX9_check_104 h
  · have h := h.2 c_15
    refine lv_aload_n hx hb dX9_check_22 rfl (lv_at hl 1 rfl) ?_
    refine lv_bipush (v := (-8)) hx hb dX9_check_23 (by decide) ?_
    refine cl_i hD hS hA (va_runV (As := [.int (-8)]) (rest := []) ⟨hx, hb, hml, hown, hts⟩ (ct_X9_found h H.size) (cwV 1 hts gX9_check_X9_found rfl rfl rfl (by decide +kernel) ⟨Nat.le_of_ble_eq_true rfl, Nat.le_of_ble_eq_true rfl⟩) ⟨CPre.blind, va_recv hAB.1 hP (ci := 9) (q0 := 0) rfl rfl, wd_pre hAB hP hD hS hA⟩ rfl rfl hl.1 rfl (lv_room (Nat.le_of_ble_eq_true rfl)) dX9_check_25 ⟨Nat.zero_le _, Nat.zero_le _⟩) (fun r_42 mFi_43 H locs h hP hD hS => ?_)
    have hP : va_P D vwCl (WM cI cJ cZ cK ad ud pT pK pN pF pS qT qK qN qF qS mKe mUn mFi_43 mRi mBe mWc_1 mAK_3 mSh_4 mIP mUS mWa mWi mSi mRo mSp mRw_5 mSn_6 mBg_7 mLa mMo_8 mRm_9 mOw_10 mGo_11 mFr_12 mQu_13 mCh_14 mPB mPS mFs ub uT uK uN uF uS) H := hP
    have hD : va_D A (WM cI cJ cZ cK ad ud pT pK pN pF pS qT qK qN qF qS mKe mUn mFi_43 mRi mBe mWc_1 mAK_3 mSh_4 mIP mUS mWa mWi mSi mRo mSp mRw_5 mSn_6 mBg_7 mLa mMo_8 mRm_9 mOw_10 mGo_11 mFr_12 mQu_13 mCh_14 mPB mPS mFs ub uT uK uN uF uS) := hD
    exact rt_i (mFi_43, mWc_1, mAK_3, mSh_4, mRw_5, mSn_6, mBg_7, mMo_8, mRm_9, mOw_10, mGo_11, mFr_12, mQu_13, mCh_14) hQ hx hb hr hlk hP hD hS ⟨Nat.zero_le _, Nat.zero_le _⟩ dX9_check_28 h
