def wp_X9_edge (mRm : Nat → Int64) (a1 : Int32) (a2 : Int32) (a3 : Int64) (Qp : (Nat → Int64) → Prop) : Prop :=
  vp_in ((26 * a1) + a2) 676 ∧ vp_in ((26 * a1) + a2) 676 ∧ ∀ mRm_1 : Nat → Int64, mRm_1 = vp_updL mRm (Int32.toNatClampNeg ((26 * a1) + a2)) ((mRm (Int32.toNatClampNeg ((26 * a1) + a2))) + a3) → Qp mRm_1
theorem inn_X9_edge_9 : ∀ w ∈ u_ws RX9 TX9 32, w ∈ wsX9_edge := fun _ h => List.mem_cons_of_mem _ (List.mem_append_right _ h)
def rm_X9_edge : Room := { frames := 0, cells := 0, slots := 0, locals := 0 }
set_option maxHeartbeats 4000000 in
set_option maxRecDepth 100000 in
theorem ct_X9_edge {l : Launch} {D : va_G} {cI cJ cZ cE cD cK : ClassId} {ad : Nat → Nat} {ud : Nat → Nat → Nat} {pT : Int32} {pK : Nat → Int32} {pN : Nat → Int32} {pF : Nat → Int32} {pS : Nat → Int32} {qT : Int32} {qK : Nat → Int32} {qN : Nat → Int32} {qF : Nat → Int32} {qS : Nat → Int32} {mKe : Int32} {mUn : Int32} {mFi : Int32} {mRi : Int32} {mBe : Int64} {mWc : Int32} {mAK : Int32} {mSh : Int32} {mIP : Int32} {mUS : Nat → Int32} {mWa : Nat → Int32} {mWi : Nat → Int32} {mSi : Nat → Int32} {mRo : Nat → Int64} {mSp : Nat → Int64} {mRw : Nat → Int32} {mSn : Nat → Int32} {mBg : Nat → Int32} {mLa : Nat → Int32} {mMo : Nat → Int32} {mRm : Nat → Int64} {mOw : Nat → Int64} {mGo : Nat → Int32} {mFr : Nat → Int32} {mQu : Nat → Int32} {mCh : Nat → Int64} {mPB : Nat → Int32} {mPS : Nat → Int32} {mFs : Nat → Int32} {ub : Nat → Nat} {uT : Nat → Int32} {uK : Nat → Nat → Int32} {uN : Nat → Nat → Int32} {uF : Nat → Nat → Int32} {uS : Nat → Nat → Int32}   {a1 : Int32} {a2 : Int32} {a3 : Int64} {Qp : (Nat → Int64) → Prop}   (h : wp_X9_edge mRm a1 a2 a3 Qp) : CTv l yX9_edge wsX9_edge rm_X9_edge D (tyL cI cJ cZ cE cD cK) [.ref (ad 0), .int a1, .int a2, .long a3] (WM cI cJ cZ cK ad ud pT pK pN pF pS qT qK qN qF qS mKe mUn mFi mRi mBe mWc mAK mSh mIP mUS mWa mWi mSi mRo mSp mRw mSn mBg mLa mMo mRm mOw mGo mFr mQu mCh mPB mPS mFs ub uT uK uN uF uS) (fun u : (Nat → Int64) => Qp u) (fun u : (Nat → Int64) => (WM cI cJ cZ cK ad ud pT pK pN pF pS qT qK qN qF qS mKe mUn mFi mRi mBe mWc mAK mSh mIP mUS mWa mWi mSi mRo mSp mRw mSn mBg mLa mMo u mOw mGo mFr mQu mCh mPB mPS mFs ub uT uK uN uF uS)) 0 0 := by
  refine ent_v (cc := cX9_edge) (maxL := 5) (ret := none) (by decide) rfl (Nat.le_of_ble_eq_true rfl) ?_
  intro p e s m args below meth c A Q hQ hx hb hr hml hown hts hlk hA hAB hP hD hS ls hl
  have hown : s.vm.findClass RX9 = some m.cls := hown
  have hl : lv_has ls 5 [(0, .ref (ad 0)), (1, .int a1), (2, .int a2), (3, .long a3)] := hl
  generalize hH : s.heap = H at hP ⊢
  have hS : va_S A s.heap H [] := by rw [← hH]; exact hS
  clear hH
  generalize ([] : List Loc) = locs at hS ⊢
  refine lv_aload_n hx hb dX9_edge_0 rfl (lv_at hl 0 rfl) ?_
  refine va_get (D := D) (ci := 9) (C := RX9) (T := TX9) (N := 32) hx hb hts inn_X9_edge_9 hown hAB.1 hP 0 rfl rfl 20 (by decide) (hts (.fieldLink RX9 63 "BarnBenchModel" "room" "[J") (by decide +kernel)) (fun _ h9 => h9) rfl dX9_edge_1 ?_
  refine lv_bipush (v := 26) hx hb dX9_edge_4 (by decide) ?_
  refine lv_iload_n hx hb dX9_edge_6 rfl (lv_at hl 1 rfl) ?_
  refine lv_imul hx hb dX9_edge_7 ?_
  refine lv_iload_n hx hb dX9_edge_8 rfl (lv_at hl 2 rfl) ?_
  refine lv_iadd hx hb dX9_edge_9 ?_
  refine lv_dup2_11 hx hb dX9_edge_10 rfl rfl ?_
  refine va_lald hx hb hAB.1 hP 23 1 rfl rfl h.1 dX9_edge_11 ?_
  have h := h.2
  refine lv_lload_n hx hb dX9_edge_12 rfl (lv_at hl 3 rfl) ?_
  refine lv_ladd hx hb dX9_edge_13 ?_
  refine sM_23 hx hb hAB hP hD hS h.1 dX9_edge_14 (fun mRm_1 H locs e_2 hP hD hS => ?_)
  have h := h.2
  have h := h mRm_1 e_2
  exact rt_v (mRm_1) hQ hx hb hr hlk hP hD hS ⟨Nat.zero_le _, Nat.zero_le _⟩ dX9_edge_15 h
def wp_X9_pair_b100 (Qp : (Nat → Int64) → (Nat → Int64) → Prop) (y_1 : Int32) (y_2 : Int32) (y_3 : Int64) (mRm_4 : Nat → Int64) (mOw_5 : Nat → Int64) : Prop :=
  wp_X9_edge mRm_4 y_1 y_2 y_3 (fun (mRm_6 : Nat → Int64) => Qp mRm_6 mOw_5)
def wp_X9_pair (mRm : Nat → Int64) (mOw : Nat → Int64) (a1 : Int32) (a2 : Int32) (a3 : Int64) (a5 : Int64) (Qp : (Nat → Int64) → (Nat → Int64) → Prop) : Prop :=
  (((lg_cmp a5 562949953421312) < 0 → vp_in a2 24 ∧ vp_in a2 24 ∧ ∀ mOw_8 : Nat → Int64, mOw_8 = vp_updL mOw (Int32.toNatClampNeg a2) ((mOw (Int32.toNatClampNeg a2)) + a5) → vp_in a1 24 ∧ vp_in a1 24 ∧ ∀ mOw_10 : Nat → Int64, mOw_10 = vp_updL mOw_8 (Int32.toNatClampNeg a1) ((mOw_8 (Int32.toNatClampNeg a1)) - a5) → (((lg_cmp a3 562949953421312) < 0 → wp_X9_pair_b100 Qp a1 a2 (a3 + a5) mRm mOw_10) ∧
   (¬ (lg_cmp a3 562949953421312) < 0 → wp_X9_pair_b100 Qp a1 a2 1125899906842624 mRm mOw_10))) ∧
   (¬ (lg_cmp a5 562949953421312) < 0 → wp_X9_edge mRm a2 a1 1125899906842624 (fun (mRm_13 : Nat → Int64) => (((lg_cmp a3 562949953421312) < 0 → vp_in a1 24 ∧ vp_in a1 24 ∧ ∀ mOw_15 : Nat → Int64, mOw_15 = vp_updL mOw (Int32.toNatClampNeg a1) ((mOw (Int32.toNatClampNeg a1)) + a3) → vp_in a2 24 ∧ vp_in a2 24 ∧ ∀ mOw_17 : Nat → Int64, mOw_17 = vp_updL mOw_15 (Int32.toNatClampNeg a2) ((mOw_15 (Int32.toNatClampNeg a2)) - a3) → Qp mRm_13 mOw_17) ∧
   (¬ (lg_cmp a3 562949953421312) < 0 → wp_X9_edge mRm_13 a1 a2 1125899906842624 (fun (mRm_19 : Nat → Int64) => Qp mRm_19 mOw))))))
theorem inn_X9_pair_9 : ∀ w ∈ u_ws RX9 TX9 32, w ∈ wsX9_pair := fun _ h => List.mem_cons_of_mem _ (List.mem_append_right _ h)
def rm_X9_pair : Room := { frames := 1, cells := 0, slots := 0, locals := 24 }
set_option maxHeartbeats 4000000 in
set_option maxRecDepth 100000 in
theorem ct_X9_pair {l : Launch} {D : va_G} {cI cJ cZ cE cD cK : ClassId} {ad : Nat → Nat} {ud : Nat → Nat → Nat} {pT : Int32} {pK : Nat → Int32} {pN : Nat → Int32} {pF : Nat → Int32} {pS : Nat → Int32} {qT : Int32} {qK : Nat → Int32} {qN : Nat → Int32} {qF : Nat → Int32} {qS : Nat → Int32} {mKe : Int32} {mUn : Int32} {mFi : Int32} {mRi : Int32} {mBe : Int64} {mWc : Int32} {mAK : Int32} {mSh : Int32} {mIP : Int32} {mUS : Nat → Int32} {mWa : Nat → Int32} {mWi : Nat → Int32} {mSi : Nat → Int32} {mRo : Nat → Int64} {mSp : Nat → Int64} {mRw : Nat → Int32} {mSn : Nat → Int32} {mBg : Nat → Int32} {mLa : Nat → Int32} {mMo : Nat → Int32} {mRm : Nat → Int64} {mOw : Nat → Int64} {mGo : Nat → Int32} {mFr : Nat → Int32} {mQu : Nat → Int32} {mCh : Nat → Int64} {mPB : Nat → Int32} {mPS : Nat → Int32} {mFs : Nat → Int32} {ub : Nat → Nat} {uT : Nat → Int32} {uK : Nat → Nat → Int32} {uN : Nat → Nat → Int32} {uF : Nat → Nat → Int32} {uS : Nat → Nat → Int32}   {a1 : Int32} {a2 : Int32} {a3 : Int64} {a5 : Int64} {Qp : (Nat → Int64) → (Nat → Int64) → Prop}   (h : wp_X9_pair mRm mOw a1 a2 a3 a5 Qp) : CTv l yX9_pair wsX9_pair rm_X9_pair D (tyL cI cJ cZ cE cD cK) [.ref (ad 0), .int a1, .int a2, .long a3, .long a5] (WM cI cJ cZ cK ad ud pT pK pN pF pS qT qK qN qF qS mKe mUn mFi mRi mBe mWc mAK mSh mIP mUS mWa mWi mSi mRo mSp mRw mSn mBg mLa mMo mRm mOw mGo mFr mQu mCh mPB mPS mFs ub uT uK uN uF uS) (fun u : (Nat → Int64) × (Nat → Int64) => Qp u.1 u.2) (fun u : (Nat → Int64) × (Nat → Int64) => (WM cI cJ cZ cK ad ud pT pK pN pF pS qT qK qN qF qS mKe mUn mFi mRi mBe mWc mAK mSh mIP mUS mWa mWi mSi mRo mSp mRw mSn mBg mLa mMo u.1 u.2 mGo mFr mQu mCh mPB mPS mFs ub uT uK uN uF uS)) 0 0 := by
  refine ent_v (cc := cX9_pair) (maxL := 7) (ret := none) (by decide) rfl (Nat.le_of_ble_eq_true rfl) ?_
  intro p e s m args below meth c A Q hQ hx hb hr hml hown hts hlk hA hAB hP hD hS ls hl
  have hown : s.vm.findClass RX9 = some m.cls := hown
  have hl : lv_has ls 7 [(0, .ref (ad 0)), (1, .int a1), (2, .int a2), (3, .long a3), (5, .long a5)] := hl
  generalize hH : s.heap = H at hP ⊢
  have hS : va_S A s.heap H [] := by rw [← hH]; exact hS
  clear hH
  generalize ([] : List Loc) = locs at hS ⊢
  have B100 : ∀ (y_1 : Int32) (y_2 : Int32) (y_3 : Int64) (mRm_4 : Nat → Int64) (mOw_5 : Nat → Int64), wp_X9_pair_b100 Qp y_1 y_2 y_3 mRm_4 mOw_5 → ∀ (H : Heap) (locs : List Loc) (ls : Array Slot), va_P D vwCl (WM cI cJ cZ cK ad ud pT pK pN pF pS qT qK qN qF qS mKe mUn mFi mRi mBe mWc mAK mSh mIP mUS mWa mWi mSi mRo mSp mRw mSn mBg mLa mMo mRm_4 mOw_5 mGo mFr mQu mCh mPB mPS mFs ub uT uK uN uF uS) H → va_D A (WM cI cJ cZ cK ad ud pT pK pN pF pS qT qK qN qF qS mKe mUn mFi mRi mBe mWc mAK mSh mIP mUS mWa mWi mSi mRo mSp mRw mSn mBg mLa mMo mRm_4 mOw_5 mGo mFr mQu mCh mPB mPS mFs ub uT uK uN uF uS) → va_S A s.heap H locs → lv_has ls 7 [] → W p l e (headSpec wsX9_pair rm_X9_pair).room s m args below meth c H locs 0 0 Q (F0 m 100 ls [.long y_3, .int y_2, .int y_1, .ref (ad 0)]) := by
    intro y_1 y_2 y_3 mRm_4 mOw_5 h H locs ls hP hD hS hl
    refine cl_v hD hS hA (va_runV (As := [.int y_1, .int y_2, .long y_3]) (rest := []) ⟨hx, hb, hml, hown, hts⟩ (ct_X9_edge h H.size) (cwV 3 hts gX9_pair_X9_edge rfl rfl rfl (by decide +kernel) ⟨Nat.le_of_ble_eq_true rfl, Nat.le_of_ble_eq_true rfl⟩) ⟨CPre.blind, va_recv hAB.1 hP (ci := 9) (q0 := 0) rfl rfl, wd_pre hAB hP hD hS hA⟩ rfl rfl hl.1 rfl (lv_room (Nat.le_of_ble_eq_true rfl)) dX9_pair_100 ⟨Nat.zero_le _, Nat.zero_le _⟩) (fun mRm_6 H locs h hP hD hS => ?_)
    have hP : va_P D vwCl (WM cI cJ cZ cK ad ud pT pK pN pF pS qT qK qN qF qS mKe mUn mFi mRi mBe mWc mAK mSh mIP mUS mWa mWi mSi mRo mSp mRw mSn mBg mLa mMo mRm_6 mOw_5 mGo mFr mQu mCh mPB mPS mFs ub uT uK uN uF uS) H := hP
    have hD : va_D A (WM cI cJ cZ cK ad ud pT pK pN pF pS qT qK qN qF qS mKe mUn mFi mRi mBe mWc mAK mSh mIP mUS mWa mWi mSi mRo mSp mRw mSn mBg mLa mMo mRm_6 mOw_5 mGo mFr mQu mCh mPB mPS mFs ub uT uK uN uF uS) := hD
    exact rt_v (mRm_6, mOw_5) hQ hx hb hr hlk hP hD hS ⟨Nat.zero_le _, Nat.zero_le _⟩ dX9_pair_103 h
  refine lv_lload hx hb dX9_pair_0 (lv_at hl 4 rfl) ?_
  refine lv_ldc2 (v := 562949953421312) hx hb hown (hts (.constantLong RX9 203 562949953421312) (by decide +kernel)) dX9_pair_2 ?_
  refine W.lcmp hx hb dX9_pair_5 ?_
  refine lv_if_lt (tgt := 57) hx hb dX9_pair_6 (by decide) (fun c_7 => ?_) (fun c_7 => ?_)
  · have h := h.1 c_7
    refine lv_aload_n hx hb dX9_pair_57 rfl (lv_at hl 0 rfl) ?_
    refine va_get (D := D) (ci := 9) (C := RX9) (T := TX9) (N := 32) hx hb hts inn_X9_pair_9 hown hAB.1 hP 0 rfl rfl 21 (by decide) (hts (.fieldLink RX9 66 "BarnBenchModel" "own" "[J") (by decide +kernel)) (fun _ h9 => h9) rfl dX9_pair_58 ?_
    refine lv_iload_n hx hb dX9_pair_61 rfl (lv_at hl 2 rfl) ?_
    refine lv_dup2_11 hx hb dX9_pair_62 rfl rfl ?_
    refine va_lald hx hb hAB.1 hP 24 1 rfl rfl h.1 dX9_pair_63 ?_
    have h := h.2
    refine lv_lload hx hb dX9_pair_64 (lv_at hl 4 rfl) ?_
    refine lv_ladd hx hb dX9_pair_66 ?_
    refine sM_24 hx hb hAB hP hD hS h.1 dX9_pair_67 (fun mOw_8 H locs e_9 hP hD hS => ?_)
    have h := h.2
    have h := h mOw_8 e_9
    refine lv_aload_n hx hb dX9_pair_68 rfl (lv_at hl 0 rfl) ?_
    refine va_get (D := D) (ci := 9) (C := RX9) (T := TX9) (N := 32) hx hb hts inn_X9_pair_9 hown hAB.1 hP 0 rfl rfl 21 (by decide) (hts (.fieldLink RX9 66 "BarnBenchModel" "own" "[J") (by decide +kernel)) (fun _ h9 => h9) rfl dX9_pair_69 ?_
    refine lv_iload_n hx hb dX9_pair_72 rfl (lv_at hl 1 rfl) ?_
    refine lv_dup2_11 hx hb dX9_pair_73 rfl rfl ?_
    refine va_lald hx hb hAB.1 hP 24 1 rfl rfl h.1 dX9_pair_74 ?_
    have h := h.2
    refine lv_lload hx hb dX9_pair_75 (lv_at hl 4 rfl) ?_
    refine lv_lsub hx hb dX9_pair_77 ?_
    refine sM_24 hx hb hAB hP hD hS h.1 dX9_pair_78 (fun mOw_10 H locs e_11 hP hD hS => ?_)
    have h := h.2
    have h := h mOw_10 e_11
    refine lv_aload_n hx hb dX9_pair_79 rfl (lv_at hl 0 rfl) ?_
    refine lv_iload_n hx hb dX9_pair_80 rfl (lv_at hl 1 rfl) ?_
    refine lv_iload_n hx hb dX9_pair_81 rfl (lv_at hl 2 rfl) ?_
    refine lv_lload_n hx hb dX9_pair_82 rfl (lv_at hl 3 rfl) ?_
    refine lv_ldc2 (v := 562949953421312) hx hb hown (hts (.constantLong RX9 203 562949953421312) (by decide +kernel)) dX9_pair_83 ?_
    refine W.lcmp hx hb dX9_pair_86 ?_
    refine lv_if_lt (tgt := 96) hx hb dX9_pair_87 (by decide) (fun c_12 => ?_) (fun c_12 => ?_)
    · have h := h.1 c_12
      refine lv_lload_n hx hb dX9_pair_96 rfl (lv_at hl 3 rfl) ?_
      refine lv_lload hx hb dX9_pair_97 (lv_at hl 4 rfl) ?_
      refine lv_ladd hx hb dX9_pair_99 ?_
      exact B100 a1 a2 (a3 + a5) mRm mOw_10 h H locs ls hP hD hS (lv_sub hl [] rfl)
    · have h := h.2 c_12
      refine lv_ldc2 (v := 1125899906842624) hx hb hown (hts (.constantLong RX9 197 1125899906842624) (by decide +kernel)) dX9_pair_90 ?_
      refine lv_goto (tgt := 100) hx hb dX9_pair_93 (by decide) ?_
      exact B100 a1 a2 1125899906842624 mRm mOw_10 h H locs ls hP hD hS (lv_sub hl [] rfl)
  · have h := h.2 c_7
    refine lv_aload_n hx hb dX9_pair_9 rfl (lv_at hl 0 rfl) ?_
    refine lv_iload_n hx hb dX9_pair_10 rfl (lv_at hl 2 rfl) ?_
    refine lv_iload_n hx hb dX9_pair_11 rfl (lv_at hl 1 rfl) ?_
    refine lv_ldc2 (v := 1125899906842624) hx hb hown (hts (.constantLong RX9 197 1125899906842624) (by decide +kernel)) dX9_pair_12 ?_
    refine cl_v hD hS hA (va_runV (As := [.int a2, .int a1, .long 1125899906842624]) (rest := []) ⟨hx, hb, hml, hown, hts⟩ (ct_X9_edge h H.size) (cwV 3 hts gX9_pair_X9_edge rfl rfl rfl (by decide +kernel) ⟨Nat.le_of_ble_eq_true rfl, Nat.le_of_ble_eq_true rfl⟩) ⟨CPre.blind, va_recv hAB.1 hP (ci := 9) (q0 := 0) rfl rfl, wd_pre hAB hP hD hS hA⟩ rfl rfl hl.1 rfl (lv_room (Nat.le_of_ble_eq_true rfl)) dX9_pair_15 ⟨Nat.zero_le _, Nat.zero_le _⟩) (fun mRm_13 H locs h hP hD hS => ?_)
    have hP : va_P D vwCl (WM cI cJ cZ cK ad ud pT pK pN pF pS qT qK qN qF qS mKe mUn mFi mRi mBe mWc mAK mSh mIP mUS mWa mWi mSi mRo mSp mRw mSn mBg mLa mMo mRm_13 mOw mGo mFr mQu mCh mPB mPS mFs ub uT uK uN uF uS) H := hP
    have hD : va_D A (WM cI cJ cZ cK ad ud pT pK pN pF pS qT qK qN qF qS mKe mUn mFi mRi mBe mWc mAK mSh mIP mUS mWa mWi mSi mRo mSp mRw mSn mBg mLa mMo mRm_13 mOw mGo mFr mQu mCh mPB mPS mFs ub uT uK uN uF uS) := hD
    refine lv_lload_n hx hb dX9_pair_18 rfl (lv_at hl 3 rfl) ?_
    refine lv_ldc2 (v := 562949953421312) hx hb hown (hts (.constantLong RX9 203 562949953421312) (by decide +kernel)) dX9_pair_19 ?_
    refine W.lcmp hx hb dX9_pair_22 ?_
    refine lv_if_lt (tgt := 36) hx hb dX9_pair_23 (by decide) (fun c_14 => ?_) (fun c_14 => ?_)
    · have h := h.1 c_14
      refine lv_aload_n hx hb dX9_pair_36 rfl (lv_at hl 0 rfl) ?_
      refine va_get (D := D) (ci := 9) (C := RX9) (T := TX9) (N := 32) hx hb hts inn_X9_pair_9 hown hAB.1 hP 0 rfl rfl 21 (by decide) (hts (.fieldLink RX9 66 "BarnBenchModel" "own" "[J") (by decide +kernel)) (fun _ h9 => h9) rfl dX9_pair_37 ?_
      refine lv_iload_n hx hb dX9_pair_40 rfl (lv_at hl 1 rfl) ?_
      refine lv_dup2_11 hx hb dX9_pair_41 rfl rfl ?_
      refine va_lald hx hb hAB.1 hP 24 1 rfl rfl h.1 dX9_pair_42 ?_
      have h := h.2
      refine lv_lload_n hx hb dX9_pair_43 rfl (lv_at hl 3 rfl) ?_
      refine lv_ladd hx hb dX9_pair_44 ?_
      refine sM_24 hx hb hAB hP hD hS h.1 dX9_pair_45 (fun mOw_15 H locs e_16 hP hD hS => ?_)
      have h := h.2
      have h := h mOw_15 e_16
      refine lv_aload_n hx hb dX9_pair_46 rfl (lv_at hl 0 rfl) ?_
      refine va_get (D := D) (ci := 9) (C := RX9) (T := TX9) (N := 32) hx hb hts inn_X9_pair_9 hown hAB.1 hP 0 rfl rfl 21 (by decide) (hts (.fieldLink RX9 66 "BarnBenchModel" "own" "[J") (by decide +kernel)) (fun _ h9 => h9) rfl dX9_pair_47 ?_
      refine lv_iload_n hx hb dX9_pair_50 rfl (lv_at hl 2 rfl) ?_
      refine lv_dup2_11 hx hb dX9_pair_51 rfl rfl ?_
      refine va_lald hx hb hAB.1 hP 24 1 rfl rfl h.1 dX9_pair_52 ?_
      have h := h.2
      refine lv_lload_n hx hb dX9_pair_53 rfl (lv_at hl 3 rfl) ?_
      refine lv_lsub hx hb dX9_pair_54 ?_
      refine sM_24 hx hb hAB hP hD hS h.1 dX9_pair_55 (fun mOw_17 H locs e_18 hP hD hS => ?_)
      have h := h.2
      have h := h mOw_17 e_18
      exact rt_v (mRm_13, mOw_17) hQ hx hb hr hlk hP hD hS ⟨Nat.zero_le _, Nat.zero_le _⟩ dX9_pair_56 h
    · have h := h.2 c_14
      refine lv_aload_n hx hb dX9_pair_26 rfl (lv_at hl 0 rfl) ?_
      refine lv_iload_n hx hb dX9_pair_27 rfl (lv_at hl 1 rfl) ?_
      refine lv_iload_n hx hb dX9_pair_28 rfl (lv_at hl 2 rfl) ?_
      refine lv_ldc2 (v := 1125899906842624) hx hb hown (hts (.constantLong RX9 197 1125899906842624) (by decide +kernel)) dX9_pair_29 ?_
      refine cl_v hD hS hA (va_runV (As := [.int a1, .int a2, .long 1125899906842624]) (rest := []) ⟨hx, hb, hml, hown, hts⟩ (ct_X9_edge h H.size) (cwV 3 hts gX9_pair_X9_edge rfl rfl rfl (by decide +kernel) ⟨Nat.le_of_ble_eq_true rfl, Nat.le_of_ble_eq_true rfl⟩) ⟨CPre.blind, va_recv hAB.1 hP (ci := 9) (q0 := 0) rfl rfl, wd_pre hAB hP hD hS hA⟩ rfl rfl hl.1 rfl (lv_room (Nat.le_of_ble_eq_true rfl)) dX9_pair_32 ⟨Nat.zero_le _, Nat.zero_le _⟩) (fun mRm_19 H locs h hP hD hS => ?_)
      have hP : va_P D vwCl (WM cI cJ cZ cK ad ud pT pK pN pF pS qT qK qN qF qS mKe mUn mFi mRi mBe mWc mAK mSh mIP mUS mWa mWi mSi mRo mSp mRw mSn mBg mLa mMo mRm_19 mOw mGo mFr mQu mCh mPB mPS mFs ub uT uK uN uF uS) H := hP
      have hD : va_D A (WM cI cJ cZ cK ad ud pT pK pN pF pS qT qK qN qF qS mKe mUn mFi mRi mBe mWc mAK mSh mIP mUS mWa mWi mSi mRo mSp mRw mSn mBg mLa mMo mRm_19 mOw mGo mFr mQu mCh mPB mPS mFs ub uT uK uN uF uS) := hD
      exact rt_v (mRm_19, mOw) hQ hx hb hr hlk hP hD hS ⟨Nat.zero_le _, Nat.zero_le _⟩ dX9_pair_35 h
def wp_X9_bounds_b37 (Qp : (Nat → Int64) → Prop) (a1 : Int32) (a2 : Int32) (a3 : Int32) (mMo : Nat → Int32) (mRm_1 : Nat → Int64) : Prop :=
  ((0 ≤ a2 → Qp mRm_1) ∧
   (¬ 0 ≤ a2 → vp_in a1 24 ∧ (((mMo (Int32.toNatClampNeg a1)) ≤ a3 → Qp mRm_1) ∧
   (¬ (mMo (Int32.toNatClampNeg a1)) ≤ a3 → wp_X9_edge mRm_1 24 a1 1125899906842624 (fun (mRm_4 : Nat → Int64) => Qp mRm_4)))))
def wp_X9_bounds_b27 (Qp : (Nat → Int64) → Prop) (a1 : Int32) (a2 : Int32) (a3 : Int32) (mMo : Nat → Int32) (mRm_5 : Nat → Int64) : Prop :=
  wp_X9_edge mRm_5 a1 25 1125899906842624 (fun (mRm_6 : Nat → Int64) => wp_X9_bounds_b37 Qp a1 a2 a3 mMo mRm_6)
def wp_X9_bounds_b14 (Qp : (Nat → Int64) → Prop) (a1 : Int32) (a2 : Int32) (a3 : Int32) (mMo : Nat → Int32) (mRm_7 : Nat → Int64) : Prop :=
  ((0 ≤ a2 → wp_X9_bounds_b37 Qp a1 a2 a3 mMo mRm_7) ∧
   (¬ 0 ≤ a2 → vp_in a1 24 ∧ ((¬ (mMo (Int32.toNatClampNeg a1)) = 0 → wp_X9_bounds_b37 Qp a1 a2 a3 mMo mRm_7) ∧
   ((mMo (Int32.toNatClampNeg a1)) = 0 → wp_X9_bounds_b27 Qp a1 a2 a3 mMo mRm_7))))
def wp_X9_bounds (mMo : Nat → Int32) (mRm : Nat → Int64) (a1 : Int32) (a2 : Int32) (a3 : Int32) (Qp : (Nat → Int64) → Prop) : Prop :=
  ((a2 ≤ 0 → wp_X9_bounds_b14 Qp a1 a2 a3 mMo mRm) ∧
   (¬ a2 ≤ 0 → vp_in a1 24 ∧ ((a3 ≤ (mMo (Int32.toNatClampNeg a1)) → wp_X9_bounds_b27 Qp a1 a2 a3 mMo mRm) ∧
   (¬ a3 ≤ (mMo (Int32.toNatClampNeg a1)) → wp_X9_bounds_b14 Qp a1 a2 a3 mMo mRm))))
theorem inn_X9_bounds_9 : ∀ w ∈ u_ws RX9 TX9 32, w ∈ wsX9_bounds := fun _ h => List.mem_cons_of_mem _ (List.mem_append_right _ h)
def rm_X9_bounds : Room := { frames := 1, cells := 0, slots := 0, locals := 24 }
set_option maxHeartbeats 4000000 in
set_option maxRecDepth 100000 in
theorem ct_X9_bounds {l : Launch} {D : va_G} {cI cJ cZ cE cD cK : ClassId} {ad : Nat → Nat} {ud : Nat → Nat → Nat} {pT : Int32} {pK : Nat → Int32} {pN : Nat → Int32} {pF : Nat → Int32} {pS : Nat → Int32} {qT : Int32} {qK : Nat → Int32} {qN : Nat → Int32} {qF : Nat → Int32} {qS : Nat → Int32} {mKe : Int32} {mUn : Int32} {mFi : Int32} {mRi : Int32} {mBe : Int64} {mWc : Int32} {mAK : Int32} {mSh : Int32} {mIP : Int32} {mUS : Nat → Int32} {mWa : Nat → Int32} {mWi : Nat → Int32} {mSi : Nat → Int32} {mRo : Nat → Int64} {mSp : Nat → Int64} {mRw : Nat → Int32} {mSn : Nat → Int32} {mBg : Nat → Int32} {mLa : Nat → Int32} {mMo : Nat → Int32} {mRm : Nat → Int64} {mOw : Nat → Int64} {mGo : Nat → Int32} {mFr : Nat → Int32} {mQu : Nat → Int32} {mCh : Nat → Int64} {mPB : Nat → Int32} {mPS : Nat → Int32} {mFs : Nat → Int32} {ub : Nat → Nat} {uT : Nat → Int32} {uK : Nat → Nat → Int32} {uN : Nat → Nat → Int32} {uF : Nat → Nat → Int32} {uS : Nat → Nat → Int32}   {a1 : Int32} {a2 : Int32} {a3 : Int32} {Qp : (Nat → Int64) → Prop}   (h : wp_X9_bounds mMo mRm a1 a2 a3 Qp) : CTv l yX9_bounds wsX9_bounds rm_X9_bounds D (tyL cI cJ cZ cE cD cK) [.ref (ad 0), .int a1, .int a2, .int a3] (WM cI cJ cZ cK ad ud pT pK pN pF pS qT qK qN qF qS mKe mUn mFi mRi mBe mWc mAK mSh mIP mUS mWa mWi mSi mRo mSp mRw mSn mBg mLa mMo mRm mOw mGo mFr mQu mCh mPB mPS mFs ub uT uK uN uF uS) (fun u : (Nat → Int64) => Qp u) (fun u : (Nat → Int64) => (WM cI cJ cZ cK ad ud pT pK pN pF pS qT qK qN qF qS mKe mUn mFi mRi mBe mWc mAK mSh mIP mUS mWa mWi mSi mRo mSp mRw mSn mBg mLa mMo u mOw mGo mFr mQu mCh mPB mPS mFs ub uT uK uN uF uS)) 0 0 := by
  refine ent_v (cc := cX9_bounds) (maxL := 4) (ret := none) (by decide) rfl (Nat.le_of_ble_eq_true rfl) ?_
  intro p e s m args below meth c A Q hQ hx hb hr hml hown hts hlk hA hAB hP hD hS ls hl
  have hown : s.vm.findClass RX9 = some m.cls := hown
  have hl : lv_has ls 4 [(0, .ref (ad 0)), (1, .int a1), (2, .int a2), (3, .int a3)] := hl
  generalize hH : s.heap = H at hP ⊢
  have hS : va_S A s.heap H [] := by rw [← hH]; exact hS
  clear hH
  generalize ([] : List Loc) = locs at hS ⊢
  have B37 : ∀ (mRm_1 : Nat → Int64), wp_X9_bounds_b37 Qp a1 a2 a3 mMo mRm_1 → ∀ (H : Heap) (locs : List Loc) (ls : Array Slot), va_P D vwCl (WM cI cJ cZ cK ad ud pT pK pN pF pS qT qK qN qF qS mKe mUn mFi mRi mBe mWc mAK mSh mIP mUS mWa mWi mSi mRo mSp mRw mSn mBg mLa mMo mRm_1 mOw mGo mFr mQu mCh mPB mPS mFs ub uT uK uN uF uS) H → va_D A (WM cI cJ cZ cK ad ud pT pK pN pF pS qT qK qN qF qS mKe mUn mFi mRi mBe mWc mAK mSh mIP mUS mWa mWi mSi mRo mSp mRw mSn mBg mLa mMo mRm_1 mOw mGo mFr mQu mCh mPB mPS mFs ub uT uK uN uF uS) → va_S A s.heap H locs → lv_has ls 4 [(0, .ref (ad 0)), (1, .int a1), (2, .int a2), (3, .int a3)] → W p l e (headSpec wsX9_bounds rm_X9_bounds).room s m args below meth c H locs 0 0 Q (F0 m 37 ls []) := by
    intro mRm_1 h H locs ls hP hD hS hl
    refine lv_iload_n hx hb dX9_bounds_37 rfl (lv_at hl 2 rfl) ?_
    refine lv_if_ge (tgt := 61) hx hb dX9_bounds_38 (by decide) (fun c_2 => ?_) (fun c_2 => ?_)
    · have h := h.1 c_2
      exact rt_v (mRm_1) hQ hx hb hr hlk hP hD hS ⟨Nat.zero_le _, Nat.zero_le _⟩ dX9_bounds_61 h
    · have h := h.2 c_2
      refine lv_aload_n hx hb dX9_bounds_41 rfl (lv_at hl 0 rfl) ?_
      refine va_get (D := D) (ci := 9) (C := RX9) (T := TX9) (N := 32) hx hb hts inn_X9_bounds_9 hown hAB.1 hP 0 rfl rfl 19 (by decide) (hts (.fieldLink RX9 60 "BarnBenchModel" "moments" "[I") (by decide +kernel)) (fun _ h9 => h9) rfl dX9_bounds_42 ?_
      refine lv_iload_n hx hb dX9_bounds_45 rfl (lv_at hl 1 rfl) ?_
      refine va_iald hx hb hAB.1 hP 22 0 rfl rfl h.1 dX9_bounds_46 ?_
      have h := h.2
      refine lv_iload_n hx hb dX9_bounds_47 rfl (lv_at hl 3 rfl) ?_
      refine lv_icmp_le (tgt := 61) hx hb dX9_bounds_48 (by decide) (fun c_3 => ?_) (fun c_3 => ?_)
      · have h := h.1 c_3
        exact rt_v (mRm_1) hQ hx hb hr hlk hP hD hS ⟨Nat.zero_le _, Nat.zero_le _⟩ dX9_bounds_61 h
      · have h := h.2 c_3
        refine lv_aload_n hx hb dX9_bounds_51 rfl (lv_at hl 0 rfl) ?_
        refine lv_bipush (v := 24) hx hb dX9_bounds_52 (by decide) ?_
        refine lv_iload_n hx hb dX9_bounds_54 rfl (lv_at hl 1 rfl) ?_
        refine lv_ldc2 (v := 1125899906842624) hx hb hown (hts (.constantLong RX9 197 1125899906842624) (by decide +kernel)) dX9_bounds_55 ?_
        refine cl_v hD hS hA (va_runV (As := [.int 24, .int a1, .long 1125899906842624]) (rest := []) ⟨hx, hb, hml, hown, hts⟩ (ct_X9_edge h H.size) (cwV 3 hts gX9_bounds_X9_edge rfl rfl rfl (by decide +kernel) ⟨Nat.le_of_ble_eq_true rfl, Nat.le_of_ble_eq_true rfl⟩) ⟨CPre.blind, va_recv hAB.1 hP (ci := 9) (q0 := 0) rfl rfl, wd_pre hAB hP hD hS hA⟩ rfl rfl hl.1 rfl (lv_room (Nat.le_of_ble_eq_true rfl)) dX9_bounds_58 ⟨Nat.zero_le _, Nat.zero_le _⟩) (fun mRm_4 H locs h hP hD hS => ?_)
        have hP : va_P D vwCl (WM cI cJ cZ cK ad ud pT pK pN pF pS qT qK qN qF qS mKe mUn mFi mRi mBe mWc mAK mSh mIP mUS mWa mWi mSi mRo mSp mRw mSn mBg mLa mMo mRm_4 mOw mGo mFr mQu mCh mPB mPS mFs ub uT uK uN uF uS) H := hP
        have hD : va_D A (WM cI cJ cZ cK ad ud pT pK pN pF pS qT qK qN qF qS mKe mUn mFi mRi mBe mWc mAK mSh mIP mUS mWa mWi mSi mRo mSp mRw mSn mBg mLa mMo mRm_4 mOw mGo mFr mQu mCh mPB mPS mFs ub uT uK uN uF uS) := hD
        exact rt_v (mRm_4) hQ hx hb hr hlk hP hD hS ⟨Nat.zero_le _, Nat.zero_le _⟩ dX9_bounds_61 h
  have B27 : ∀ (mRm_5 : Nat → Int64), wp_X9_bounds_b27 Qp a1 a2 a3 mMo mRm_5 → ∀ (H : Heap) (locs : List Loc) (ls : Array Slot), va_P D vwCl (WM cI cJ cZ cK ad ud pT pK pN pF pS qT qK qN qF qS mKe mUn mFi mRi mBe mWc mAK mSh mIP mUS mWa mWi mSi mRo mSp mRw mSn mBg mLa mMo mRm_5 mOw mGo mFr mQu mCh mPB mPS mFs ub uT uK uN uF uS) H → va_D A (WM cI cJ cZ cK ad ud pT pK pN pF pS qT qK qN qF qS mKe mUn mFi mRi mBe mWc mAK mSh mIP mUS mWa mWi mSi mRo mSp mRw mSn mBg mLa mMo mRm_5 mOw mGo mFr mQu mCh mPB mPS mFs ub uT uK uN uF uS) → va_S A s.heap H locs → lv_has ls 4 [(0, .ref (ad 0)), (1, .int a1), (2, .int a2), (3, .int a3)] → W p l e (headSpec wsX9_bounds rm_X9_bounds).room s m args below meth c H locs 0 0 Q (F0 m 27 ls []) := by
    intro mRm_5 h H locs ls hP hD hS hl
    refine lv_aload_n hx hb dX9_bounds_27 rfl (lv_at hl 0 rfl) ?_
    refine lv_iload_n hx hb dX9_bounds_28 rfl (lv_at hl 1 rfl) ?_
    refine lv_bipush (v := 25) hx hb dX9_bounds_29 (by decide) ?_
    refine lv_ldc2 (v := 1125899906842624) hx hb hown (hts (.constantLong RX9 197 1125899906842624) (by decide +kernel)) dX9_bounds_31 ?_
    refine cl_v hD hS hA (va_runV (As := [.int a1, .int 25, .long 1125899906842624]) (rest := []) ⟨hx, hb, hml, hown, hts⟩ (ct_X9_edge h H.size) (cwV 3 hts gX9_bounds_X9_edge rfl rfl rfl (by decide +kernel) ⟨Nat.le_of_ble_eq_true rfl, Nat.le_of_ble_eq_true rfl⟩) ⟨CPre.blind, va_recv hAB.1 hP (ci := 9) (q0 := 0) rfl rfl, wd_pre hAB hP hD hS hA⟩ rfl rfl hl.1 rfl (lv_room (Nat.le_of_ble_eq_true rfl)) dX9_bounds_34 ⟨Nat.zero_le _, Nat.zero_le _⟩) (fun mRm_6 H locs h hP hD hS => ?_)
    have hP : va_P D vwCl (WM cI cJ cZ cK ad ud pT pK pN pF pS qT qK qN qF qS mKe mUn mFi mRi mBe mWc mAK mSh mIP mUS mWa mWi mSi mRo mSp mRw mSn mBg mLa mMo mRm_6 mOw mGo mFr mQu mCh mPB mPS mFs ub uT uK uN uF uS) H := hP
    have hD : va_D A (WM cI cJ cZ cK ad ud pT pK pN pF pS qT qK qN qF qS mKe mUn mFi mRi mBe mWc mAK mSh mIP mUS mWa mWi mSi mRo mSp mRw mSn mBg mLa mMo mRm_6 mOw mGo mFr mQu mCh mPB mPS mFs ub uT uK uN uF uS) := hD
    exact B37 mRm_6 h H locs ls hP hD hS (lv_sub hl [0, 1, 2, 3] rfl)
  have B14 : ∀ (mRm_7 : Nat → Int64), wp_X9_bounds_b14 Qp a1 a2 a3 mMo mRm_7 → ∀ (H : Heap) (locs : List Loc) (ls : Array Slot), va_P D vwCl (WM cI cJ cZ cK ad ud pT pK pN pF pS qT qK qN qF qS mKe mUn mFi mRi mBe mWc mAK mSh mIP mUS mWa mWi mSi mRo mSp mRw mSn mBg mLa mMo mRm_7 mOw mGo mFr mQu mCh mPB mPS mFs ub uT uK uN uF uS) H → va_D A (WM cI cJ cZ cK ad ud pT pK pN pF pS qT qK qN qF qS mKe mUn mFi mRi mBe mWc mAK mSh mIP mUS mWa mWi mSi mRo mSp mRw mSn mBg mLa mMo mRm_7 mOw mGo mFr mQu mCh mPB mPS mFs ub uT uK uN uF uS) → va_S A s.heap H locs → lv_has ls 4 [(0, .ref (ad 0)), (1, .int a1), (2, .int a2), (3, .int a3)] → W p l e (headSpec wsX9_bounds rm_X9_bounds).room s m args below meth c H locs 0 0 Q (F0 m 14 ls []) := by
    intro mRm_7 h H locs ls hP hD hS hl
    refine lv_iload_n hx hb dX9_bounds_14 rfl (lv_at hl 2 rfl) ?_
    refine lv_if_ge (tgt := 37) hx hb dX9_bounds_15 (by decide) (fun c_8 => ?_) (fun c_8 => ?_)
    · have h := h.1 c_8
      exact B37 mRm_7 h H locs ls hP hD hS (lv_sub hl [0, 1, 2, 3] rfl)
    · have h := h.2 c_8
      refine lv_aload_n hx hb dX9_bounds_18 rfl (lv_at hl 0 rfl) ?_
      refine va_get (D := D) (ci := 9) (C := RX9) (T := TX9) (N := 32) hx hb hts inn_X9_bounds_9 hown hAB.1 hP 0 rfl rfl 19 (by decide) (hts (.fieldLink RX9 60 "BarnBenchModel" "moments" "[I") (by decide +kernel)) (fun _ h9 => h9) rfl dX9_bounds_19 ?_
      refine lv_iload_n hx hb dX9_bounds_22 rfl (lv_at hl 1 rfl) ?_
      refine va_iald hx hb hAB.1 hP 22 0 rfl rfl h.1 dX9_bounds_23 ?_
      have h := h.2
      refine lv_if_ne (tgt := 37) hx hb dX9_bounds_24 (by decide) (fun c_9 => ?_) (fun c_9 => ?_)
      · have h := h.1 c_9
        exact B37 mRm_7 h H locs ls hP hD hS (lv_sub hl [0, 1, 2, 3] rfl)
      · have h := h.2 c_9
        exact B27 mRm_7 h H locs ls hP hD hS (lv_sub hl [0, 1, 2, 3] rfl)
  refine lv_iload_n hx hb dX9_bounds_0 rfl (lv_at hl 2 rfl) ?_
  refine lv_if_le (tgt := 14) hx hb dX9_bounds_1 (by decide) (fun c_10 => ?_) (fun c_10 => ?_)
  · have h := h.1 c_10
    exact B14 mRm h H locs ls hP hD hS (lv_sub hl [0, 1, 2, 3] rfl)
  · have h := h.2 c_10
    refine lv_aload_n hx hb dX9_bounds_4 rfl (lv_at hl 0 rfl) ?_
    refine va_get (D := D) (ci := 9) (C := RX9) (T := TX9) (N := 32) hx hb hts inn_X9_bounds_9 hown hAB.1 hP 0 rfl rfl 19 (by decide) (hts (.fieldLink RX9 60 "BarnBenchModel" "moments" "[I") (by decide +kernel)) (fun _ h9 => h9) rfl dX9_bounds_5 ?_
    refine lv_iload_n hx hb dX9_bounds_8 rfl (lv_at hl 1 rfl) ?_
    refine va_iald hx hb hAB.1 hP 22 0 rfl rfl h.1 dX9_bounds_9 ?_
    have h := h.2
    refine lv_iload_n hx hb dX9_bounds_10 rfl (lv_at hl 3 rfl) ?_
    refine lv_icmp_ge (tgt := 27) hx hb dX9_bounds_11 (by decide) (fun c_11 => ?_) (fun c_11 => ?_)
    · have h := h.1 c_11
      exact B27 mRm h H locs ls hP hD hS (lv_sub hl [0, 1, 2, 3] rfl)
    · have h := h.2 c_11
      exact B14 mRm h H locs ls hP hD hS (lv_sub hl [0, 1, 2, 3] rfl)
def wp_X9_reaches_b24 (k2 : (Int32) → (Nat → Int32) → Prop) (y_5 : Int32) (y_6 : Int32) (x1_4 : Int32) (mGo_7 : Nat → Int32) : Prop :=
  vp_in y_5 26 ∧ ∀ mGo_8 : Nat → Int32, mGo_8 = upd mGo_7 (Int32.toNatClampNeg y_5) (vp_nar .boolean y_6) → ∀ x1_10 : Int32, x1_10 = x1_4 + 1 → k2 x1_10 mGo_8
def wp_X9_reaches_L2  (x2 : (Nat → Int32) → Prop) : Nat → (Int32) → (Nat → Int32) → Prop
  | 0, _, _ => False
  | n2 + 1, x1_1, mGo_2 =>
  ((26 ≤ x1_1 → x2 mGo_2) ∧
   (¬ 26 ≤ x1_1 → ((¬ x1_1 = 24 → wp_X9_reaches_b24 (wp_X9_reaches_L2  x2 n2) x1_1 0 x1_1 mGo_2) ∧
   (x1_1 = 24 → wp_X9_reaches_b24 (wp_X9_reaches_L2  x2 n2) x1_1 1 x1_1 mGo_2))))
def wp_X9_reaches_b122 (k58 : (Int32) → (Int32) → (Nat → Int32) → (Nat → Int32) → (Nat → Int32) → Prop) (x1_36 : Int32) (x4_37 : Int32) (mGo_38 : Nat → Int32) (mFr_39 : Nat → Int32) (mQu_40 : Nat → Int32) : Prop :=
  ∀ x4_41 : Int32, x4_41 = x4_37 + 1 → k58 x1_36 x4_41 mGo_38 mFr_39 mQu_40
def wp_X9_reaches_L58 (mRm : Nat → Int64) (x3_25 : Int32) (x58 : (Int32) → (Nat → Int32) → (Nat → Int32) → (Nat → Int32) → Prop) : Nat → (Int32) → (Int32) → (Nat → Int32) → (Nat → Int32) → (Nat → Int32) → Prop
  | 0, _, _, _, _, _ => False
  | n58 + 1, x1_27, x4_28, mGo_29, mFr_30, mQu_31 =>
  ((26 ≤ x4_28 → x58 x1_27 mGo_29 mFr_30 mQu_31) ∧
   (¬ 26 ≤ x4_28 → vp_in x4_28 26 ∧ ((¬ (mGo_29 (Int32.toNatClampNeg x4_28)) = 0 → wp_X9_reaches_b122 (wp_X9_reaches_L58 mRm x3_25 x58 n58) x1_27 x4_28 mGo_29 mFr_30 mQu_31) ∧
   ((mGo_29 (Int32.toNatClampNeg x4_28)) = 0 → vp_in ((26 * x3_25) + x4_28) 676 ∧ ((¬ (lg_cmp (mRm (Int32.toNatClampNeg ((26 * x3_25) + x4_28))) 0) = 0 → vp_in x4_28 26 ∧ ∀ mGo_46 : Nat → Int32, mGo_46 = upd mGo_29 (Int32.toNatClampNeg x4_28) (vp_nar .boolean 1) → vp_in x4_28 26 ∧ ∀ mFr_48 : Nat → Int32, mFr_48 = upd mFr_30 (Int32.toNatClampNeg x4_28) x3_25 → vp_in x1_27 26 ∧ ∀ mQu_50 : Nat → Int32, mQu_50 = upd mQu_31 (Int32.toNatClampNeg x1_27) x4_28 → ∀ x1_52 : Int32, x1_52 = x1_27 + 1 → wp_X9_reaches_b122 (wp_X9_reaches_L58 mRm x3_25 x58 n58) x1_52 x4_28 mGo_46 mFr_48 mQu_50) ∧
   ((lg_cmp (mRm (Int32.toNatClampNeg ((26 * x3_25) + x4_28))) 0) = 0 → wp_X9_reaches_b122 (wp_X9_reaches_L58 mRm x3_25 x58 n58) x1_27 x4_28 mGo_29 mFr_30 mQu_31))))))
def wp_X9_reaches_L43 (mRm : Nat → Int64) (x43 : (Nat → Int32) → (Nat → Int32) → (Nat → Int32) → Prop) : Nat → (Int32) → (Int32) → (Nat → Int32) → (Nat → Int32) → (Nat → Int32) → Prop
  | 0, _, _, _, _, _ => False
  | n43 + 1, x1_16, x2_17, mGo_18, mFr_19, mQu_20 =>
  ((x1_16 ≤ x2_17 → x43 mGo_18 mFr_19 mQu_20) ∧
   (¬ x1_16 ≤ x2_17 → vp_in x2_17 26 ∧ ∀ x3_25 : Int32, x3_25 = (mQu_20 (Int32.toNatClampNeg x2_17)) → (∃ n58 : Nat, wp_X9_reaches_L58 mRm x3_25 (fun (x1_32 : Int32) (mGo_33 : Nat → Int32) (mFr_34 : Nat → Int32) (mQu_35 : Nat → Int32) => ∀ x2_54 : Int32, x2_54 = x2_17 + 1 → (wp_X9_reaches_L43 mRm x43 n43) x1_32 x2_54 mGo_33 mFr_34 mQu_35) n58 x1_16 0 mGo_18 mFr_19 mQu_20)))
def wp_X9_reaches (mRm : Nat → Int64) (mGo : Nat → Int32) (mFr : Nat → Int32) (mQu : Nat → Int32)  (Qp : Int32 → (Nat → Int32) → (Nat → Int32) → (Nat → Int32) → Prop) : Prop :=
  (∃ n2 : Nat, wp_X9_reaches_L2 (fun (mGo_3 : Nat → Int32) => vp_in 0 26 ∧ ∀ mQu_14 : Nat → Int32, mQu_14 = upd mQu (Int32.toNatClampNeg 0) 24 → (∃ n43 : Nat, wp_X9_reaches_L43 mRm (fun (mGo_21 : Nat → Int32) (mFr_22 : Nat → Int32) (mQu_23 : Nat → Int32) => vp_in 25 26 ∧ ((mGo_21 (Int32.toNatClampNeg 25)) = 0 ∨ (mGo_21 (Int32.toNatClampNeg 25)) = 1) ∧ Qp (mGo_21 (Int32.toNatClampNeg 25)) mGo_21 mFr_22 mQu_23) n43 1 0 mGo_3 mFr mQu_14)) n2 0 mGo)
theorem inn_X9_reaches_9 : ∀ w ∈ u_ws RX9 TX9 32, w ∈ wsX9_reaches := fun _ h => List.mem_cons_of_mem _ (List.mem_append_right _ h)
def rm_X9_reaches : Room := { frames := 0, cells := 0, slots := 0, locals := 0 }
set_option maxHeartbeats 4000000 in
set_option maxRecDepth 100000 in
theorem ct_X9_reaches {l : Launch} {D : va_G} {cI cJ cZ cE cD cK : ClassId} {ad : Nat → Nat} {ud : Nat → Nat → Nat} {pT : Int32} {pK : Nat → Int32} {pN : Nat → Int32} {pF : Nat → Int32} {pS : Nat → Int32} {qT : Int32} {qK : Nat → Int32} {qN : Nat → Int32} {qF : Nat → Int32} {qS : Nat → Int32} {mKe : Int32} {mUn : Int32} {mFi : Int32} {mRi : Int32} {mBe : Int64} {mWc : Int32} {mAK : Int32} {mSh : Int32} {mIP : Int32} {mUS : Nat → Int32} {mWa : Nat → Int32} {mWi : Nat → Int32} {mSi : Nat → Int32} {mRo : Nat → Int64} {mSp : Nat → Int64} {mRw : Nat → Int32} {mSn : Nat → Int32} {mBg : Nat → Int32} {mLa : Nat → Int32} {mMo : Nat → Int32} {mRm : Nat → Int64} {mOw : Nat → Int64} {mGo : Nat → Int32} {mFr : Nat → Int32} {mQu : Nat → Int32} {mCh : Nat → Int64} {mPB : Nat → Int32} {mPS : Nat → Int32} {mFs : Nat → Int32} {ub : Nat → Nat} {uT : Nat → Int32} {uK : Nat → Nat → Int32} {uN : Nat → Nat → Int32} {uF : Nat → Nat → Int32} {uS : Nat → Nat → Int32}    {Qp : Int32 → (Nat → Int32) → (Nat → Int32) → (Nat → Int32) → Prop}   (h : wp_X9_reaches mRm mGo mFr mQu Qp) : CTi l yX9_reaches wsX9_reaches rm_X9_reaches D (tyL cI cJ cZ cE cD cK) [.ref (ad 0)] (WM cI cJ cZ cK ad ud pT pK pN pF pS qT qK qN qF qS mKe mUn mFi mRi mBe mWc mAK mSh mIP mUS mWa mWi mSi mRo mSp mRw mSn mBg mLa mMo mRm mOw mGo mFr mQu mCh mPB mPS mFs ub uT uK uN uF uS) (fun (r : Int32) (u : (Nat → Int32) × (Nat → Int32) × (Nat → Int32)) => Qp r u.1 u.2.1 u.2.2) (fun u : (Nat → Int32) × (Nat → Int32) × (Nat → Int32) => (WM cI cJ cZ cK ad ud pT pK pN pF pS qT qK qN qF qS mKe mUn mFi mRi mBe mWc mAK mSh mIP mUS mWa mWi mSi mRo mSp mRw mSn mBg mLa mMo mRm mOw u.1 u.2.1 u.2.2 mCh mPB mPS mFs ub uT uK uN uF uS)) 0 0 := by
  refine ent_i (cc := cX9_reaches) (maxL := 5) (ret := (some .boolean)) (by decide) rfl (Nat.le_of_ble_eq_true rfl) ?_
  intro p e s m args below meth c A Q hQ hx hb hr hml hown hts hlk hA hAB hP hD hS ls hl
  have hown : s.vm.findClass RX9 = some m.cls := hown
  have hl : lv_has ls 5 [(0, .ref (ad 0))] := hl
  generalize hH : s.heap = H at hP ⊢
  have hS : va_S A s.heap H [] := by rw [← hH]; exact hS
  clear hH
  generalize ([] : List Loc) = locs at hS ⊢
  refine lv_iconst (v := 0) hx hb dX9_reaches_0 (by decide) ?_
  refine lv_istore_n (lv' := [(1, .int 0), (0, .ref (ad 0))]) hx hb dX9_reaches_1 rfl hl (by decide) rfl (fun ls hl => ?_)
  have L2 : ∀ (x2 : (Nat → Int32) → Prop) (hk2 : ∀ (mGo_3 : Nat → Int32), x2 mGo_3 → ∀ (H : Heap) (locs : List Loc) (ls : Array Slot), va_P D vwCl (WM cI cJ cZ cK ad ud pT pK pN pF pS qT qK qN qF qS mKe mUn mFi mRi mBe mWc mAK mSh mIP mUS mWa mWi mSi mRo mSp mRw mSn mBg mLa mMo mRm mOw mGo_3 mFr mQu mCh mPB mPS mFs ub uT uK uN uF uS) H → va_D A (WM cI cJ cZ cK ad ud pT pK pN pF pS qT qK qN qF qS mKe mUn mFi mRi mBe mWc mAK mSh mIP mUS mWa mWi mSi mRo mSp mRw mSn mBg mLa mMo mRm mOw mGo_3 mFr mQu mCh mPB mPS mFs ub uT uK uN uF uS) → va_S A s.heap H locs → lv_has ls 5 [(0, .ref (ad 0))] → W p l e (headSpec wsX9_reaches rm_X9_reaches).room s m args below meth c H locs 0 0 Q (F0 m 31 ls [])) (n2 : Nat) (x1_1 : Int32) (mGo_2 : Nat → Int32), wp_X9_reaches_L2  x2 n2 x1_1 mGo_2 → ∀ (H : Heap) (locs : List Loc) (ls : Array Slot), va_P D vwCl (WM cI cJ cZ cK ad ud pT pK pN pF pS qT qK qN qF qS mKe mUn mFi mRi mBe mWc mAK mSh mIP mUS mWa mWi mSi mRo mSp mRw mSn mBg mLa mMo mRm mOw mGo_2 mFr mQu mCh mPB mPS mFs ub uT uK uN uF uS) H → va_D A (WM cI cJ cZ cK ad ud pT pK pN pF pS qT qK qN qF qS mKe mUn mFi mRi mBe mWc mAK mSh mIP mUS mWa mWi mSi mRo mSp mRw mSn mBg mLa mMo mRm mOw mGo_2 mFr mQu mCh mPB mPS mFs ub uT uK uN uF uS) → va_S A s.heap H locs → lv_has ls 5 [(0, .ref (ad 0)), (1, .int x1_1)] → W p l e (headSpec wsX9_reaches rm_X9_reaches).room s m args below meth c H locs 0 0 Q (F0 m 2 ls []) := by
    intro x2 hk2 n2
    induction n2 with
    | zero => intro x1_1 mGo_2 h; exact False.elim h
    | succ n2 ih2 =>
      intro x1_1 mGo_2 h H locs ls hP hD hS hl
      have B24 : ∀ (y_5 : Int32) (y_6 : Int32) (x1_4 : Int32) (mGo_7 : Nat → Int32), wp_X9_reaches_b24 (wp_X9_reaches_L2  x2 n2) y_5 y_6 x1_4 mGo_7 → ∀ (H : Heap) (locs : List Loc) (ls : Array Slot), va_P D vwCl (WM cI cJ cZ cK ad ud pT pK pN pF pS qT qK qN qF qS mKe mUn mFi mRi mBe mWc mAK mSh mIP mUS mWa mWi mSi mRo mSp mRw mSn mBg mLa mMo mRm mOw mGo_7 mFr mQu mCh mPB mPS mFs ub uT uK uN uF uS) H → va_D A (WM cI cJ cZ cK ad ud pT pK pN pF pS qT qK qN qF qS mKe mUn mFi mRi mBe mWc mAK mSh mIP mUS mWa mWi mSi mRo mSp mRw mSn mBg mLa mMo mRm mOw mGo_7 mFr mQu mCh mPB mPS mFs ub uT uK uN uF uS) → va_S A s.heap H locs → lv_has ls 5 [(0, .ref (ad 0)), (1, .int x1_4)] → W p l e (headSpec wsX9_reaches rm_X9_reaches).room s m args below meth c H locs 0 0 Q (F0 m 24 ls [.int y_6, .int y_5, .ref (ad 25)]) := by
        intro y_5 y_6 x1_4 mGo_7 h H locs ls hP hD hS hl
        refine sM_25 hx hb hAB hP hD hS h.1 dX9_reaches_24 (fun mGo_8 H locs e_9 hP hD hS => ?_)
        have h := h.2
        have h := h mGo_8 e_9
        obtain ⟨x1_10, e_11⟩ : ∃ y : Int32, y = x1_4 + 1 := ⟨_, rfl⟩
        have h := h x1_10 e_11
        refine lv_iinc (v := x1_10) (lv' := [(1, .int x1_10), (0, .ref (ad 0))]) hx hb dX9_reaches_25 hl (k := 1) rfl (by rw [e_11]; rfl) (by decide) rfl (fun ls hl => ?_)
        refine lv_goto (tgt := 2) hx hb dX9_reaches_28 (by decide) ?_
        exact ih2 x1_10 mGo_8 h H locs ls hP hD hS (lv_sub hl [1, 0] rfl)
      refine lv_iload_n hx hb dX9_reaches_2 rfl (lv_at hl 1 rfl) ?_
      refine lv_bipush (v := 26) hx hb dX9_reaches_3 (by decide) ?_
      refine lv_icmp_ge (tgt := 31) hx hb dX9_reaches_5 (by decide) (fun c_12 => ?_) (fun c_12 => ?_)
      · have h := h.1 c_12
        exact hk2 mGo_2 h H locs ls hP hD hS (lv_sub hl [0] rfl)
      · have h := h.2 c_12
        refine lv_aload_n hx hb dX9_reaches_8 rfl (lv_at hl 0 rfl) ?_
        refine va_get (D := D) (ci := 9) (C := RX9) (T := TX9) (N := 32) hx hb hts inn_X9_reaches_9 hown hAB.1 hP 0 rfl rfl 22 (by decide) (hts (.fieldLink RX9 69 "BarnBenchModel" "goes" "[Z") (by decide +kernel)) (fun _ h9 => h9) rfl dX9_reaches_9 ?_
        refine lv_iload_n hx hb dX9_reaches_12 rfl (lv_at hl 1 rfl) ?_
        refine lv_iload_n hx hb dX9_reaches_13 rfl (lv_at hl 1 rfl) ?_
        refine lv_bipush (v := 24) hx hb dX9_reaches_14 (by decide) ?_
        refine lv_icmp_ne (tgt := 23) hx hb dX9_reaches_16 (by decide) (fun c_13 => ?_) (fun c_13 => ?_)
        · have h := h.1 c_13
          refine lv_iconst (v := 0) hx hb dX9_reaches_23 (by decide) ?_
          exact B24 x1_1 0 x1_1 mGo_2 h H locs ls hP hD hS (lv_sub hl [0, 1] rfl)
        · have h := h.2 c_13
          refine lv_iconst (v := 1) hx hb dX9_reaches_19 (by decide) ?_
          refine lv_goto (tgt := 24) hx hb dX9_reaches_20 (by decide) ?_
          exact B24 x1_1 1 x1_1 mGo_2 h H locs ls hP hD hS (lv_sub hl [0, 1] rfl)
  obtain ⟨n2, h⟩ := h
  refine L2 _ (fun mGo_3 h H locs ls hP hD hS hl => ?_) n2 0 mGo h H locs ls hP hD hS (lv_sub hl [1, 0] rfl)
  refine lv_iconst (v := 1) hx hb dX9_reaches_31 (by decide) ?_
  refine lv_istore_n (lv' := [(1, .int 1), (0, .ref (ad 0))]) hx hb dX9_reaches_32 rfl hl (by decide) rfl (fun ls hl => ?_)
  refine lv_aload_n hx hb dX9_reaches_33 rfl (lv_at hl 1 rfl) ?_
  refine va_get (D := D) (ci := 9) (C := RX9) (T := TX9) (N := 32) hx hb hts inn_X9_reaches_9 hown hAB.1 hP 0 rfl rfl 24 (by decide) (hts (.fieldLink RX9 75 "BarnBenchModel" "queue" "[I") (by decide +kernel)) (fun _ h9 => h9) rfl dX9_reaches_34 ?_
  refine lv_iconst (v := 0) hx hb dX9_reaches_37 (by decide) ?_
  refine lv_bipush (v := 24) hx hb dX9_reaches_38 (by decide) ?_
  refine sM_27 hx hb hAB hP hD hS h.1 dX9_reaches_40 (fun mQu_14 H locs e_15 hP hD hS => ?_)
  have h := h.2
  have h := h mQu_14 e_15
  refine lv_iconst (v := 0) hx hb dX9_reaches_41 (by decide) ?_
  refine lv_istore_n (lv' := [(2, .int 0), (1, .int 1), (0, .ref (ad 0))]) hx hb dX9_reaches_42 rfl hl (by decide) rfl (fun ls hl => ?_)
  have L43 : ∀ (x43 : (Nat → Int32) → (Nat → Int32) → (Nat → Int32) → Prop) (hk43 : ∀ (mGo_21 : Nat → Int32) (mFr_22 : Nat → Int32) (mQu_23 : Nat → Int32), x43 mGo_21 mFr_22 mQu_23 → ∀ (H : Heap) (locs : List Loc) (ls : Array Slot), va_P D vwCl (WM cI cJ cZ cK ad ud pT pK pN pF pS qT qK qN qF qS mKe mUn mFi mRi mBe mWc mAK mSh mIP mUS mWa mWi mSi mRo mSp mRw mSn mBg mLa mMo mRm mOw mGo_21 mFr_22 mQu_23 mCh mPB mPS mFs ub uT uK uN uF uS) H → va_D A (WM cI cJ cZ cK ad ud pT pK pN pF pS qT qK qN qF qS mKe mUn mFi mRi mBe mWc mAK mSh mIP mUS mWa mWi mSi mRo mSp mRw mSn mBg mLa mMo mRm mOw mGo_21 mFr_22 mQu_23 mCh mPB mPS mFs ub uT uK uN uF uS) → va_S A s.heap H locs → lv_has ls 5 [(0, .ref (ad 0))] → W p l e (headSpec wsX9_reaches rm_X9_reaches).room s m args below meth c H locs 0 0 Q (F0 m 134 ls [])) (n43 : Nat) (x1_16 : Int32) (x2_17 : Int32) (mGo_18 : Nat → Int32) (mFr_19 : Nat → Int32) (mQu_20 : Nat → Int32), wp_X9_reaches_L43 mRm x43 n43 x1_16 x2_17 mGo_18 mFr_19 mQu_20 → ∀ (H : Heap) (locs : List Loc) (ls : Array Slot), va_P D vwCl (WM cI cJ cZ cK ad ud pT pK pN pF pS qT qK qN qF qS mKe mUn mFi mRi mBe mWc mAK mSh mIP mUS mWa mWi mSi mRo mSp mRw mSn mBg mLa mMo mRm mOw mGo_18 mFr_19 mQu_20 mCh mPB mPS mFs ub uT uK uN uF uS) H → va_D A (WM cI cJ cZ cK ad ud pT pK pN pF pS qT qK qN qF qS mKe mUn mFi mRi mBe mWc mAK mSh mIP mUS mWa mWi mSi mRo mSp mRw mSn mBg mLa mMo mRm mOw mGo_18 mFr_19 mQu_20 mCh mPB mPS mFs ub uT uK uN uF uS) → va_S A s.heap H locs → lv_has ls 5 [(0, .ref (ad 0)), (1, .int x1_16), (2, .int x2_17)] → W p l e (headSpec wsX9_reaches rm_X9_reaches).room s m args below meth c H locs 0 0 Q (F0 m 43 ls []) := by
    intro x43 hk43 n43
    induction n43 with
    | zero => intro x1_16 x2_17 mGo_18 mFr_19 mQu_20 h; exact False.elim h
    | succ n43 ih43 =>
      intro x1_16 x2_17 mGo_18 mFr_19 mQu_20 h H locs ls hP hD hS hl
      refine lv_iload_n hx hb dX9_reaches_43 rfl (lv_at hl 2 rfl) ?_
      refine lv_iload_n hx hb dX9_reaches_44 rfl (lv_at hl 1 rfl) ?_
      refine lv_icmp_ge (tgt := 134) hx hb dX9_reaches_45 (by decide) (fun c_24 => ?_) (fun c_24 => ?_)
      · have h := h.1 c_24
        exact hk43 mGo_18 mFr_19 mQu_20 h H locs ls hP hD hS (lv_sub hl [0] rfl)
      · have h := h.2 c_24
        refine lv_aload_n hx hb dX9_reaches_48 rfl (lv_at hl 0 rfl) ?_
        refine va_get (D := D) (ci := 9) (C := RX9) (T := TX9) (N := 32) hx hb hts inn_X9_reaches_9 hown hAB.1 hP 0 rfl rfl 24 (by decide) (hts (.fieldLink RX9 75 "BarnBenchModel" "queue" "[I") (by decide +kernel)) (fun _ h9 => h9) rfl dX9_reaches_49 ?_
        refine lv_iload_n hx hb dX9_reaches_52 rfl (lv_at hl 2 rfl) ?_
        refine va_iald hx hb hAB.1 hP 27 0 rfl rfl h.1 dX9_reaches_53 ?_
        have h := h.2
        refine lv_topi (fun x3_25 e_26 => ?_)
        have h := h x3_25 e_26
        refine lv_istore_n (lv' := [(3, .int x3_25), (0, .ref (ad 0)), (1, .int x1_16), (2, .int x2_17)]) hx hb dX9_reaches_54 rfl hl (by decide) rfl (fun ls hl => ?_)
        refine lv_iconst (v := 0) hx hb dX9_reaches_55 (by decide) ?_
        refine lv_istore (lv' := [(4, .int 0), (3, .int x3_25), (0, .ref (ad 0)), (1, .int x1_16), (2, .int x2_17)]) hx hb dX9_reaches_56 hl (by decide) rfl (fun ls hl => ?_)
        have L58 : ∀ (x58 : (Int32) → (Nat → Int32) → (Nat → Int32) → (Nat → Int32) → Prop) (hk58 : ∀ (x1_32 : Int32) (mGo_33 : Nat → Int32) (mFr_34 : Nat → Int32) (mQu_35 : Nat → Int32), x58 x1_32 mGo_33 mFr_34 mQu_35 → ∀ (H : Heap) (locs : List Loc) (ls : Array Slot), va_P D vwCl (WM cI cJ cZ cK ad ud pT pK pN pF pS qT qK qN qF qS mKe mUn mFi mRi mBe mWc mAK mSh mIP mUS mWa mWi mSi mRo mSp mRw mSn mBg mLa mMo mRm mOw mGo_33 mFr_34 mQu_35 mCh mPB mPS mFs ub uT uK uN uF uS) H → va_D A (WM cI cJ cZ cK ad ud pT pK pN pF pS qT qK qN qF qS mKe mUn mFi mRi mBe mWc mAK mSh mIP mUS mWa mWi mSi mRo mSp mRw mSn mBg mLa mMo mRm mOw mGo_33 mFr_34 mQu_35 mCh mPB mPS mFs ub uT uK uN uF uS) → va_S A s.heap H locs → lv_has ls 5 [(0, .ref (ad 0)), (1, .int x1_32), (2, .int x2_17)] → W p l e (headSpec wsX9_reaches rm_X9_reaches).room s m args below meth c H locs 0 0 Q (F0 m 128 ls [])) (n58 : Nat) (x1_27 : Int32) (x4_28 : Int32) (mGo_29 : Nat → Int32) (mFr_30 : Nat → Int32) (mQu_31 : Nat → Int32), wp_X9_reaches_L58 mRm x3_25 x58 n58 x1_27 x4_28 mGo_29 mFr_30 mQu_31 → ∀ (H : Heap) (locs : List Loc) (ls : Array Slot), va_P D vwCl (WM cI cJ cZ cK ad ud pT pK pN pF pS qT qK qN qF qS mKe mUn mFi mRi mBe mWc mAK mSh mIP mUS mWa mWi mSi mRo mSp mRw mSn mBg mLa mMo mRm mOw mGo_29 mFr_30 mQu_31 mCh mPB mPS mFs ub uT uK uN uF uS) H → va_D A (WM cI cJ cZ cK ad ud pT pK pN pF pS qT qK qN qF qS mKe mUn mFi mRi mBe mWc mAK mSh mIP mUS mWa mWi mSi mRo mSp mRw mSn mBg mLa mMo mRm mOw mGo_29 mFr_30 mQu_31 mCh mPB mPS mFs ub uT uK uN uF uS) → va_S A s.heap H locs → lv_has ls 5 [(0, .ref (ad 0)), (1, .int x1_27), (2, .int x2_17), (3, .int x3_25), (4, .int x4_28)] → W p l e (headSpec wsX9_reaches rm_X9_reaches).room s m args below meth c H locs 0 0 Q (F0 m 58 ls []) := by
          intro x58 hk58 n58
          induction n58 with
          | zero => intro x1_27 x4_28 mGo_29 mFr_30 mQu_31 h; exact False.elim h
          | succ n58 ih58 =>
            intro x1_27 x4_28 mGo_29 mFr_30 mQu_31 h H locs ls hP hD hS hl
            have B122 : ∀ (x1_36 : Int32) (x4_37 : Int32) (mGo_38 : Nat → Int32) (mFr_39 : Nat → Int32) (mQu_40 : Nat → Int32), wp_X9_reaches_b122 (wp_X9_reaches_L58 mRm x3_25 x58 n58) x1_36 x4_37 mGo_38 mFr_39 mQu_40 → ∀ (H : Heap) (locs : List Loc) (ls : Array Slot), va_P D vwCl (WM cI cJ cZ cK ad ud pT pK pN pF pS qT qK qN qF qS mKe mUn mFi mRi mBe mWc mAK mSh mIP mUS mWa mWi mSi mRo mSp mRw mSn mBg mLa mMo mRm mOw mGo_38 mFr_39 mQu_40 mCh mPB mPS mFs ub uT uK uN uF uS) H → va_D A (WM cI cJ cZ cK ad ud pT pK pN pF pS qT qK qN qF qS mKe mUn mFi mRi mBe mWc mAK mSh mIP mUS mWa mWi mSi mRo mSp mRw mSn mBg mLa mMo mRm mOw mGo_38 mFr_39 mQu_40 mCh mPB mPS mFs ub uT uK uN uF uS) → va_S A s.heap H locs → lv_has ls 5 [(0, .ref (ad 0)), (1, .int x1_36), (2, .int x2_17), (3, .int x3_25), (4, .int x4_37)] → W p l e (headSpec wsX9_reaches rm_X9_reaches).room s m args below meth c H locs 0 0 Q (F0 m 122 ls []) := by
              intro x1_36 x4_37 mGo_38 mFr_39 mQu_40 h H locs ls hP hD hS hl
              obtain ⟨x4_41, e_42⟩ : ∃ y : Int32, y = x4_37 + 1 := ⟨_, rfl⟩
              have h := h x4_41 e_42
              refine lv_iinc (v := x4_41) (lv' := [(4, .int x4_41), (0, .ref (ad 0)), (1, .int x1_36), (2, .int x2_17), (3, .int x3_25)]) hx hb dX9_reaches_122 hl (k := 4) rfl (by rw [e_42]; rfl) (by decide) rfl (fun ls hl => ?_)
              refine lv_goto (tgt := 58) hx hb dX9_reaches_125 (by decide) ?_
              exact ih58 x1_36 x4_41 mGo_38 mFr_39 mQu_40 h H locs ls hP hD hS (lv_sub hl [1, 2, 3, 4, 0] rfl)
            refine lv_iload hx hb dX9_reaches_58 (lv_at hl 4 rfl) ?_
            refine lv_bipush (v := 26) hx hb dX9_reaches_60 (by decide) ?_
            refine lv_icmp_ge (tgt := 128) hx hb dX9_reaches_62 (by decide) (fun c_43 => ?_) (fun c_43 => ?_)
            · have h := h.1 c_43
              exact hk58 x1_27 mGo_29 mFr_30 mQu_31 h H locs ls hP hD hS (lv_sub hl [0, 1, 2] rfl)
            · have h := h.2 c_43
              refine lv_aload_n hx hb dX9_reaches_65 rfl (lv_at hl 0 rfl) ?_
              refine va_get (D := D) (ci := 9) (C := RX9) (T := TX9) (N := 32) hx hb hts inn_X9_reaches_9 hown hAB.1 hP 0 rfl rfl 22 (by decide) (hts (.fieldLink RX9 69 "BarnBenchModel" "goes" "[Z") (by decide +kernel)) (fun _ h9 => h9) rfl dX9_reaches_66 ?_
              refine lv_iload hx hb dX9_reaches_69 (lv_at hl 4 rfl) ?_
              refine va_zald hx hb hAB.1 hP 25 2 rfl rfl h.1 dX9_reaches_71 ?_
              have h := h.2
              refine lv_if_ne (tgt := 122) hx hb dX9_reaches_72 (by decide) (fun c_44 => ?_) (fun c_44 => ?_)
              · have h := h.1 c_44
                exact B122 x1_27 x4_28 mGo_29 mFr_30 mQu_31 h H locs ls hP hD hS (lv_sub hl [0, 1, 2, 3, 4] rfl)
              · have h := h.2 c_44
                refine lv_aload_n hx hb dX9_reaches_75 rfl (lv_at hl 0 rfl) ?_
                refine va_get (D := D) (ci := 9) (C := RX9) (T := TX9) (N := 32) hx hb hts inn_X9_reaches_9 hown hAB.1 hP 0 rfl rfl 20 (by decide) (hts (.fieldLink RX9 63 "BarnBenchModel" "room" "[J") (by decide +kernel)) (fun _ h9 => h9) rfl dX9_reaches_76 ?_
                refine lv_bipush (v := 26) hx hb dX9_reaches_79 (by decide) ?_
                refine lv_iload_n hx hb dX9_reaches_81 rfl (lv_at hl 3 rfl) ?_
                refine lv_imul hx hb dX9_reaches_82 ?_
                refine lv_iload hx hb dX9_reaches_83 (lv_at hl 4 rfl) ?_
                refine lv_iadd hx hb dX9_reaches_85 ?_
                refine va_lald hx hb hAB.1 hP 23 1 rfl rfl h.1 dX9_reaches_86 ?_
                have h := h.2
                refine lv_lconst (v := 0) hx hb dX9_reaches_87 (by decide) ?_
                refine W.lcmp hx hb dX9_reaches_88 ?_
                refine lv_if_ne (tgt := 95) hx hb dX9_reaches_89 (by decide) (fun c_45 => ?_) (fun c_45 => ?_)
                · have h := h.1 c_45
                  refine lv_aload_n hx hb dX9_reaches_95 rfl (lv_at hl 0 rfl) ?_
                  refine va_get (D := D) (ci := 9) (C := RX9) (T := TX9) (N := 32) hx hb hts inn_X9_reaches_9 hown hAB.1 hP 0 rfl rfl 22 (by decide) (hts (.fieldLink RX9 69 "BarnBenchModel" "goes" "[Z") (by decide +kernel)) (fun _ h9 => h9) rfl dX9_reaches_96 ?_
                  refine lv_iload hx hb dX9_reaches_99 (lv_at hl 4 rfl) ?_
                  refine lv_iconst (v := 1) hx hb dX9_reaches_101 (by decide) ?_
                  refine sM_25 hx hb hAB hP hD hS h.1 dX9_reaches_102 (fun mGo_46 H locs e_47 hP hD hS => ?_)
                  have h := h.2
                  have h := h mGo_46 e_47
                  refine lv_aload_n hx hb dX9_reaches_103 rfl (lv_at hl 0 rfl) ?_
                  refine va_get (D := D) (ci := 9) (C := RX9) (T := TX9) (N := 32) hx hb hts inn_X9_reaches_9 hown hAB.1 hP 0 rfl rfl 23 (by decide) (hts (.fieldLink RX9 72 "BarnBenchModel" "from" "[I") (by decide +kernel)) (fun _ h9 => h9) rfl dX9_reaches_104 ?_
                  refine lv_iload hx hb dX9_reaches_107 (lv_at hl 4 rfl) ?_
                  refine lv_iload_n hx hb dX9_reaches_109 rfl (lv_at hl 3 rfl) ?_
                  refine sM_26 hx hb hAB hP hD hS h.1 dX9_reaches_110 (fun mFr_48 H locs e_49 hP hD hS => ?_)
                  have h := h.2
                  have h := h mFr_48 e_49
                  refine lv_aload_n hx hb dX9_reaches_111 rfl (lv_at hl 0 rfl) ?_
                  refine va_get (D := D) (ci := 9) (C := RX9) (T := TX9) (N := 32) hx hb hts inn_X9_reaches_9 hown hAB.1 hP 0 rfl rfl 24 (by decide) (hts (.fieldLink RX9 75 "BarnBenchModel" "queue" "[I") (by decide +kernel)) (fun _ h9 => h9) rfl dX9_reaches_112 ?_
                  refine lv_iload_n hx hb dX9_reaches_115 rfl (lv_at hl 1 rfl) ?_
                  refine lv_iload hx hb dX9_reaches_116 (lv_at hl 4 rfl) ?_
                  refine sM_27 hx hb hAB hP hD hS h.1 dX9_reaches_118 (fun mQu_50 H locs e_51 hP hD hS => ?_)
                  have h := h.2
                  have h := h mQu_50 e_51
                  obtain ⟨x1_52, e_53⟩ : ∃ y : Int32, y = x1_27 + 1 := ⟨_, rfl⟩
                  have h := h x1_52 e_53
                  refine lv_iinc (v := x1_52) (lv' := [(1, .int x1_52), (0, .ref (ad 0)), (2, .int x2_17), (3, .int x3_25), (4, .int x4_28)]) hx hb dX9_reaches_119 hl (k := 1) rfl (by rw [e_53]; rfl) (by decide) rfl (fun ls hl => ?_)
                  exact B122 x1_52 x4_28 mGo_46 mFr_48 mQu_50 h H locs ls hP hD hS (lv_sub hl [1, 0, 2, 3, 4] rfl)
                · have h := h.2 c_45
                  refine lv_goto (tgt := 122) hx hb dX9_reaches_92 (by decide) ?_
                  exact B122 x1_27 x4_28 mGo_29 mFr_30 mQu_31 h H locs ls hP hD hS (lv_sub hl [0, 1, 2, 3, 4] rfl)
        obtain ⟨n58, h⟩ := h
        refine L58 _ (fun x1_32 mGo_33 mFr_34 mQu_35 h H locs ls hP hD hS hl => ?_) n58 x1_16 0 mGo_18 mFr_19 mQu_20 h H locs ls hP hD hS (lv_sub hl [2, 3, 4, 1, 0] rfl)
        obtain ⟨x2_54, e_55⟩ : ∃ y : Int32, y = x2_17 + 1 := ⟨_, rfl⟩
        have h := h x2_54 e_55
        refine lv_iinc (v := x2_54) (lv' := [(2, .int x2_54), (0, .ref (ad 0)), (1, .int x1_32)]) hx hb dX9_reaches_128 hl (k := 2) rfl (by rw [e_55]; rfl) (by decide) rfl (fun ls hl => ?_)
        refine lv_goto (tgt := 43) hx hb dX9_reaches_131 (by decide) ?_
        exact ih43 x1_32 x2_54 mGo_33 mFr_34 mQu_35 h H locs ls hP hD hS (lv_sub hl [1, 2, 0] rfl)
  obtain ⟨n43, h⟩ := h
  refine L43 _ (fun mGo_21 mFr_22 mQu_23 h H locs ls hP hD hS hl => ?_) n43 1 0 mGo_3 mFr mQu_14 h H locs ls hP hD hS (lv_sub hl [2, 1, 0] rfl)
  refine lv_aload_n hx hb dX9_reaches_134 rfl (lv_at hl 0 rfl) ?_
  refine va_get (D := D) (ci := 9) (C := RX9) (T := TX9) (N := 32) hx hb hts inn_X9_reaches_9 hown hAB.1 hP 0 rfl rfl 22 (by decide) (hts (.fieldLink RX9 69 "BarnBenchModel" "goes" "[Z") (by decide +kernel)) (fun _ h9 => h9) rfl dX9_reaches_135 ?_
  refine lv_bipush (v := 25) hx hb dX9_reaches_138 (by decide) ?_
  refine va_zald hx hb hAB.1 hP 25 2 rfl rfl h.1 dX9_reaches_140 ?_
  have h := h.2
  exact rt_z (mGo_21, mFr_22, mQu_23) hQ hx hb hr hlk hP hD hS ⟨Nat.zero_le _, Nat.zero_le _⟩ h.1 dX9_reaches_141 h.2
def wp_X9_push_L7 (mFr : Nat → Int32) (mRm : Nat → Int64) (x7 : (Int64) → Prop) : Nat → (Int64) → (Int32) → Prop
  | 0, _, _ => False
  | n7 + 1, x1_1, x3_2 =>
  ((x3_2 = 24 → x7 x1_1) ∧
   (¬ x3_2 = 24 → vp_in x3_2 26 ∧ vp_in ((26 * (mFr (Int32.toNatClampNeg x3_2))) + x3_2) 676 ∧ ∀ x1_5 : Int64, x1_5 = (if (mRm (Int32.toNatClampNeg ((26 * (mFr (Int32.toNatClampNeg x3_2))) + x3_2))) < x1_1 then (mRm (Int32.toNatClampNeg ((26 * (mFr (Int32.toNatClampNeg x3_2))) + x3_2))) else x1_1) → vp_in x3_2 26 ∧ ∀ x3_7 : Int32, x3_7 = (mFr (Int32.toNatClampNeg x3_2)) → (wp_X9_push_L7 mFr mRm x7 n7) x1_5 x3_7))
def wp_X9_push_L47 (mFr : Nat → Int32) (x1_3 : Int64) (x47 : (Nat → Int64) → Prop) : Nat → (Int32) → (Nat → Int64) → Prop
  | 0, _, _ => False
  | n47 + 1, x3_9, mRm_10 =>
  ((x3_9 = 24 → x47 mRm_10) ∧
   (¬ x3_9 = 24 → vp_in x3_9 26 ∧ vp_in ((26 * (mFr (Int32.toNatClampNeg x3_9))) + x3_9) 676 ∧ vp_in ((26 * (mFr (Int32.toNatClampNeg x3_9))) + x3_9) 676 ∧ ∀ mRm_13 : Nat → Int64, mRm_13 = vp_updL mRm_10 (Int32.toNatClampNeg ((26 * (mFr (Int32.toNatClampNeg x3_9))) + x3_9)) ((mRm_10 (Int32.toNatClampNeg ((26 * (mFr (Int32.toNatClampNeg x3_9))) + x3_9))) - x1_3) → vp_in x3_9 26 ∧ vp_in ((26 * x3_9) + (mFr (Int32.toNatClampNeg x3_9))) 676 ∧ vp_in ((26 * x3_9) + (mFr (Int32.toNatClampNeg x3_9))) 676 ∧ ∀ mRm_15 : Nat → Int64, mRm_15 = vp_updL mRm_13 (Int32.toNatClampNeg ((26 * x3_9) + (mFr (Int32.toNatClampNeg x3_9)))) ((mRm_13 (Int32.toNatClampNeg ((26 * x3_9) + (mFr (Int32.toNatClampNeg x3_9))))) + x1_3) → vp_in x3_9 26 ∧ ∀ x3_17 : Int32, x3_17 = (mFr (Int32.toNatClampNeg x3_9)) → (wp_X9_push_L47 mFr x1_3 x47 n47) x3_17 mRm_15))
def wp_X9_push (mRm : Nat → Int64) (mFr : Nat → Int32)  (Qp : (Nat → Int64) → Prop) : Prop :=
  (∃ n7 : Nat, wp_X9_push_L7 mFr mRm (fun (x1_3 : Int64) => (∃ n47 : Nat, wp_X9_push_L47 mFr x1_3 (fun (mRm_11 : Nat → Int64) => Qp mRm_11) n47 25 mRm)) n7 9223372036854775807 25)
theorem inn_X9_push_9 : ∀ w ∈ u_ws RX9 TX9 32, w ∈ wsX9_push := fun _ h => List.mem_cons_of_mem _ (List.mem_append_right _ h)
def rm_X9_push : Room := { frames := 1, cells := 0, slots := 0, locals := 23 }
set_option maxHeartbeats 4000000 in
set_option maxRecDepth 100000 in
theorem ct_X9_push {l : Launch} {D : va_G} {cI cJ cZ cE cD cK : ClassId} {ad : Nat → Nat} {ud : Nat → Nat → Nat} {pT : Int32} {pK : Nat → Int32} {pN : Nat → Int32} {pF : Nat → Int32} {pS : Nat → Int32} {qT : Int32} {qK : Nat → Int32} {qN : Nat → Int32} {qF : Nat → Int32} {qS : Nat → Int32} {mKe : Int32} {mUn : Int32} {mFi : Int32} {mRi : Int32} {mBe : Int64} {mWc : Int32} {mAK : Int32} {mSh : Int32} {mIP : Int32} {mUS : Nat → Int32} {mWa : Nat → Int32} {mWi : Nat → Int32} {mSi : Nat → Int32} {mRo : Nat → Int64} {mSp : Nat → Int64} {mRw : Nat → Int32} {mSn : Nat → Int32} {mBg : Nat → Int32} {mLa : Nat → Int32} {mMo : Nat → Int32} {mRm : Nat → Int64} {mOw : Nat → Int64} {mGo : Nat → Int32} {mFr : Nat → Int32} {mQu : Nat → Int32} {mCh : Nat → Int64} {mPB : Nat → Int32} {mPS : Nat → Int32} {mFs : Nat → Int32} {ub : Nat → Nat} {uT : Nat → Int32} {uK : Nat → Nat → Int32} {uN : Nat → Nat → Int32} {uF : Nat → Nat → Int32} {uS : Nat → Nat → Int32}    {Qp : (Nat → Int64) → Prop}   (h : wp_X9_push mRm mFr Qp) : CTv l yX9_push wsX9_push rm_X9_push D (tyL cI cJ cZ cE cD cK) [.ref (ad 0)] (WM cI cJ cZ cK ad ud pT pK pN pF pS qT qK qN qF qS mKe mUn mFi mRi mBe mWc mAK mSh mIP mUS mWa mWi mSi mRo mSp mRw mSn mBg mLa mMo mRm mOw mGo mFr mQu mCh mPB mPS mFs ub uT uK uN uF uS) (fun u : (Nat → Int64) => Qp u) (fun u : (Nat → Int64) => (WM cI cJ cZ cK ad ud pT pK pN pF pS qT qK qN qF qS mKe mUn mFi mRi mBe mWc mAK mSh mIP mUS mWa mWi mSi mRo mSp mRw mSn mBg mLa mMo u mOw mGo mFr mQu mCh mPB mPS mFs ub uT uK uN uF uS)) 0 0 := by
  refine ent_v (cc := cX9_push) (maxL := 4) (ret := none) (by decide) rfl (Nat.le_of_ble_eq_true rfl) ?_
  intro p e s m args below meth c A Q hQ hx hb hr hml hown hts hlk hA hAB hP hD hS ls hl
  have hown : s.vm.findClass RX9 = some m.cls := hown
  have hl : lv_has ls 4 [(0, .ref (ad 0))] := hl
  generalize hH : s.heap = H at hP ⊢
  have hS : va_S A s.heap H [] := by rw [← hH]; exact hS
  clear hH
  generalize ([] : List Loc) = locs at hS ⊢
  refine lv_ldc2 (v := 9223372036854775807) hx hb hown (hts (.constantLong RX9 226 9223372036854775807) (by decide +kernel)) dX9_push_0 ?_
  refine lv_lstore_n (lv' := [(1, .long 9223372036854775807), (0, .ref (ad 0))]) hx hb dX9_push_3 rfl hl (by decide) rfl (fun ls hl => ?_)
  refine lv_bipush (v := 25) hx hb dX9_push_4 (by decide) ?_
  refine lv_istore_n (lv' := [(3, .int 25), (1, .long 9223372036854775807), (0, .ref (ad 0))]) hx hb dX9_push_6 rfl hl (by decide) rfl (fun ls hl => ?_)
  have L7 : ∀ (x7 : (Int64) → Prop) (hk7 : ∀ (x1_3 : Int64), x7 x1_3 → ∀ (H : Heap) (locs : List Loc) (ls : Array Slot), va_P D vwCl (WM cI cJ cZ cK ad ud pT pK pN pF pS qT qK qN qF qS mKe mUn mFi mRi mBe mWc mAK mSh mIP mUS mWa mWi mSi mRo mSp mRw mSn mBg mLa mMo mRm mOw mGo mFr mQu mCh mPB mPS mFs ub uT uK uN uF uS) H → va_D A (WM cI cJ cZ cK ad ud pT pK pN pF pS qT qK qN qF qS mKe mUn mFi mRi mBe mWc mAK mSh mIP mUS mWa mWi mSi mRo mSp mRw mSn mBg mLa mMo mRm mOw mGo mFr mQu mCh mPB mPS mFs ub uT uK uN uF uS) → va_S A s.heap H locs → lv_has ls 4 [(0, .ref (ad 0)), (1, .long x1_3)] → W p l e (headSpec wsX9_push rm_X9_push).room s m args below meth c H locs 0 0 Q (F0 m 44 ls [])) (n7 : Nat) (x1_1 : Int64) (x3_2 : Int32), wp_X9_push_L7 mFr mRm x7 n7 x1_1 x3_2 → ∀ (H : Heap) (locs : List Loc) (ls : Array Slot), va_P D vwCl (WM cI cJ cZ cK ad ud pT pK pN pF pS qT qK qN qF qS mKe mUn mFi mRi mBe mWc mAK mSh mIP mUS mWa mWi mSi mRo mSp mRw mSn mBg mLa mMo mRm mOw mGo mFr mQu mCh mPB mPS mFs ub uT uK uN uF uS) H → va_D A (WM cI cJ cZ cK ad ud pT pK pN pF pS qT qK qN qF qS mKe mUn mFi mRi mBe mWc mAK mSh mIP mUS mWa mWi mSi mRo mSp mRw mSn mBg mLa mMo mRm mOw mGo mFr mQu mCh mPB mPS mFs ub uT uK uN uF uS) → va_S A s.heap H locs → lv_has ls 4 [(0, .ref (ad 0)), (1, .long x1_1), (3, .int x3_2)] → W p l e (headSpec wsX9_push rm_X9_push).room s m args below meth c H locs 0 0 Q (F0 m 7 ls []) := by
    intro x7 hk7 n7
    induction n7 with
    | zero => intro x1_1 x3_2 h; exact False.elim h
    | succ n7 ih7 =>
      intro x1_1 x3_2 h H locs ls hP hD hS hl
      refine lv_iload_n hx hb dX9_push_7 rfl (lv_at hl 2 rfl) ?_
      refine lv_bipush (v := 24) hx hb dX9_push_8 (by decide) ?_
      refine lv_icmp_eq (tgt := 44) hx hb dX9_push_10 (by decide) (fun c_4 => ?_) (fun c_4 => ?_)
      · have h := h.1 c_4
        exact hk7 x1_1 h H locs ls hP hD hS (lv_sub hl [0, 1] rfl)
      · have h := h.2 c_4
        refine lv_lload_n hx hb dX9_push_13 rfl (lv_at hl 1 rfl) ?_
        refine lv_aload_n hx hb dX9_push_14 rfl (lv_at hl 0 rfl) ?_
        refine va_get (D := D) (ci := 9) (C := RX9) (T := TX9) (N := 32) hx hb hts inn_X9_push_9 hown hAB.1 hP 0 rfl rfl 20 (by decide) (hts (.fieldLink RX9 63 "BarnBenchModel" "room" "[J") (by decide +kernel)) (fun _ h9 => h9) rfl dX9_push_15 ?_
        refine lv_bipush (v := 26) hx hb dX9_push_18 (by decide) ?_
        refine lv_aload_n hx hb dX9_push_20 rfl (lv_at hl 0 rfl) ?_
        refine va_get (D := D) (ci := 9) (C := RX9) (T := TX9) (N := 32) hx hb hts inn_X9_push_9 hown hAB.1 hP 0 rfl rfl 23 (by decide) (hts (.fieldLink RX9 72 "BarnBenchModel" "from" "[I") (by decide +kernel)) (fun _ h9 => h9) rfl dX9_push_21 ?_
        refine lv_iload_n hx hb dX9_push_24 rfl (lv_at hl 2 rfl) ?_
        refine va_iald hx hb hAB.1 hP 26 0 rfl rfl h.1 dX9_push_25 ?_
        have h := h.2
        refine lv_imul hx hb dX9_push_26 ?_
        refine lv_iload_n hx hb dX9_push_27 rfl (lv_at hl 2 rfl) ?_
        refine lv_iadd hx hb dX9_push_28 ?_
        refine va_lald hx hb hAB.1 hP 23 1 rfl rfl h.1 dX9_push_29 ?_
        have h := h.2
        refine va_mmin_long (rest := []) hx hb (by rw [hml]; exact hl.1.symm) hown (hts (.methodLink RX9 228 Lib.MathLoose.min_long.x) (by decide +kernel)) (hts (.static Lib.MathLoose.min_long.x) (by decide +kernel)) (hts (.initialized "java/lang/Math") (by decide +kernel)) (hts (.code Lib.MathLoose.min_long.x Lib.MathLoose.min_long.code 4 (some .long)) (by decide +kernel)) (Nat.le_of_ble_eq_true rfl) (Nat.le_of_ble_eq_true rfl) (Nat.zero_le _) (Nat.zero_le _) dX9_push_30 ?_
        refine lv_topl (fun x1_5 e_6 => ?_)
        have h := h x1_5 e_6
        refine lv_lstore_n (lv' := [(1, .long x1_5), (0, .ref (ad 0)), (3, .int x3_2)]) hx hb dX9_push_33 rfl hl (by decide) rfl (fun ls hl => ?_)
        refine lv_aload_n hx hb dX9_push_34 rfl (lv_at hl 1 rfl) ?_
        refine va_get (D := D) (ci := 9) (C := RX9) (T := TX9) (N := 32) hx hb hts inn_X9_push_9 hown hAB.1 hP 0 rfl rfl 23 (by decide) (hts (.fieldLink RX9 72 "BarnBenchModel" "from" "[I") (by decide +kernel)) (fun _ h9 => h9) rfl dX9_push_35 ?_
        refine lv_iload_n hx hb dX9_push_38 rfl (lv_at hl 2 rfl) ?_
        refine va_iald hx hb hAB.1 hP 26 0 rfl rfl h.1 dX9_push_39 ?_
        have h := h.2
        refine lv_topi (fun x3_7 e_8 => ?_)
        have h := h x3_7 e_8
        refine lv_istore_n (lv' := [(3, .int x3_7), (1, .long x1_5), (0, .ref (ad 0))]) hx hb dX9_push_40 rfl hl (by decide) rfl (fun ls hl => ?_)
        refine lv_goto (tgt := 7) hx hb dX9_push_41 (by decide) ?_
        exact ih7 x1_5 x3_7 h H locs ls hP hD hS (lv_sub hl [2, 1, 0] rfl)
  obtain ⟨n7, h⟩ := h
  refine L7 _ (fun x1_3 h H locs ls hP hD hS hl => ?_) n7 9223372036854775807 25 h H locs ls hP hD hS (lv_sub hl [2, 1, 0] rfl)
  refine lv_bipush (v := 25) hx hb dX9_push_44 (by decide) ?_
  refine lv_istore_n (lv' := [(3, .int 25), (0, .ref (ad 0)), (1, .long x1_3)]) hx hb dX9_push_46 rfl hl (by decide) rfl (fun ls hl => ?_)
  have L47 : ∀ (x47 : (Nat → Int64) → Prop) (hk47 : ∀ (mRm_11 : Nat → Int64), x47 mRm_11 → ∀ (H : Heap) (locs : List Loc) (ls : Array Slot), va_P D vwCl (WM cI cJ cZ cK ad ud pT pK pN pF pS qT qK qN qF qS mKe mUn mFi mRi mBe mWc mAK mSh mIP mUS mWa mWi mSi mRo mSp mRw mSn mBg mLa mMo mRm_11 mOw mGo mFr mQu mCh mPB mPS mFs ub uT uK uN uF uS) H → va_D A (WM cI cJ cZ cK ad ud pT pK pN pF pS qT qK qN qF qS mKe mUn mFi mRi mBe mWc mAK mSh mIP mUS mWa mWi mSi mRo mSp mRw mSn mBg mLa mMo mRm_11 mOw mGo mFr mQu mCh mPB mPS mFs ub uT uK uN uF uS) → va_S A s.heap H locs → lv_has ls 4 [] → W p l e (headSpec wsX9_push rm_X9_push).room s m args below meth c H locs 0 0 Q (F0 m 103 ls [])) (n47 : Nat) (x3_9 : Int32) (mRm_10 : Nat → Int64), wp_X9_push_L47 mFr x1_3 x47 n47 x3_9 mRm_10 → ∀ (H : Heap) (locs : List Loc) (ls : Array Slot), va_P D vwCl (WM cI cJ cZ cK ad ud pT pK pN pF pS qT qK qN qF qS mKe mUn mFi mRi mBe mWc mAK mSh mIP mUS mWa mWi mSi mRo mSp mRw mSn mBg mLa mMo mRm_10 mOw mGo mFr mQu mCh mPB mPS mFs ub uT uK uN uF uS) H → va_D A (WM cI cJ cZ cK ad ud pT pK pN pF pS qT qK qN qF qS mKe mUn mFi mRi mBe mWc mAK mSh mIP mUS mWa mWi mSi mRo mSp mRw mSn mBg mLa mMo mRm_10 mOw mGo mFr mQu mCh mPB mPS mFs ub uT uK uN uF uS) → va_S A s.heap H locs → lv_has ls 4 [(0, .ref (ad 0)), (1, .long x1_3), (3, .int x3_9)] → W p l e (headSpec wsX9_push rm_X9_push).room s m args below meth c H locs 0 0 Q (F0 m 47 ls []) := by
    intro x47 hk47 n47
    induction n47 with
    | zero => intro x3_9 mRm_10 h; exact False.elim h
    | succ n47 ih47 =>
      intro x3_9 mRm_10 h H locs ls hP hD hS hl
      refine lv_iload_n hx hb dX9_push_47 rfl (lv_at hl 2 rfl) ?_
      refine lv_bipush (v := 24) hx hb dX9_push_48 (by decide) ?_
      refine lv_icmp_eq (tgt := 103) hx hb dX9_push_50 (by decide) (fun c_12 => ?_) (fun c_12 => ?_)
      · have h := h.1 c_12
        exact hk47 mRm_10 h H locs ls hP hD hS (lv_sub hl [] rfl)
      · have h := h.2 c_12
        refine lv_aload_n hx hb dX9_push_53 rfl (lv_at hl 0 rfl) ?_
        refine va_get (D := D) (ci := 9) (C := RX9) (T := TX9) (N := 32) hx hb hts inn_X9_push_9 hown hAB.1 hP 0 rfl rfl 20 (by decide) (hts (.fieldLink RX9 63 "BarnBenchModel" "room" "[J") (by decide +kernel)) (fun _ h9 => h9) rfl dX9_push_54 ?_
        refine lv_bipush (v := 26) hx hb dX9_push_57 (by decide) ?_
        refine lv_aload_n hx hb dX9_push_59 rfl (lv_at hl 0 rfl) ?_
        refine va_get (D := D) (ci := 9) (C := RX9) (T := TX9) (N := 32) hx hb hts inn_X9_push_9 hown hAB.1 hP 0 rfl rfl 23 (by decide) (hts (.fieldLink RX9 72 "BarnBenchModel" "from" "[I") (by decide +kernel)) (fun _ h9 => h9) rfl dX9_push_60 ?_
        refine lv_iload_n hx hb dX9_push_63 rfl (lv_at hl 2 rfl) ?_
        refine va_iald hx hb hAB.1 hP 26 0 rfl rfl h.1 dX9_push_64 ?_
        have h := h.2
        refine lv_imul hx hb dX9_push_65 ?_
        refine lv_iload_n hx hb dX9_push_66 rfl (lv_at hl 2 rfl) ?_
        refine lv_iadd hx hb dX9_push_67 ?_
        refine lv_dup2_11 hx hb dX9_push_68 rfl rfl ?_
        refine va_lald hx hb hAB.1 hP 23 1 rfl rfl h.1 dX9_push_69 ?_
        have h := h.2
        refine lv_lload_n hx hb dX9_push_70 rfl (lv_at hl 1 rfl) ?_
        refine lv_lsub hx hb dX9_push_71 ?_
        refine sM_23 hx hb hAB hP hD hS h.1 dX9_push_72 (fun mRm_13 H locs e_14 hP hD hS => ?_)
        have h := h.2
        have h := h mRm_13 e_14
        refine lv_aload_n hx hb dX9_push_73 rfl (lv_at hl 0 rfl) ?_
        refine va_get (D := D) (ci := 9) (C := RX9) (T := TX9) (N := 32) hx hb hts inn_X9_push_9 hown hAB.1 hP 0 rfl rfl 20 (by decide) (hts (.fieldLink RX9 63 "BarnBenchModel" "room" "[J") (by decide +kernel)) (fun _ h9 => h9) rfl dX9_push_74 ?_
        refine lv_bipush (v := 26) hx hb dX9_push_77 (by decide) ?_
        refine lv_iload_n hx hb dX9_push_79 rfl (lv_at hl 2 rfl) ?_
        refine lv_imul hx hb dX9_push_80 ?_
        refine lv_aload_n hx hb dX9_push_81 rfl (lv_at hl 0 rfl) ?_
        refine va_get (D := D) (ci := 9) (C := RX9) (T := TX9) (N := 32) hx hb hts inn_X9_push_9 hown hAB.1 hP 0 rfl rfl 23 (by decide) (hts (.fieldLink RX9 72 "BarnBenchModel" "from" "[I") (by decide +kernel)) (fun _ h9 => h9) rfl dX9_push_82 ?_
        refine lv_iload_n hx hb dX9_push_85 rfl (lv_at hl 2 rfl) ?_
        refine va_iald hx hb hAB.1 hP 26 0 rfl rfl h.1 dX9_push_86 ?_
        have h := h.2
        refine lv_iadd hx hb dX9_push_87 ?_
        refine lv_dup2_11 hx hb dX9_push_88 rfl rfl ?_
        refine va_lald hx hb hAB.1 hP 23 1 rfl rfl h.1 dX9_push_89 ?_
        have h := h.2
        refine lv_lload_n hx hb dX9_push_90 rfl (lv_at hl 1 rfl) ?_
        refine lv_ladd hx hb dX9_push_91 ?_
        refine sM_23 hx hb hAB hP hD hS h.1 dX9_push_92 (fun mRm_15 H locs e_16 hP hD hS => ?_)
        have h := h.2
        have h := h mRm_15 e_16
        refine lv_aload_n hx hb dX9_push_93 rfl (lv_at hl 0 rfl) ?_
        refine va_get (D := D) (ci := 9) (C := RX9) (T := TX9) (N := 32) hx hb hts inn_X9_push_9 hown hAB.1 hP 0 rfl rfl 23 (by decide) (hts (.fieldLink RX9 72 "BarnBenchModel" "from" "[I") (by decide +kernel)) (fun _ h9 => h9) rfl dX9_push_94 ?_
        refine lv_iload_n hx hb dX9_push_97 rfl (lv_at hl 2 rfl) ?_
        refine va_iald hx hb hAB.1 hP 26 0 rfl rfl h.1 dX9_push_98 ?_
        have h := h.2
        refine lv_topi (fun x3_17 e_18 => ?_)
        have h := h x3_17 e_18
        refine lv_istore_n (lv' := [(3, .int x3_17), (0, .ref (ad 0)), (1, .long x1_3)]) hx hb dX9_push_99 rfl hl (by decide) rfl (fun ls hl => ?_)
        refine lv_goto (tgt := 47) hx hb dX9_push_100 (by decide) ?_
        exact ih47 x3_17 mRm_15 h H locs ls hP hD hS (lv_sub hl [1, 2, 0] rfl)
  obtain ⟨n47, h⟩ := h
  refine L47 _ (fun mRm_11 h H locs ls hP hD hS hl => ?_) n47 25 mRm h H locs ls hP hD hS (lv_sub hl [1, 2, 0] rfl)
  exact rt_v (mRm_11) hQ hx hb hr hlk hP hD hS ⟨Nat.zero_le _, Nat.zero_le _⟩ dX9_push_103 h
def wp_X9_take_L2 (mBg : Nat → Int32) (mSn : Nat → Int32) (pT : Int32) (x2 : (Nat → Int32) → Prop) : Nat → (Int32) → (Nat → Int32) → Prop
  | 0, _, _ => False
  | n2 + 1, x1_1, mMo_2 =>
  ((pT ≤ x1_1 → x2 mMo_2) ∧
   (¬ pT ≤ x1_1 → vp_in x1_1 12 ∧ vp_in x1_1 24 ∧ ∀ mMo_5 : Nat → Int32, mMo_5 = upd mMo_2 (Int32.toNatClampNeg x1_1) (mBg (Int32.toNatClampNeg x1_1)) → vp_in x1_1 12 ∧ vp_in x1_1 12 ∧ vp_in (12 + x1_1) 24 ∧ ∀ mMo_7 : Nat → Int32, mMo_7 = upd mMo_5 (Int32.toNatClampNeg (12 + x1_1)) ((mBg (Int32.toNatClampNeg x1_1)) + (mSn (Int32.toNatClampNeg x1_1))) → ∀ x1_9 : Int32, x1_9 = x1_1 + 1 → (wp_X9_take_L2 mBg mSn pT x2 n2) x1_9 mMo_7))
def wp_X9_take_L61  (x61 : (Nat → Int32) → Prop) : Nat → (Int32) → (Nat → Int32) → Prop
  | 0, _, _ => False
  | n61 + 1, x1_11, mMo_12 =>
  ((12 ≤ x1_11 → x61 mMo_12) ∧
   (¬ 12 ≤ x1_11 → vp_in x1_11 24 ∧ ∀ mMo_15 : Nat → Int32, mMo_15 = upd mMo_12 (Int32.toNatClampNeg x1_11) 0 → vp_in (12 + x1_11) 24 ∧ ∀ mMo_17 : Nat → Int32, mMo_17 = upd mMo_15 (Int32.toNatClampNeg (12 + x1_11)) 0 → ∀ x1_19 : Int32, x1_19 = x1_11 + 1 → (wp_X9_take_L61  x61 n61) x1_19 mMo_17))
def wp_X9_take (pT : Int32) (mSn : Nat → Int32) (mBg : Nat → Int32) (mMo : Nat → Int32)  (Qp : (Nat → Int32) → Prop) : Prop :=
  (∃ n2 : Nat, wp_X9_take_L2 mBg mSn pT (fun (mMo_3 : Nat → Int32) => (∃ n61 : Nat, wp_X9_take_L61 (fun (mMo_13 : Nat → Int32) => Qp mMo_13) n61 pT mMo_3)) n2 0 mMo)
theorem inn_X9_take_8 : ∀ w ∈ u_ws RX8 TX8 5, w ∈ wsX9_take := fun _ h => List.mem_cons_of_mem _ (List.mem_append_right _ h)
theorem inn_X9_take_9 : ∀ w ∈ u_ws RX9 TX9 32, w ∈ wsX9_take := fun _ h => List.mem_cons_of_mem _ (List.mem_append_left _ (List.mem_append_right _ h))
def rm_X9_take : Room := { frames := 0, cells := 0, slots := 0, locals := 0 }
set_option maxHeartbeats 4000000 in
set_option maxRecDepth 100000 in
theorem ct_X9_take {l : Launch} {D : va_G} {cI cJ cZ cE cD cK : ClassId} {ad : Nat → Nat} {ud : Nat → Nat → Nat} {pT : Int32} {pK : Nat → Int32} {pN : Nat → Int32} {pF : Nat → Int32} {pS : Nat → Int32} {qT : Int32} {qK : Nat → Int32} {qN : Nat → Int32} {qF : Nat → Int32} {qS : Nat → Int32} {mKe : Int32} {mUn : Int32} {mFi : Int32} {mRi : Int32} {mBe : Int64} {mWc : Int32} {mAK : Int32} {mSh : Int32} {mIP : Int32} {mUS : Nat → Int32} {mWa : Nat → Int32} {mWi : Nat → Int32} {mSi : Nat → Int32} {mRo : Nat → Int64} {mSp : Nat → Int64} {mRw : Nat → Int32} {mSn : Nat → Int32} {mBg : Nat → Int32} {mLa : Nat → Int32} {mMo : Nat → Int32} {mRm : Nat → Int64} {mOw : Nat → Int64} {mGo : Nat → Int32} {mFr : Nat → Int32} {mQu : Nat → Int32} {mCh : Nat → Int64} {mPB : Nat → Int32} {mPS : Nat → Int32} {mFs : Nat → Int32} {ub : Nat → Nat} {uT : Nat → Int32} {uK : Nat → Nat → Int32} {uN : Nat → Nat → Int32} {uF : Nat → Nat → Int32} {uS : Nat → Nat → Int32}    {Qp : (Nat → Int32) → Prop}   (h : wp_X9_take pT mSn mBg mMo Qp) : CTv l yX9_take wsX9_take rm_X9_take D (tyL cI cJ cZ cE cD cK) [.ref (ad 0)] (WM cI cJ cZ cK ad ud pT pK pN pF pS qT qK qN qF qS mKe mUn mFi mRi mBe mWc mAK mSh mIP mUS mWa mWi mSi mRo mSp mRw mSn mBg mLa mMo mRm mOw mGo mFr mQu mCh mPB mPS mFs ub uT uK uN uF uS) (fun u : (Nat → Int32) => Qp u) (fun u : (Nat → Int32) => (WM cI cJ cZ cK ad ud pT pK pN pF pS qT qK qN qF qS mKe mUn mFi mRi mBe mWc mAK mSh mIP mUS mWa mWi mSi mRo mSp mRw mSn mBg mLa u mRm mOw mGo mFr mQu mCh mPB mPS mFs ub uT uK uN uF uS)) 0 0 := by
  refine ent_v (cc := cX9_take) (maxL := 2) (ret := none) (by decide) rfl (Nat.le_of_ble_eq_true rfl) ?_
  intro p e s m args below meth c A Q hQ hx hb hr hml hown hts hlk hA hAB hP hD hS ls hl
  have hown : s.vm.findClass RX9 = some m.cls := hown
  have hl : lv_has ls 2 [(0, .ref (ad 0))] := hl
  generalize hH : s.heap = H at hP ⊢
  have hS : va_S A s.heap H [] := by rw [← hH]; exact hS
  clear hH
  generalize ([] : List Loc) = locs at hS ⊢
  refine lv_iconst (v := 0) hx hb dX9_take_0 (by decide) ?_
  refine lv_istore_n (lv' := [(1, .int 0), (0, .ref (ad 0))]) hx hb dX9_take_1 rfl hl (by decide) rfl (fun ls hl => ?_)
  have L2 : ∀ (x2 : (Nat → Int32) → Prop) (hk2 : ∀ (mMo_3 : Nat → Int32), x2 mMo_3 → ∀ (H : Heap) (locs : List Loc) (ls : Array Slot), va_P D vwCl (WM cI cJ cZ cK ad ud pT pK pN pF pS qT qK qN qF qS mKe mUn mFi mRi mBe mWc mAK mSh mIP mUS mWa mWi mSi mRo mSp mRw mSn mBg mLa mMo_3 mRm mOw mGo mFr mQu mCh mPB mPS mFs ub uT uK uN uF uS) H → va_D A (WM cI cJ cZ cK ad ud pT pK pN pF pS qT qK qN qF qS mKe mUn mFi mRi mBe mWc mAK mSh mIP mUS mWa mWi mSi mRo mSp mRw mSn mBg mLa mMo_3 mRm mOw mGo mFr mQu mCh mPB mPS mFs ub uT uK uN uF uS) → va_S A s.heap H locs → lv_has ls 2 [(0, .ref (ad 0))] → W p l e (headSpec wsX9_take rm_X9_take).room s m args below meth c H locs 0 0 Q (F0 m 53 ls [])) (n2 : Nat) (x1_1 : Int32) (mMo_2 : Nat → Int32), wp_X9_take_L2 mBg mSn pT x2 n2 x1_1 mMo_2 → ∀ (H : Heap) (locs : List Loc) (ls : Array Slot), va_P D vwCl (WM cI cJ cZ cK ad ud pT pK pN pF pS qT qK qN qF qS mKe mUn mFi mRi mBe mWc mAK mSh mIP mUS mWa mWi mSi mRo mSp mRw mSn mBg mLa mMo_2 mRm mOw mGo mFr mQu mCh mPB mPS mFs ub uT uK uN uF uS) H → va_D A (WM cI cJ cZ cK ad ud pT pK pN pF pS qT qK qN qF qS mKe mUn mFi mRi mBe mWc mAK mSh mIP mUS mWa mWi mSi mRo mSp mRw mSn mBg mLa mMo_2 mRm mOw mGo mFr mQu mCh mPB mPS mFs ub uT uK uN uF uS) → va_S A s.heap H locs → lv_has ls 2 [(0, .ref (ad 0)), (1, .int x1_1)] → W p l e (headSpec wsX9_take rm_X9_take).room s m args below meth c H locs 0 0 Q (F0 m 2 ls []) := by
    intro x2 hk2 n2
    induction n2 with
    | zero => intro x1_1 mMo_2 h; exact False.elim h
    | succ n2 ih2 =>
      intro x1_1 mMo_2 h H locs ls hP hD hS hl
      refine lv_iload_n hx hb dX9_take_2 rfl (lv_at hl 1 rfl) ?_
      refine lv_aload_n hx hb dX9_take_3 rfl (lv_at hl 0 rfl) ?_
      refine va_get (D := D) (ci := 9) (C := RX9) (T := TX9) (N := 32) hx hb hts inn_X9_take_9 hown hAB.1 hP 0 rfl rfl 0 (by decide) (hts (.fieldLink RX9 10 "BarnBenchModel" "b" "LBarnBenchModel$Book;") (by decide +kernel)) (fun _ h9 => h9) rfl dX9_take_4 ?_
      refine va_get (D := D) (ci := 8) (C := RX8) (T := TX8) (N := 5) hx hb hts inn_X9_take_8 hown hAB.1 hP 1 rfl rfl 0 (by decide) (hts (.fieldLink RX9 94 "BarnBenchModel$Book" "tasks" "I") (by decide +kernel)) (fun _ h9 => h9) rfl dX9_take_7 ?_
      refine lv_icmp_ge (tgt := 53) hx hb dX9_take_10 (by decide) (fun c_4 => ?_) (fun c_4 => ?_)
      · have h := h.1 c_4
        exact hk2 mMo_2 h H locs ls hP hD hS (lv_sub hl [0] rfl)
      · have h := h.2 c_4
        refine lv_aload_n hx hb dX9_take_13 rfl (lv_at hl 0 rfl) ?_
        refine va_get (D := D) (ci := 9) (C := RX9) (T := TX9) (N := 32) hx hb hts inn_X9_take_9 hown hAB.1 hP 0 rfl rfl 19 (by decide) (hts (.fieldLink RX9 60 "BarnBenchModel" "moments" "[I") (by decide +kernel)) (fun _ h9 => h9) rfl dX9_take_14 ?_
        refine lv_iload_n hx hb dX9_take_17 rfl (lv_at hl 1 rfl) ?_
        refine lv_aload_n hx hb dX9_take_18 rfl (lv_at hl 0 rfl) ?_
        refine va_get (D := D) (ci := 9) (C := RX9) (T := TX9) (N := 32) hx hb hts inn_X9_take_9 hown hAB.1 hP 0 rfl rfl 17 (by decide) (hts (.fieldLink RX9 54 "BarnBenchModel" "begins" "[I") (by decide +kernel)) (fun _ h9 => h9) rfl dX9_take_19 ?_
        refine lv_iload_n hx hb dX9_take_22 rfl (lv_at hl 1 rfl) ?_
        refine va_iald hx hb hAB.1 hP 20 0 rfl rfl h.1 dX9_take_23 ?_
        have h := h.2
        refine sM_22 hx hb hAB hP hD hS h.1 dX9_take_24 (fun mMo_5 H locs e_6 hP hD hS => ?_)
        have h := h.2
        have h := h mMo_5 e_6
        refine lv_aload_n hx hb dX9_take_25 rfl (lv_at hl 0 rfl) ?_
        refine va_get (D := D) (ci := 9) (C := RX9) (T := TX9) (N := 32) hx hb hts inn_X9_take_9 hown hAB.1 hP 0 rfl rfl 19 (by decide) (hts (.fieldLink RX9 60 "BarnBenchModel" "moments" "[I") (by decide +kernel)) (fun _ h9 => h9) rfl dX9_take_26 ?_
        refine lv_bipush (v := 12) hx hb dX9_take_29 (by decide) ?_
        refine lv_iload_n hx hb dX9_take_31 rfl (lv_at hl 1 rfl) ?_
        refine lv_iadd hx hb dX9_take_32 ?_
        refine lv_aload_n hx hb dX9_take_33 rfl (lv_at hl 0 rfl) ?_
        refine va_get (D := D) (ci := 9) (C := RX9) (T := TX9) (N := 32) hx hb hts inn_X9_take_9 hown hAB.1 hP 0 rfl rfl 17 (by decide) (hts (.fieldLink RX9 54 "BarnBenchModel" "begins" "[I") (by decide +kernel)) (fun _ h9 => h9) rfl dX9_take_34 ?_
        refine lv_iload_n hx hb dX9_take_37 rfl (lv_at hl 1 rfl) ?_
        refine va_iald hx hb hAB.1 hP 20 0 rfl rfl h.1 dX9_take_38 ?_
        have h := h.2
        refine lv_aload_n hx hb dX9_take_39 rfl (lv_at hl 0 rfl) ?_
        refine va_get (D := D) (ci := 9) (C := RX9) (T := TX9) (N := 32) hx hb hts inn_X9_take_9 hown hAB.1 hP 0 rfl rfl 16 (by decide) (hts (.fieldLink RX9 51 "BarnBenchModel" "spans" "[I") (by decide +kernel)) (fun _ h9 => h9) rfl dX9_take_40 ?_
        refine lv_iload_n hx hb dX9_take_43 rfl (lv_at hl 1 rfl) ?_
        refine va_iald hx hb hAB.1 hP 19 0 rfl rfl h.1 dX9_take_44 ?_
        have h := h.2
        refine lv_iadd hx hb dX9_take_45 ?_
        refine sM_22 hx hb hAB hP hD hS h.1 dX9_take_46 (fun mMo_7 H locs e_8 hP hD hS => ?_)
        have h := h.2
        have h := h mMo_7 e_8
        obtain ⟨x1_9, e_10⟩ : ∃ y : Int32, y = x1_1 + 1 := ⟨_, rfl⟩
        have h := h x1_9 e_10
        refine lv_iinc (v := x1_9) (lv' := [(1, .int x1_9), (0, .ref (ad 0))]) hx hb dX9_take_47 hl (k := 1) rfl (by rw [e_10]; rfl) (by decide) rfl (fun ls hl => ?_)
        refine lv_goto (tgt := 2) hx hb dX9_take_50 (by decide) ?_
        exact ih2 x1_9 mMo_7 h H locs ls hP hD hS (lv_sub hl [1, 0] rfl)
  obtain ⟨n2, h⟩ := h
  refine L2 _ (fun mMo_3 h H locs ls hP hD hS hl => ?_) n2 0 mMo h H locs ls hP hD hS (lv_sub hl [1, 0] rfl)
  refine lv_aload_n hx hb dX9_take_53 rfl (lv_at hl 0 rfl) ?_
  refine va_get (D := D) (ci := 9) (C := RX9) (T := TX9) (N := 32) hx hb hts inn_X9_take_9 hown hAB.1 hP 0 rfl rfl 0 (by decide) (hts (.fieldLink RX9 10 "BarnBenchModel" "b" "LBarnBenchModel$Book;") (by decide +kernel)) (fun _ h9 => h9) rfl dX9_take_54 ?_
  refine va_get (D := D) (ci := 8) (C := RX8) (T := TX8) (N := 5) hx hb hts inn_X9_take_8 hown hAB.1 hP 1 rfl rfl 0 (by decide) (hts (.fieldLink RX9 94 "BarnBenchModel$Book" "tasks" "I") (by decide +kernel)) (fun _ h9 => h9) rfl dX9_take_57 ?_
  refine lv_istore_n (lv' := [(1, .int pT), (0, .ref (ad 0))]) hx hb dX9_take_60 rfl hl (by decide) rfl (fun ls hl => ?_)
  have L61 : ∀ (x61 : (Nat → Int32) → Prop) (hk61 : ∀ (mMo_13 : Nat → Int32), x61 mMo_13 → ∀ (H : Heap) (locs : List Loc) (ls : Array Slot), va_P D vwCl (WM cI cJ cZ cK ad ud pT pK pN pF pS qT qK qN qF qS mKe mUn mFi mRi mBe mWc mAK mSh mIP mUS mWa mWi mSi mRo mSp mRw mSn mBg mLa mMo_13 mRm mOw mGo mFr mQu mCh mPB mPS mFs ub uT uK uN uF uS) H → va_D A (WM cI cJ cZ cK ad ud pT pK pN pF pS qT qK qN qF qS mKe mUn mFi mRi mBe mWc mAK mSh mIP mUS mWa mWi mSi mRo mSp mRw mSn mBg mLa mMo_13 mRm mOw mGo mFr mQu mCh mPB mPS mFs ub uT uK uN uF uS) → va_S A s.heap H locs → lv_has ls 2 [] → W p l e (headSpec wsX9_take rm_X9_take).room s m args below meth c H locs 0 0 Q (F0 m 90 ls [])) (n61 : Nat) (x1_11 : Int32) (mMo_12 : Nat → Int32), wp_X9_take_L61  x61 n61 x1_11 mMo_12 → ∀ (H : Heap) (locs : List Loc) (ls : Array Slot), va_P D vwCl (WM cI cJ cZ cK ad ud pT pK pN pF pS qT qK qN qF qS mKe mUn mFi mRi mBe mWc mAK mSh mIP mUS mWa mWi mSi mRo mSp mRw mSn mBg mLa mMo_12 mRm mOw mGo mFr mQu mCh mPB mPS mFs ub uT uK uN uF uS) H → va_D A (WM cI cJ cZ cK ad ud pT pK pN pF pS qT qK qN qF qS mKe mUn mFi mRi mBe mWc mAK mSh mIP mUS mWa mWi mSi mRo mSp mRw mSn mBg mLa mMo_12 mRm mOw mGo mFr mQu mCh mPB mPS mFs ub uT uK uN uF uS) → va_S A s.heap H locs → lv_has ls 2 [(0, .ref (ad 0)), (1, .int x1_11)] → W p l e (headSpec wsX9_take rm_X9_take).room s m args below meth c H locs 0 0 Q (F0 m 61 ls []) := by
    intro x61 hk61 n61
    induction n61 with
    | zero => intro x1_11 mMo_12 h; exact False.elim h
    | succ n61 ih61 =>
      intro x1_11 mMo_12 h H locs ls hP hD hS hl
      refine lv_iload_n hx hb dX9_take_61 rfl (lv_at hl 1 rfl) ?_
      refine lv_bipush (v := 12) hx hb dX9_take_62 (by decide) ?_
      refine lv_icmp_ge (tgt := 90) hx hb dX9_take_64 (by decide) (fun c_14 => ?_) (fun c_14 => ?_)
      · have h := h.1 c_14
        exact hk61 mMo_12 h H locs ls hP hD hS (lv_sub hl [] rfl)
      · have h := h.2 c_14
        refine lv_aload_n hx hb dX9_take_67 rfl (lv_at hl 0 rfl) ?_
        refine va_get (D := D) (ci := 9) (C := RX9) (T := TX9) (N := 32) hx hb hts inn_X9_take_9 hown hAB.1 hP 0 rfl rfl 19 (by decide) (hts (.fieldLink RX9 60 "BarnBenchModel" "moments" "[I") (by decide +kernel)) (fun _ h9 => h9) rfl dX9_take_68 ?_
        refine lv_iload_n hx hb dX9_take_71 rfl (lv_at hl 1 rfl) ?_
        refine lv_iconst (v := 0) hx hb dX9_take_72 (by decide) ?_
        refine sM_22 hx hb hAB hP hD hS h.1 dX9_take_73 (fun mMo_15 H locs e_16 hP hD hS => ?_)
        have h := h.2
        have h := h mMo_15 e_16
        refine lv_aload_n hx hb dX9_take_74 rfl (lv_at hl 0 rfl) ?_
        refine va_get (D := D) (ci := 9) (C := RX9) (T := TX9) (N := 32) hx hb hts inn_X9_take_9 hown hAB.1 hP 0 rfl rfl 19 (by decide) (hts (.fieldLink RX9 60 "BarnBenchModel" "moments" "[I") (by decide +kernel)) (fun _ h9 => h9) rfl dX9_take_75 ?_
        refine lv_bipush (v := 12) hx hb dX9_take_78 (by decide) ?_
        refine lv_iload_n hx hb dX9_take_80 rfl (lv_at hl 1 rfl) ?_
        refine lv_iadd hx hb dX9_take_81 ?_
        refine lv_iconst (v := 0) hx hb dX9_take_82 (by decide) ?_
        refine sM_22 hx hb hAB hP hD hS h.1 dX9_take_83 (fun mMo_17 H locs e_18 hP hD hS => ?_)
        have h := h.2
        have h := h mMo_17 e_18
        obtain ⟨x1_19, e_20⟩ : ∃ y : Int32, y = x1_11 + 1 := ⟨_, rfl⟩
        have h := h x1_19 e_20
        refine lv_iinc (v := x1_19) (lv' := [(1, .int x1_19), (0, .ref (ad 0))]) hx hb dX9_take_84 hl (k := 1) rfl (by rw [e_20]; rfl) (by decide) rfl (fun ls hl => ?_)
        refine lv_goto (tgt := 61) hx hb dX9_take_87 (by decide) ?_
        exact ih61 x1_19 mMo_17 h H locs ls hP hD hS (lv_sub hl [1, 0] rfl)
  obtain ⟨n61, h⟩ := h
  refine L61 _ (fun mMo_13 h H locs ls hP hD hS hl => ?_) n61 pT mMo_3 h H locs ls hP hD hS (lv_sub hl [1, 0] rfl)
  exact rt_v (mMo_13) hQ hx hb hr hlk hP hD hS ⟨Nat.zero_le _, Nat.zero_le _⟩ dX9_take_90 h
def wp_X9_costNow_L4 (mMo : Nat → Int32) (pK : Nat → Int32) (pN : Nat → Int32) (pT : Int32) (x4 : (Int64) → Prop) : Nat → (Int64) → (Int32) → Prop
  | 0, _, _ => False
  | n4 + 1, x1_1, x3_2 =>
  ((pT ≤ x3_2 → x4 x1_1) ∧
   (¬ pT ≤ x3_2 → vp_in (12 + x3_2) 24 ∧ vp_in x3_2 24 ∧ wp_X9_costOf pK pN x3_2 ((mMo (Int32.toNatClampNeg (12 + x3_2))) - (mMo (Int32.toNatClampNeg x3_2))) (fun (r_5 : Int64) => ∀ x1_6 : Int64, x1_6 = (x1_1 + r_5) → ∀ x3_8 : Int32, x3_8 = x3_2 + 1 → (wp_X9_costNow_L4 mMo pK pN pT x4 n4) x1_6 x3_8)))
def wp_X9_costNow (pT : Int32) (pK : Nat → Int32) (pN : Nat → Int32) (mMo : Nat → Int32)  (Qp : Int64 → Prop) : Prop :=
  (∃ n4 : Nat, wp_X9_costNow_L4 mMo pK pN pT (fun (x1_3 : Int64) => Qp x1_3) n4 0 0)
theorem inn_X9_costNow_8 : ∀ w ∈ u_ws RX8 TX8 5, w ∈ wsX9_costNow := fun _ h => List.mem_cons_of_mem _ (List.mem_append_right _ h)
theorem inn_X9_costNow_9 : ∀ w ∈ u_ws RX9 TX9 32, w ∈ wsX9_costNow := fun _ h => List.mem_cons_of_mem _ (List.mem_append_left _ (List.mem_append_right _ h))
def rm_X9_costNow : Room := { frames := 2, cells := 0, slots := 0, locals := 50 }
set_option maxHeartbeats 4000000 in
set_option maxRecDepth 100000 in
theorem ct_X9_costNow {l : Launch} {D : va_G} {cI cJ cZ cE cD cK : ClassId} {ad : Nat → Nat} {ud : Nat → Nat → Nat} {pT : Int32} {pK : Nat → Int32} {pN : Nat → Int32} {pF : Nat → Int32} {pS : Nat → Int32} {qT : Int32} {qK : Nat → Int32} {qN : Nat → Int32} {qF : Nat → Int32} {qS : Nat → Int32} {mKe : Int32} {mUn : Int32} {mFi : Int32} {mRi : Int32} {mBe : Int64} {mWc : Int32} {mAK : Int32} {mSh : Int32} {mIP : Int32} {mUS : Nat → Int32} {mWa : Nat → Int32} {mWi : Nat → Int32} {mSi : Nat → Int32} {mRo : Nat → Int64} {mSp : Nat → Int64} {mRw : Nat → Int32} {mSn : Nat → Int32} {mBg : Nat → Int32} {mLa : Nat → Int32} {mMo : Nat → Int32} {mRm : Nat → Int64} {mOw : Nat → Int64} {mGo : Nat → Int32} {mFr : Nat → Int32} {mQu : Nat → Int32} {mCh : Nat → Int64} {mPB : Nat → Int32} {mPS : Nat → Int32} {mFs : Nat → Int32} {ub : Nat → Nat} {uT : Nat → Int32} {uK : Nat → Nat → Int32} {uN : Nat → Nat → Int32} {uF : Nat → Nat → Int32} {uS : Nat → Nat → Int32}    {Qp : Int64 → Prop}   (h : wp_X9_costNow pT pK pN mMo Qp) : CTl l yX9_costNow wsX9_costNow rm_X9_costNow D (tyL cI cJ cZ cE cD cK) [.ref (ad 0)] (WM cI cJ cZ cK ad ud pT pK pN pF pS qT qK qN qF qS mKe mUn mFi mRi mBe mWc mAK mSh mIP mUS mWa mWi mSi mRo mSp mRw mSn mBg mLa mMo mRm mOw mGo mFr mQu mCh mPB mPS mFs ub uT uK uN uF uS) (fun (r : Int64) (u : Unit) => Qp r ) (fun u : Unit => (WM cI cJ cZ cK ad ud pT pK pN pF pS qT qK qN qF qS mKe mUn mFi mRi mBe mWc mAK mSh mIP mUS mWa mWi mSi mRo mSp mRw mSn mBg mLa mMo mRm mOw mGo mFr mQu mCh mPB mPS mFs ub uT uK uN uF uS)) 0 0 := by
  refine ent_l (cc := cX9_costNow) (maxL := 4) (ret := (some .long)) (by decide) rfl (Nat.le_of_ble_eq_true rfl) ?_
  intro p e s m args below meth c A Q hQ hx hb hr hml hown hts hlk hA hAB hP hD hS ls hl
  have hown : s.vm.findClass RX9 = some m.cls := hown
  have hl : lv_has ls 4 [(0, .ref (ad 0))] := hl
  generalize hH : s.heap = H at hP ⊢
  have hS : va_S A s.heap H [] := by rw [← hH]; exact hS
  clear hH
  generalize ([] : List Loc) = locs at hS ⊢
  refine lv_lconst (v := 0) hx hb dX9_costNow_0 (by decide) ?_
  refine lv_lstore_n (lv' := [(1, .long 0), (0, .ref (ad 0))]) hx hb dX9_costNow_1 rfl hl (by decide) rfl (fun ls hl => ?_)
  refine lv_iconst (v := 0) hx hb dX9_costNow_2 (by decide) ?_
  refine lv_istore_n (lv' := [(3, .int 0), (1, .long 0), (0, .ref (ad 0))]) hx hb dX9_costNow_3 rfl hl (by decide) rfl (fun ls hl => ?_)
  have L4 : ∀ (x4 : (Int64) → Prop) (hk4 : ∀ (x1_3 : Int64), x4 x1_3 → ∀ (H : Heap) (locs : List Loc) (ls : Array Slot), va_P D vwCl (WM cI cJ cZ cK ad ud pT pK pN pF pS qT qK qN qF qS mKe mUn mFi mRi mBe mWc mAK mSh mIP mUS mWa mWi mSi mRo mSp mRw mSn mBg mLa mMo mRm mOw mGo mFr mQu mCh mPB mPS mFs ub uT uK uN uF uS) H → va_D A (WM cI cJ cZ cK ad ud pT pK pN pF pS qT qK qN qF qS mKe mUn mFi mRi mBe mWc mAK mSh mIP mUS mWa mWi mSi mRo mSp mRw mSn mBg mLa mMo mRm mOw mGo mFr mQu mCh mPB mPS mFs ub uT uK uN uF uS) → va_S A s.heap H locs → lv_has ls 4 [(1, .long x1_3)] → W p l e (headSpec wsX9_costNow rm_X9_costNow).room s m args below meth c H locs 0 0 Q (F0 m 45 ls [])) (n4 : Nat) (x1_1 : Int64) (x3_2 : Int32), wp_X9_costNow_L4 mMo pK pN pT x4 n4 x1_1 x3_2 → ∀ (H : Heap) (locs : List Loc) (ls : Array Slot), va_P D vwCl (WM cI cJ cZ cK ad ud pT pK pN pF pS qT qK qN qF qS mKe mUn mFi mRi mBe mWc mAK mSh mIP mUS mWa mWi mSi mRo mSp mRw mSn mBg mLa mMo mRm mOw mGo mFr mQu mCh mPB mPS mFs ub uT uK uN uF uS) H → va_D A (WM cI cJ cZ cK ad ud pT pK pN pF pS qT qK qN qF qS mKe mUn mFi mRi mBe mWc mAK mSh mIP mUS mWa mWi mSi mRo mSp mRw mSn mBg mLa mMo mRm mOw mGo mFr mQu mCh mPB mPS mFs ub uT uK uN uF uS) → va_S A s.heap H locs → lv_has ls 4 [(0, .ref (ad 0)), (1, .long x1_1), (3, .int x3_2)] → W p l e (headSpec wsX9_costNow rm_X9_costNow).room s m args below meth c H locs 0 0 Q (F0 m 4 ls []) := by
    intro x4 hk4 n4
    induction n4 with
    | zero => intro x1_1 x3_2 h; exact False.elim h
    | succ n4 ih4 =>
      intro x1_1 x3_2 h H locs ls hP hD hS hl
      refine lv_iload_n hx hb dX9_costNow_4 rfl (lv_at hl 2 rfl) ?_
      refine lv_aload_n hx hb dX9_costNow_5 rfl (lv_at hl 0 rfl) ?_
      refine va_get (D := D) (ci := 9) (C := RX9) (T := TX9) (N := 32) hx hb hts inn_X9_costNow_9 hown hAB.1 hP 0 rfl rfl 0 (by decide) (hts (.fieldLink RX9 10 "BarnBenchModel" "b" "LBarnBenchModel$Book;") (by decide +kernel)) (fun _ h9 => h9) rfl dX9_costNow_6 ?_
      refine va_get (D := D) (ci := 8) (C := RX8) (T := TX8) (N := 5) hx hb hts inn_X9_costNow_8 hown hAB.1 hP 1 rfl rfl 0 (by decide) (hts (.fieldLink RX9 94 "BarnBenchModel$Book" "tasks" "I") (by decide +kernel)) (fun _ h9 => h9) rfl dX9_costNow_9 ?_
      refine lv_icmp_ge (tgt := 45) hx hb dX9_costNow_12 (by decide) (fun c_4 => ?_) (fun c_4 => ?_)
      · have h := h.1 c_4
        exact hk4 x1_1 h H locs ls hP hD hS (lv_sub hl [1] rfl)
      · have h := h.2 c_4
        refine lv_lload_n hx hb dX9_costNow_15 rfl (lv_at hl 1 rfl) ?_
        refine lv_aload_n hx hb dX9_costNow_16 rfl (lv_at hl 0 rfl) ?_
        refine lv_iload_n hx hb dX9_costNow_17 rfl (lv_at hl 2 rfl) ?_
        refine lv_aload_n hx hb dX9_costNow_18 rfl (lv_at hl 0 rfl) ?_
        refine va_get (D := D) (ci := 9) (C := RX9) (T := TX9) (N := 32) hx hb hts inn_X9_costNow_9 hown hAB.1 hP 0 rfl rfl 19 (by decide) (hts (.fieldLink RX9 60 "BarnBenchModel" "moments" "[I") (by decide +kernel)) (fun _ h9 => h9) rfl dX9_costNow_19 ?_
        refine lv_bipush (v := 12) hx hb dX9_costNow_22 (by decide) ?_
        refine lv_iload_n hx hb dX9_costNow_24 rfl (lv_at hl 2 rfl) ?_
        refine lv_iadd hx hb dX9_costNow_25 ?_
        refine va_iald hx hb hAB.1 hP 22 0 rfl rfl h.1 dX9_costNow_26 ?_
        have h := h.2
        refine lv_aload_n hx hb dX9_costNow_27 rfl (lv_at hl 0 rfl) ?_
        refine va_get (D := D) (ci := 9) (C := RX9) (T := TX9) (N := 32) hx hb hts inn_X9_costNow_9 hown hAB.1 hP 0 rfl rfl 19 (by decide) (hts (.fieldLink RX9 60 "BarnBenchModel" "moments" "[I") (by decide +kernel)) (fun _ h9 => h9) rfl dX9_costNow_28 ?_
        refine lv_iload_n hx hb dX9_costNow_31 rfl (lv_at hl 2 rfl) ?_
        refine va_iald hx hb hAB.1 hP 22 0 rfl rfl h.1 dX9_costNow_32 ?_
        have h := h.2
        refine lv_isub hx hb dX9_costNow_33 ?_
        refine cl_l hD hS hA (va_runV (As := [.int x3_2, .int ((mMo (Int32.toNatClampNeg (12 + x3_2))) - (mMo (Int32.toNatClampNeg x3_2)))]) (rest := [.long x1_1]) ⟨hx, hb, hml, hown, hts⟩ (ct_X9_costOf h H.size) (cwV 2 hts gX9_costNow_X9_costOf rfl rfl rfl (by decide +kernel) ⟨Nat.le_of_ble_eq_true rfl, Nat.le_of_ble_eq_true rfl⟩) ⟨CPre.blind, va_recv hAB.1 hP (ci := 9) (q0 := 0) rfl rfl, wd_pre hAB hP hD hS hA⟩ rfl rfl hl.1 rfl (lv_room (Nat.le_of_ble_eq_true rfl)) dX9_costNow_34 ⟨Nat.zero_le _, Nat.zero_le _⟩) (fun r_5 u H locs h hP hD hS => ?_)
        refine lv_ladd hx hb dX9_costNow_37 ?_
        refine lv_topl (fun x1_6 e_7 => ?_)
        have h := h x1_6 e_7
        refine lv_lstore_n (lv' := [(1, .long x1_6), (0, .ref (ad 0)), (3, .int x3_2)]) hx hb dX9_costNow_38 rfl hl (by decide) rfl (fun ls hl => ?_)
        obtain ⟨x3_8, e_9⟩ : ∃ y : Int32, y = x3_2 + 1 := ⟨_, rfl⟩
        have h := h x3_8 e_9
        refine lv_iinc (v := x3_8) (lv' := [(3, .int x3_8), (1, .long x1_6), (0, .ref (ad 0))]) hx hb dX9_costNow_39 hl (k := 2) rfl (by rw [e_9]; rfl) (by decide) rfl (fun ls hl => ?_)
        refine lv_goto (tgt := 4) hx hb dX9_costNow_42 (by decide) ?_
        exact ih4 x1_6 x3_8 h H locs ls hP hD hS (lv_sub hl [2, 1, 0] rfl)
  obtain ⟨n4, h⟩ := h
  refine L4 _ (fun x1_3 h H locs ls hP hD hS hl => ?_) n4 0 0 h H locs ls hP hD hS (lv_sub hl [2, 1, 0] rfl)
  refine lv_lload_n hx hb dX9_costNow_45 rfl (lv_at hl 0 rfl) ?_
  exact rt_l () hQ hx hb hr hlk hP hD hS ⟨Nat.zero_le _, Nat.zero_le _⟩ dX9_costNow_46 h
def wp_X9_lengthNow_L4 (mMo : Nat → Int32) (pT : Int32) (x4 : (Int32) → Prop) : Nat → (Int32) → (Int32) → Prop
  | 0, _, _ => False
  | n4 + 1, x1_1, x2_2 =>
  ((pT ≤ x2_2 → x4 x1_1) ∧
   (¬ pT ≤ x2_2 → vp_in (12 + x2_2) 24 ∧ ∀ x1_5 : Int32, x1_5 = (if x1_1 < (mMo (Int32.toNatClampNeg (12 + x2_2))) then (mMo (Int32.toNatClampNeg (12 + x2_2))) else x1_1) → ∀ x2_7 : Int32, x2_7 = x2_2 + 1 → (wp_X9_lengthNow_L4 mMo pT x4 n4) x1_5 x2_7))
def wp_X9_lengthNow (pT : Int32) (mMo : Nat → Int32)  (Qp : Int32 → Prop) : Prop :=
  (∃ n4 : Nat, wp_X9_lengthNow_L4 mMo pT (fun (x1_3 : Int32) => Qp x1_3) n4 0 0)
theorem inn_X9_lengthNow_8 : ∀ w ∈ u_ws RX8 TX8 5, w ∈ wsX9_lengthNow := fun _ h => List.mem_cons_of_mem _ (List.mem_append_right _ h)
theorem inn_X9_lengthNow_9 : ∀ w ∈ u_ws RX9 TX9 32, w ∈ wsX9_lengthNow := fun _ h => List.mem_cons_of_mem _ (List.mem_append_left _ (List.mem_append_right _ h))
def rm_X9_lengthNow : Room := { frames := 1, cells := 0, slots := 0, locals := 23 }
set_option maxHeartbeats 4000000 in
set_option maxRecDepth 100000 in
theorem ct_X9_lengthNow {l : Launch} {D : va_G} {cI cJ cZ cE cD cK : ClassId} {ad : Nat → Nat} {ud : Nat → Nat → Nat} {pT : Int32} {pK : Nat → Int32} {pN : Nat → Int32} {pF : Nat → Int32} {pS : Nat → Int32} {qT : Int32} {qK : Nat → Int32} {qN : Nat → Int32} {qF : Nat → Int32} {qS : Nat → Int32} {mKe : Int32} {mUn : Int32} {mFi : Int32} {mRi : Int32} {mBe : Int64} {mWc : Int32} {mAK : Int32} {mSh : Int32} {mIP : Int32} {mUS : Nat → Int32} {mWa : Nat → Int32} {mWi : Nat → Int32} {mSi : Nat → Int32} {mRo : Nat → Int64} {mSp : Nat → Int64} {mRw : Nat → Int32} {mSn : Nat → Int32} {mBg : Nat → Int32} {mLa : Nat → Int32} {mMo : Nat → Int32} {mRm : Nat → Int64} {mOw : Nat → Int64} {mGo : Nat → Int32} {mFr : Nat → Int32} {mQu : Nat → Int32} {mCh : Nat → Int64} {mPB : Nat → Int32} {mPS : Nat → Int32} {mFs : Nat → Int32} {ub : Nat → Nat} {uT : Nat → Int32} {uK : Nat → Nat → Int32} {uN : Nat → Nat → Int32} {uF : Nat → Nat → Int32} {uS : Nat → Nat → Int32}    {Qp : Int32 → Prop}   (h : wp_X9_lengthNow pT mMo Qp) : CTi l yX9_lengthNow wsX9_lengthNow rm_X9_lengthNow D (tyL cI cJ cZ cE cD cK) [.ref (ad 0)] (WM cI cJ cZ cK ad ud pT pK pN pF pS qT qK qN qF qS mKe mUn mFi mRi mBe mWc mAK mSh mIP mUS mWa mWi mSi mRo mSp mRw mSn mBg mLa mMo mRm mOw mGo mFr mQu mCh mPB mPS mFs ub uT uK uN uF uS) (fun (r : Int32) (u : Unit) => Qp r ) (fun u : Unit => (WM cI cJ cZ cK ad ud pT pK pN pF pS qT qK qN qF qS mKe mUn mFi mRi mBe mWc mAK mSh mIP mUS mWa mWi mSi mRo mSp mRw mSn mBg mLa mMo mRm mOw mGo mFr mQu mCh mPB mPS mFs ub uT uK uN uF uS)) 0 0 := by
  refine ent_i (cc := cX9_lengthNow) (maxL := 3) (ret := (some .int)) (by decide) rfl (Nat.le_of_ble_eq_true rfl) ?_
  intro p e s m args below meth c A Q hQ hx hb hr hml hown hts hlk hA hAB hP hD hS ls hl
  have hown : s.vm.findClass RX9 = some m.cls := hown
  have hl : lv_has ls 3 [(0, .ref (ad 0))] := hl
  generalize hH : s.heap = H at hP ⊢
  have hS : va_S A s.heap H [] := by rw [← hH]; exact hS
  clear hH
  generalize ([] : List Loc) = locs at hS ⊢
  refine lv_iconst (v := 0) hx hb dX9_lengthNow_0 (by decide) ?_
  refine lv_istore_n (lv' := [(1, .int 0), (0, .ref (ad 0))]) hx hb dX9_lengthNow_1 rfl hl (by decide) rfl (fun ls hl => ?_)
  refine lv_iconst (v := 0) hx hb dX9_lengthNow_2 (by decide) ?_
  refine lv_istore_n (lv' := [(2, .int 0), (1, .int 0), (0, .ref (ad 0))]) hx hb dX9_lengthNow_3 rfl hl (by decide) rfl (fun ls hl => ?_)
  have L4 : ∀ (x4 : (Int32) → Prop) (hk4 : ∀ (x1_3 : Int32), x4 x1_3 → ∀ (H : Heap) (locs : List Loc) (ls : Array Slot), va_P D vwCl (WM cI cJ cZ cK ad ud pT pK pN pF pS qT qK qN qF qS mKe mUn mFi mRi mBe mWc mAK mSh mIP mUS mWa mWi mSi mRo mSp mRw mSn mBg mLa mMo mRm mOw mGo mFr mQu mCh mPB mPS mFs ub uT uK uN uF uS) H → va_D A (WM cI cJ cZ cK ad ud pT pK pN pF pS qT qK qN qF qS mKe mUn mFi mRi mBe mWc mAK mSh mIP mUS mWa mWi mSi mRo mSp mRw mSn mBg mLa mMo mRm mOw mGo mFr mQu mCh mPB mPS mFs ub uT uK uN uF uS) → va_S A s.heap H locs → lv_has ls 3 [(1, .int x1_3)] → W p l e (headSpec wsX9_lengthNow rm_X9_lengthNow).room s m args below meth c H locs 0 0 Q (F0 m 35 ls [])) (n4 : Nat) (x1_1 : Int32) (x2_2 : Int32), wp_X9_lengthNow_L4 mMo pT x4 n4 x1_1 x2_2 → ∀ (H : Heap) (locs : List Loc) (ls : Array Slot), va_P D vwCl (WM cI cJ cZ cK ad ud pT pK pN pF pS qT qK qN qF qS mKe mUn mFi mRi mBe mWc mAK mSh mIP mUS mWa mWi mSi mRo mSp mRw mSn mBg mLa mMo mRm mOw mGo mFr mQu mCh mPB mPS mFs ub uT uK uN uF uS) H → va_D A (WM cI cJ cZ cK ad ud pT pK pN pF pS qT qK qN qF qS mKe mUn mFi mRi mBe mWc mAK mSh mIP mUS mWa mWi mSi mRo mSp mRw mSn mBg mLa mMo mRm mOw mGo mFr mQu mCh mPB mPS mFs ub uT uK uN uF uS) → va_S A s.heap H locs → lv_has ls 3 [(0, .ref (ad 0)), (1, .int x1_1), (2, .int x2_2)] → W p l e (headSpec wsX9_lengthNow rm_X9_lengthNow).room s m args below meth c H locs 0 0 Q (F0 m 4 ls []) := by
    intro x4 hk4 n4
    induction n4 with
    | zero => intro x1_1 x2_2 h; exact False.elim h
    | succ n4 ih4 =>
      intro x1_1 x2_2 h H locs ls hP hD hS hl
      refine lv_iload_n hx hb dX9_lengthNow_4 rfl (lv_at hl 2 rfl) ?_
      refine lv_aload_n hx hb dX9_lengthNow_5 rfl (lv_at hl 0 rfl) ?_
      refine va_get (D := D) (ci := 9) (C := RX9) (T := TX9) (N := 32) hx hb hts inn_X9_lengthNow_9 hown hAB.1 hP 0 rfl rfl 0 (by decide) (hts (.fieldLink RX9 10 "BarnBenchModel" "b" "LBarnBenchModel$Book;") (by decide +kernel)) (fun _ h9 => h9) rfl dX9_lengthNow_6 ?_
      refine va_get (D := D) (ci := 8) (C := RX8) (T := TX8) (N := 5) hx hb hts inn_X9_lengthNow_8 hown hAB.1 hP 1 rfl rfl 0 (by decide) (hts (.fieldLink RX9 94 "BarnBenchModel$Book" "tasks" "I") (by decide +kernel)) (fun _ h9 => h9) rfl dX9_lengthNow_9 ?_
      refine lv_icmp_ge (tgt := 35) hx hb dX9_lengthNow_12 (by decide) (fun c_4 => ?_) (fun c_4 => ?_)
      · have h := h.1 c_4
        exact hk4 x1_1 h H locs ls hP hD hS (lv_sub hl [1] rfl)
      · have h := h.2 c_4
        refine lv_iload_n hx hb dX9_lengthNow_15 rfl (lv_at hl 1 rfl) ?_
        refine lv_aload_n hx hb dX9_lengthNow_16 rfl (lv_at hl 0 rfl) ?_
        refine va_get (D := D) (ci := 9) (C := RX9) (T := TX9) (N := 32) hx hb hts inn_X9_lengthNow_9 hown hAB.1 hP 0 rfl rfl 19 (by decide) (hts (.fieldLink RX9 60 "BarnBenchModel" "moments" "[I") (by decide +kernel)) (fun _ h9 => h9) rfl dX9_lengthNow_17 ?_
        refine lv_bipush (v := 12) hx hb dX9_lengthNow_20 (by decide) ?_
        refine lv_iload_n hx hb dX9_lengthNow_22 rfl (lv_at hl 2 rfl) ?_
        refine lv_iadd hx hb dX9_lengthNow_23 ?_
        refine va_iald hx hb hAB.1 hP 22 0 rfl rfl h.1 dX9_lengthNow_24 ?_
        have h := h.2
        refine va_mmax (rest := []) hx hb (by rw [hml]; exact hl.1.symm) hown (hts (.methodLink RX9 179 Lib.Math.max.name) (by decide +kernel)) (hts (.static Lib.Math.max.name) (by decide +kernel)) (hts (.initialized "java/lang/Math") (by decide +kernel)) (hts (.code Lib.Math.max.name Lib.Math.max.code 2 (some .int)) (by decide +kernel)) (Nat.le_of_ble_eq_true rfl) (Nat.le_of_ble_eq_true rfl) (Nat.zero_le _) (Nat.zero_le _) dX9_lengthNow_25 ?_
        refine lv_topi (fun x1_5 e_6 => ?_)
        have h := h x1_5 e_6
        refine lv_istore_n (lv' := [(1, .int x1_5), (0, .ref (ad 0)), (2, .int x2_2)]) hx hb dX9_lengthNow_28 rfl hl (by decide) rfl (fun ls hl => ?_)
        obtain ⟨x2_7, e_8⟩ : ∃ y : Int32, y = x2_2 + 1 := ⟨_, rfl⟩
        have h := h x2_7 e_8
        refine lv_iinc (v := x2_7) (lv' := [(2, .int x2_7), (1, .int x1_5), (0, .ref (ad 0))]) hx hb dX9_lengthNow_29 hl (k := 2) rfl (by rw [e_8]; rfl) (by decide) rfl (fun ls hl => ?_)
        refine lv_goto (tgt := 4) hx hb dX9_lengthNow_32 (by decide) ?_
        exact ih4 x1_5 x2_7 h H locs ls hP hD hS (lv_sub hl [2, 1, 0] rfl)
  obtain ⟨n4, h⟩ := h
  refine L4 _ (fun x1_3 h H locs ls hP hD hS hl => ?_) n4 0 0 h H locs ls hP hD hS (lv_sub hl [2, 1, 0] rfl)
  refine lv_iload_n hx hb dX9_lengthNow_35 rfl (lv_at hl 0 rfl) ?_
  exact rt_i () hQ hx hb hr hlk hP hD hS ⟨Nat.zero_le _, Nat.zero_le _⟩ dX9_lengthNow_36 h
def wp_X9_cut_L2  (x2 : (Nat → Int64) → Prop) : Nat → (Int32) → (Nat → Int64) → Prop
  | 0, _, _ => False
  | n2 + 1, x3_1, mRm_2 =>
  ((676 ≤ x3_1 → x2 mRm_2) ∧
   (¬ 676 ≤ x3_1 → vp_in x3_1 676 ∧ ∀ mRm_5 : Nat → Int64, mRm_5 = vp_updL mRm_2 (Int32.toNatClampNeg x3_1) 0 → ∀ x3_7 : Int32, x3_7 = x3_1 + 1 → (wp_X9_cut_L2  x2 n2) x3_7 mRm_5))
def wp_X9_cut_L24  (x24 : (Nat → Int64) → Prop) : Nat → (Int32) → (Nat → Int64) → Prop
  | 0, _, _ => False
  | n24 + 1, x3_9, mOw_10 =>
  ((24 ≤ x3_9 → x24 mOw_10) ∧
   (¬ 24 ≤ x3_9 → vp_in x3_9 24 ∧ ∀ mOw_13 : Nat → Int64, mOw_13 = vp_updL mOw_10 (Int32.toNatClampNeg x3_9) 0 → ∀ x3_15 : Int32, x3_15 = x3_9 + 1 → (wp_X9_cut_L24  x24 n24) x3_15 mOw_13))
def wp_X9_cut_b244 (k159 : (Int32) → (Nat → Int64) → Prop) (x12_35 : Int32) (mRm_36 : Nat → Int64) : Prop :=
  ∀ x12_37 : Int32, x12_37 = x12_35 + 1 → k159 x12_37 mRm_36
def wp_X9_cut_L159 (a1 : Int32) (mMo : Nat → Int32) (pF : Nat → Int32) (pT : Int32) (x3_22 : Int32) (x159 : (Nat → Int64) → Prop) : Nat → (Int32) → (Nat → Int64) → Prop
  | 0, _, _ => False
  | n159 + 1, x12_32, mRm_33 =>
  ((pT ≤ x12_32 → x159 mRm_33) ∧
   (¬ pT ≤ x12_32 → vp_in ((12 * x3_22) + x12_32) 144 ∧ (((pF (Int32.toNatClampNeg ((12 * x3_22) + x12_32))) = 0 → wp_X9_cut_b244 (wp_X9_cut_L159 a1 mMo pF pT x3_22 x159 n159) x12_32 mRm_33) ∧
   (¬ (pF (Int32.toNatClampNeg ((12 * x3_22) + x12_32))) = 0 → vp_in x3_22 24 ∧ vp_in (12 + x12_32) 24 ∧ (((mMo (Int32.toNatClampNeg x3_22)) = (mMo (Int32.toNatClampNeg (12 + x12_32))) → ((a1 ≤ 0 → wp_X9_edge mRm_33 x3_22 (12 + x12_32) 1125899906842624 (fun (mRm_43 : Nat → Int64) => wp_X9_cut_b244 (wp_X9_cut_L159 a1 mMo pF pT x3_22 x159 n159) x12_32 mRm_43)) ∧
   (¬ a1 ≤ 0 → wp_X9_edge mRm_33 (12 + x12_32) x3_22 1125899906842624 (fun (mRm_44 : Nat → Int64) => wp_X9_cut_b244 (wp_X9_cut_L159 a1 mMo pF pT x3_22 x159 n159) x12_32 mRm_44)))) ∧
   (¬ (mMo (Int32.toNatClampNeg x3_22)) = (mMo (Int32.toNatClampNeg (12 + x12_32))) → wp_X9_cut_b244 (wp_X9_cut_L159 a1 mMo pF pT x3_22 x159 n159) x12_32 mRm_33))))))
def wp_X9_cut_b153 (a1 : Int32) (a2 : Int32) (mMo : Nat → Int32) (pF : Nat → Int32) (pT : Int32) (k45 : (Int32) → (Nat → Int64) → (Nat → Int64) → Prop) (y_24 : Int32) (y_25 : Int32) (y_26 : Int64) (y_27 : Int64) (x3_22 : Int32) (x4_23 : Int32) (mRm_28 : Nat → Int64) (mOw_29 : Nat → Int64) : Prop :=
  wp_X9_pair mRm_28 mOw_29 y_24 y_25 y_26 y_27 (fun (mRm_30 : Nat → Int64) (mOw_31 : Nat → Int64) => (∃ n159 : Nat, wp_X9_cut_L159 a1 mMo pF pT x3_22 (fun (mRm_34 : Nat → Int64) => wp_X9_bounds mMo mRm_34 x3_22 a1 a2 (fun (mRm_45 : Nat → Int64) => wp_X9_bounds mMo mRm_45 x4_23 a1 a2 (fun (mRm_46 : Nat → Int64) => ∀ x3_47 : Int32, x3_47 = x3_22 + 1 → k45 x3_47 mRm_46 mOw_31))) n159 0 mRm_30))
def wp_X9_cut_b133 (a1 : Int32) (a2 : Int32) (mMo : Nat → Int32) (pF : Nat → Int32) (pT : Int32) (k45 : (Int32) → (Nat → Int64) → (Nat → Int64) → Prop) (y_53 : Int32) (y_54 : Int32) (y_55 : Int64) (x3_49 : Int32) (x4_50 : Int32) (x6_51 : Int64) (x10_52 : Int64) (mRm_56 : Nat → Int64) (mOw_57 : Nat → Int64) : Prop :=
  (((lg_cmp x10_52 1125899906842624) < 0 → wp_X9_cut_b153 a1 a2 mMo pF pT k45 y_53 y_54 y_55 (x10_52 - x6_51) x3_49 x4_50 mRm_56 mOw_57) ∧
   (¬ (lg_cmp x10_52 1125899906842624) < 0 → wp_X9_cut_b153 a1 a2 mMo pF pT k45 y_53 y_54 y_55 1125899906842624 x3_49 x4_50 mRm_56 mOw_57))
def wp_X9_cut_L45 (a1 : Int32) (a2 : Int32) (mMo : Nat → Int32) (pF : Nat → Int32) (pK : Nat → Int32) (pN : Nat → Int32) (pT : Int32) (x45 : (Nat → Int64) → (Nat → Int64) → Prop) : Nat → (Int32) → (Nat → Int64) → (Nat → Int64) → Prop
  | 0, _, _, _ => False
  | n45 + 1, x3_17, mRm_18, mOw_19 =>
  ((pT ≤ x3_17 → x45 mRm_18 mOw_19) ∧
   (¬ pT ≤ x3_17 → ∀ x4_60 : Int32, x4_60 = (12 + x3_17) → vp_in x4_60 24 ∧ vp_in x3_17 24 ∧ ∀ x5_62 : Int32, x5_62 = ((mMo (Int32.toNatClampNeg x4_60)) - (mMo (Int32.toNatClampNeg x3_17))) → wp_X9_costOf pK pN x3_17 x5_62 (fun (r_64 : Int64) => wp_X9_costOf pK pN x3_17 (x5_62 + a1) (fun (r_65 : Int64) => wp_X9_costOf pK pN x3_17 (x5_62 - a1) (fun (r_66 : Int64) => (((lg_cmp r_65 1125899906842624) < 0 → wp_X9_cut_b133 a1 a2 mMo pF pT (wp_X9_cut_L45 a1 a2 mMo pF pK pN pT x45 n45) x4_60 x3_17 (r_65 - r_64) x3_17 x4_60 r_64 r_66 mRm_18 mOw_19) ∧
   (¬ (lg_cmp r_65 1125899906842624) < 0 → wp_X9_cut_b133 a1 a2 mMo pF pT (wp_X9_cut_L45 a1 a2 mMo pF pK pN pT x45 n45) x4_60 x3_17 1125899906842624 x3_17 x4_60 r_64 r_66 mRm_18 mOw_19)))))))
def wp_X9_cut_b377 (k273 : (Int32) → (Nat → Int64) → Prop) (x3_71 : Int32) (mRm_72 : Nat → Int64) : Prop :=
  ∀ x3_73 : Int32, x3_73 = x3_71 + 1 → k273 x3_73 mRm_72
def wp_X9_cut_b325 (mOw_21 : Nat → Int64) (k273 : (Int32) → (Nat → Int64) → Prop) (x3_75 : Int32) (mRm_76 : Nat → Int64) : Prop :=
  ∀ x4_77 : Int32, x4_77 = (12 + x3_75) → vp_in x4_77 24 ∧ ((0 ≤ (lg_cmp (mOw_21 (Int32.toNatClampNeg x4_77)) 0) → vp_in x4_77 24 ∧ wp_X9_edge mRm_76 x4_77 25 (mOw_21 (Int32.toNatClampNeg x4_77)) (fun (mRm_80 : Nat → Int64) => wp_X9_cut_b377 k273 x3_75 mRm_80)) ∧
   (¬ 0 ≤ (lg_cmp (mOw_21 (Int32.toNatClampNeg x4_77)) 0) → vp_in x4_77 24 ∧ wp_X9_edge mRm_76 24 x4_77 (-(mOw_21 (Int32.toNatClampNeg x4_77))) (fun (mRm_81 : Nat → Int64) => wp_X9_cut_b377 k273 x3_75 mRm_81)))
def wp_X9_cut_L273 (pT : Int32) (mOw_21 : Nat → Int64) (x273 : (Nat → Int64) → Prop) : Nat → (Int32) → (Nat → Int64) → Prop
  | 0, _, _ => False
  | n273 + 1, x3_68, mRm_69 =>
  ((pT ≤ x3_68 → x273 mRm_69) ∧
   (¬ pT ≤ x3_68 → vp_in x3_68 24 ∧ ((0 ≤ (lg_cmp (mOw_21 (Int32.toNatClampNeg x3_68)) 0) → vp_in x3_68 24 ∧ wp_X9_edge mRm_69 x3_68 25 (mOw_21 (Int32.toNatClampNeg x3_68)) (fun (mRm_84 : Nat → Int64) => wp_X9_cut_b325 mOw_21 (wp_X9_cut_L273 pT mOw_21 x273 n273) x3_68 mRm_84)) ∧
   (¬ 0 ≤ (lg_cmp (mOw_21 (Int32.toNatClampNeg x3_68)) 0) → vp_in x3_68 24 ∧ wp_X9_edge mRm_69 24 x3_68 (-(mOw_21 (Int32.toNatClampNeg x3_68))) (fun (mRm_85 : Nat → Int64) => wp_X9_cut_b325 mOw_21 (wp_X9_cut_L273 pT mOw_21 x273 n273) x3_68 mRm_85)))))
def wp_X9_cut_L383  (x383 : (Nat → Int64) → (Nat → Int32) → (Nat → Int32) → (Nat → Int32) → Prop) : Nat → (Nat → Int64) → (Nat → Int32) → (Nat → Int32) → (Nat → Int32) → Prop
  | 0, _, _, _, _ => False
  | n383 + 1, mRm_86, mGo_87, mFr_88, mQu_89 =>
  wp_X9_reaches mRm_86 mGo_87 mFr_88 mQu_89 (fun (r_94 : Int32) (mGo_95 : Nat → Int32) (mFr_96 : Nat → Int32) (mQu_97 : Nat → Int32) => ((r_94 = 0 → x383 mRm_86 mGo_95 mFr_96 mQu_97) ∧
   (¬ r_94 = 0 → wp_X9_push mRm_86 mFr_96 (fun (mRm_99 : Nat → Int64) => (wp_X9_cut_L383  x383 n383) mRm_99 mGo_95 mFr_96 mQu_97))))
def wp_X9_cut_b453 (k402 : (Int32) → (Int32) → (Nat → Int32) → Prop) (y_106 : Int32) (x4_105 : Int32) (mMo_107 : Nat → Int32) : Prop :=
  ∀ x4_108 : Int32, x4_108 = x4_105 + 1 → k402 y_106 x4_108 mMo_107
def wp_X9_cut_b448 (k402 : (Int32) → (Int32) → (Nat → Int32) → Prop) (x4_110 : Int32) (mMo_111 : Nat → Int32) : Prop :=
  wp_X9_cut_b453 k402 1 x4_110 mMo_111
def wp_X9_cut_b432 (mGo_91 : Nat → Int32) (k402 : (Int32) → (Int32) → (Nat → Int32) → Prop) (y_114 : Int32) (y_115 : Int32) (y_116 : Int32) (x3_112 : Int32) (x4_113 : Int32) (mMo_117 : Nat → Int32) : Prop :=
  vp_in y_114 24 ∧ ∀ mMo_118 : Nat → Int32, mMo_118 = upd mMo_117 (Int32.toNatClampNeg y_114) (y_115 + y_116) → ((¬ x3_112 = 0 → wp_X9_cut_b448 k402 x4_113 mMo_118) ∧
   (x3_112 = 0 → vp_in x4_113 26 ∧ (((mGo_91 (Int32.toNatClampNeg x4_113)) = 0 → wp_X9_cut_b453 k402 0 x4_113 mMo_118) ∧
   (¬ (mGo_91 (Int32.toNatClampNeg x4_113)) = 0 → wp_X9_cut_b448 k402 x4_113 mMo_118))))
def wp_X9_cut_L402 (a1 : Int32) (mGo_91 : Nat → Int32) (x402 : (Int32) → (Nat → Int32) → Prop) : Nat → (Int32) → (Int32) → (Nat → Int32) → Prop
  | 0, _, _, _ => False
  | n402 + 1, x3_100, x4_101, mMo_102 =>
  ((24 ≤ x4_101 → x402 x3_100 mMo_102) ∧
   (¬ 24 ≤ x4_101 → vp_in x4_101 24 ∧ vp_in x4_101 26 ∧ (((mGo_91 (Int32.toNatClampNeg x4_101)) = 0 → wp_X9_cut_b432 mGo_91 (wp_X9_cut_L402 a1 mGo_91 x402 n402) x4_101 (mMo_102 (Int32.toNatClampNeg x4_101)) 0 x3_100 x4_101 mMo_102) ∧
   (¬ (mGo_91 (Int32.toNatClampNeg x4_101)) = 0 → wp_X9_cut_b432 mGo_91 (wp_X9_cut_L402 a1 mGo_91 x402 n402) x4_101 (mMo_102 (Int32.toNatClampNeg x4_101)) a1 x3_100 x4_101 mMo_102))))
def wp_X9_cut (pT : Int32) (pK : Nat → Int32) (pN : Nat → Int32) (pF : Nat → Int32) (mMo : Nat → Int32) (mRm : Nat → Int64) (mOw : Nat → Int64) (mGo : Nat → Int32) (mFr : Nat → Int32) (mQu : Nat → Int32) (a1 : Int32) (a2 : Int32) (Qp : Int32 → (Nat → Int32) → (Nat → Int64) → (Nat → Int64) → (Nat → Int32) → (Nat → Int32) → (Nat → Int32) → Prop) : Prop :=
  (∃ n2 : Nat, wp_X9_cut_L2 (fun (mRm_3 : Nat → Int64) => (∃ n24 : Nat, wp_X9_cut_L24 (fun (mOw_11 : Nat → Int64) => (∃ n45 : Nat, wp_X9_cut_L45 a1 a2 mMo pF pK pN pT (fun (mRm_20 : Nat → Int64) (mOw_21 : Nat → Int64) => (∃ n273 : Nat, wp_X9_cut_L273 pT mOw_21 (fun (mRm_70 : Nat → Int64) => (∃ n383 : Nat, wp_X9_cut_L383 (fun (mRm_90 : Nat → Int64) (mGo_91 : Nat → Int32) (mFr_92 : Nat → Int32) (mQu_93 : Nat → Int32) => (∃ n402 : Nat, wp_X9_cut_L402 a1 mGo_91 (fun (x3_103 : Int32) (mMo_104 : Nat → Int32) => (x3_103 = 0 ∨ x3_103 = 1) ∧ Qp x3_103 mMo_104 mRm_90 mOw_21 mGo_91 mFr_92 mQu_93) n402 0 0 mMo)) n383 mRm_70 mGo mFr mQu)) n273 0 mRm_20)) n45 0 mRm_3 mOw_11)) n24 0 mOw)) n2 0 mRm)
theorem inn_X9_cut_8 : ∀ w ∈ u_ws RX8 TX8 5, w ∈ wsX9_cut := fun _ h => List.mem_cons_of_mem _ (List.mem_append_right _ h)
theorem inn_X9_cut_9 : ∀ w ∈ u_ws RX9 TX9 32, w ∈ wsX9_cut := fun _ h => List.mem_cons_of_mem _ (List.mem_append_left _ (List.mem_append_right _ h))
def rm_X9_cut : Room := { frames := 2, cells := 0, slots := 0, locals := 50 }
set_option maxHeartbeats 4000000 in
set_option maxRecDepth 100000 in
theorem ct_X9_cut {l : Launch} {D : va_G} {cI cJ cZ cE cD cK : ClassId} {ad : Nat → Nat} {ud : Nat → Nat → Nat} {pT : Int32} {pK : Nat → Int32} {pN : Nat → Int32} {pF : Nat → Int32} {pS : Nat → Int32} {qT : Int32} {qK : Nat → Int32} {qN : Nat → Int32} {qF : Nat → Int32} {qS : Nat → Int32} {mKe : Int32} {mUn : Int32} {mFi : Int32} {mRi : Int32} {mBe : Int64} {mWc : Int32} {mAK : Int32} {mSh : Int32} {mIP : Int32} {mUS : Nat → Int32} {mWa : Nat → Int32} {mWi : Nat → Int32} {mSi : Nat → Int32} {mRo : Nat → Int64} {mSp : Nat → Int64} {mRw : Nat → Int32} {mSn : Nat → Int32} {mBg : Nat → Int32} {mLa : Nat → Int32} {mMo : Nat → Int32} {mRm : Nat → Int64} {mOw : Nat → Int64} {mGo : Nat → Int32} {mFr : Nat → Int32} {mQu : Nat → Int32} {mCh : Nat → Int64} {mPB : Nat → Int32} {mPS : Nat → Int32} {mFs : Nat → Int32} {ub : Nat → Nat} {uT : Nat → Int32} {uK : Nat → Nat → Int32} {uN : Nat → Nat → Int32} {uF : Nat → Nat → Int32} {uS : Nat → Nat → Int32}   {a1 : Int32} {a2 : Int32} {Qp : Int32 → (Nat → Int32) → (Nat → Int64) → (Nat → Int64) → (Nat → Int32) → (Nat → Int32) → (Nat → Int32) → Prop}   (h : wp_X9_cut pT pK pN pF mMo mRm mOw mGo mFr mQu a1 a2 Qp) : CTi l yX9_cut wsX9_cut rm_X9_cut D (tyL cI cJ cZ cE cD cK) [.ref (ad 0), .int a1, .int a2] (WM cI cJ cZ cK ad ud pT pK pN pF pS qT qK qN qF qS mKe mUn mFi mRi mBe mWc mAK mSh mIP mUS mWa mWi mSi mRo mSp mRw mSn mBg mLa mMo mRm mOw mGo mFr mQu mCh mPB mPS mFs ub uT uK uN uF uS) (fun (r : Int32) (u : (Nat → Int32) × (Nat → Int64) × (Nat → Int64) × (Nat → Int32) × (Nat → Int32) × (Nat → Int32)) => Qp r u.1 u.2.1 u.2.2.1 u.2.2.2.1 u.2.2.2.2.1 u.2.2.2.2.2) (fun u : (Nat → Int32) × (Nat → Int64) × (Nat → Int64) × (Nat → Int32) × (Nat → Int32) × (Nat → Int32) => (WM cI cJ cZ cK ad ud pT pK pN pF pS qT qK qN qF qS mKe mUn mFi mRi mBe mWc mAK mSh mIP mUS mWa mWi mSi mRo mSp mRw mSn mBg mLa u.1 u.2.1 u.2.2.1 u.2.2.2.1 u.2.2.2.2.1 u.2.2.2.2.2 mCh mPB mPS mFs ub uT uK uN uF uS)) 0 0 := by
  refine ent_i (cc := cX9_cut) (maxL := 13) (ret := (some .boolean)) (by decide) rfl (Nat.le_of_ble_eq_true rfl) ?_
  intro p e s m args below meth c A Q hQ hx hb hr hml hown hts hlk hA hAB hP hD hS ls hl
  have hown : s.vm.findClass RX9 = some m.cls := hown
  have hl : lv_has ls 13 [(0, .ref (ad 0)), (1, .int a1), (2, .int a2)] := hl
  generalize hH : s.heap = H at hP ⊢
  have hS : va_S A s.heap H [] := by rw [← hH]; exact hS
  clear hH
  generalize ([] : List Loc) = locs at hS ⊢
  refine lv_iconst (v := 0) hx hb dX9_cut_0 (by decide) ?_
  refine lv_istore_n (lv' := [(3, .int 0), (0, .ref (ad 0)), (1, .int a1), (2, .int a2)]) hx hb dX9_cut_1 rfl hl (by decide) rfl (fun ls hl => ?_)
  have L2 : ∀ (x2 : (Nat → Int64) → Prop) (hk2 : ∀ (mRm_3 : Nat → Int64), x2 mRm_3 → ∀ (H : Heap) (locs : List Loc) (ls : Array Slot), va_P D vwCl (WM cI cJ cZ cK ad ud pT pK pN pF pS qT qK qN qF qS mKe mUn mFi mRi mBe mWc mAK mSh mIP mUS mWa mWi mSi mRo mSp mRw mSn mBg mLa mMo mRm_3 mOw mGo mFr mQu mCh mPB mPS mFs ub uT uK uN uF uS) H → va_D A (WM cI cJ cZ cK ad ud pT pK pN pF pS qT qK qN qF qS mKe mUn mFi mRi mBe mWc mAK mSh mIP mUS mWa mWi mSi mRo mSp mRw mSn mBg mLa mMo mRm_3 mOw mGo mFr mQu mCh mPB mPS mFs ub uT uK uN uF uS) → va_S A s.heap H locs → lv_has ls 13 [(0, .ref (ad 0)), (1, .int a1), (2, .int a2)] → W p l e (headSpec wsX9_cut rm_X9_cut).room s m args below meth c H locs 0 0 Q (F0 m 22 ls [])) (n2 : Nat) (x3_1 : Int32) (mRm_2 : Nat → Int64), wp_X9_cut_L2  x2 n2 x3_1 mRm_2 → ∀ (H : Heap) (locs : List Loc) (ls : Array Slot), va_P D vwCl (WM cI cJ cZ cK ad ud pT pK pN pF pS qT qK qN qF qS mKe mUn mFi mRi mBe mWc mAK mSh mIP mUS mWa mWi mSi mRo mSp mRw mSn mBg mLa mMo mRm_2 mOw mGo mFr mQu mCh mPB mPS mFs ub uT uK uN uF uS) H → va_D A (WM cI cJ cZ cK ad ud pT pK pN pF pS qT qK qN qF qS mKe mUn mFi mRi mBe mWc mAK mSh mIP mUS mWa mWi mSi mRo mSp mRw mSn mBg mLa mMo mRm_2 mOw mGo mFr mQu mCh mPB mPS mFs ub uT uK uN uF uS) → va_S A s.heap H locs → lv_has ls 13 [(0, .ref (ad 0)), (1, .int a1), (2, .int a2), (3, .int x3_1)] → W p l e (headSpec wsX9_cut rm_X9_cut).room s m args below meth c H locs 0 0 Q (F0 m 2 ls []) := by
    intro x2 hk2 n2
    induction n2 with
    | zero => intro x3_1 mRm_2 h; exact False.elim h
    | succ n2 ih2 =>
      intro x3_1 mRm_2 h H locs ls hP hD hS hl
      refine lv_iload_n hx hb dX9_cut_2 rfl (lv_at hl 3 rfl) ?_
      refine lv_sipush (v := 676) hx hb dX9_cut_3 (by decide) ?_
      refine lv_icmp_ge (tgt := 22) hx hb dX9_cut_6 (by decide) (fun c_4 => ?_) (fun c_4 => ?_)
      · have h := h.1 c_4
        exact hk2 mRm_2 h H locs ls hP hD hS (lv_sub hl [0, 1, 2] rfl)
      · have h := h.2 c_4
        refine lv_aload_n hx hb dX9_cut_9 rfl (lv_at hl 0 rfl) ?_
        refine va_get (D := D) (ci := 9) (C := RX9) (T := TX9) (N := 32) hx hb hts inn_X9_cut_9 hown hAB.1 hP 0 rfl rfl 20 (by decide) (hts (.fieldLink RX9 63 "BarnBenchModel" "room" "[J") (by decide +kernel)) (fun _ h9 => h9) rfl dX9_cut_10 ?_
        refine lv_iload_n hx hb dX9_cut_13 rfl (lv_at hl 3 rfl) ?_
        refine lv_lconst (v := 0) hx hb dX9_cut_14 (by decide) ?_
        refine sM_23 hx hb hAB hP hD hS h.1 dX9_cut_15 (fun mRm_5 H locs e_6 hP hD hS => ?_)
        have h := h.2
        have h := h mRm_5 e_6
        obtain ⟨x3_7, e_8⟩ : ∃ y : Int32, y = x3_1 + 1 := ⟨_, rfl⟩
        have h := h x3_7 e_8
        refine lv_iinc (v := x3_7) (lv' := [(3, .int x3_7), (0, .ref (ad 0)), (1, .int a1), (2, .int a2)]) hx hb dX9_cut_16 hl (k := 3) rfl (by rw [e_8]; rfl) (by decide) rfl (fun ls hl => ?_)
        refine lv_goto (tgt := 2) hx hb dX9_cut_19 (by decide) ?_
        exact ih2 x3_7 mRm_5 h H locs ls hP hD hS (lv_sub hl [1, 2, 3, 0] rfl)
  obtain ⟨n2, h⟩ := h
  refine L2 _ (fun mRm_3 h H locs ls hP hD hS hl => ?_) n2 0 mRm h H locs ls hP hD hS (lv_sub hl [1, 2, 3, 0] rfl)
  refine lv_iconst (v := 0) hx hb dX9_cut_22 (by decide) ?_
  refine lv_istore_n (lv' := [(3, .int 0), (0, .ref (ad 0)), (1, .int a1), (2, .int a2)]) hx hb dX9_cut_23 rfl hl (by decide) rfl (fun ls hl => ?_)
  have L24 : ∀ (x24 : (Nat → Int64) → Prop) (hk24 : ∀ (mOw_11 : Nat → Int64), x24 mOw_11 → ∀ (H : Heap) (locs : List Loc) (ls : Array Slot), va_P D vwCl (WM cI cJ cZ cK ad ud pT pK pN pF pS qT qK qN qF qS mKe mUn mFi mRi mBe mWc mAK mSh mIP mUS mWa mWi mSi mRo mSp mRw mSn mBg mLa mMo mRm_3 mOw_11 mGo mFr mQu mCh mPB mPS mFs ub uT uK uN uF uS) H → va_D A (WM cI cJ cZ cK ad ud pT pK pN pF pS qT qK qN qF qS mKe mUn mFi mRi mBe mWc mAK mSh mIP mUS mWa mWi mSi mRo mSp mRw mSn mBg mLa mMo mRm_3 mOw_11 mGo mFr mQu mCh mPB mPS mFs ub uT uK uN uF uS) → va_S A s.heap H locs → lv_has ls 13 [(0, .ref (ad 0)), (1, .int a1), (2, .int a2)] → W p l e (headSpec wsX9_cut rm_X9_cut).room s m args below meth c H locs 0 0 Q (F0 m 43 ls [])) (n24 : Nat) (x3_9 : Int32) (mOw_10 : Nat → Int64), wp_X9_cut_L24  x24 n24 x3_9 mOw_10 → ∀ (H : Heap) (locs : List Loc) (ls : Array Slot), va_P D vwCl (WM cI cJ cZ cK ad ud pT pK pN pF pS qT qK qN qF qS mKe mUn mFi mRi mBe mWc mAK mSh mIP mUS mWa mWi mSi mRo mSp mRw mSn mBg mLa mMo mRm_3 mOw_10 mGo mFr mQu mCh mPB mPS mFs ub uT uK uN uF uS) H → va_D A (WM cI cJ cZ cK ad ud pT pK pN pF pS qT qK qN qF qS mKe mUn mFi mRi mBe mWc mAK mSh mIP mUS mWa mWi mSi mRo mSp mRw mSn mBg mLa mMo mRm_3 mOw_10 mGo mFr mQu mCh mPB mPS mFs ub uT uK uN uF uS) → va_S A s.heap H locs → lv_has ls 13 [(0, .ref (ad 0)), (1, .int a1), (2, .int a2), (3, .int x3_9)] → W p l e (headSpec wsX9_cut rm_X9_cut).room s m args below meth c H locs 0 0 Q (F0 m 24 ls []) := by
    intro x24 hk24 n24
    induction n24 with
    | zero => intro x3_9 mOw_10 h; exact False.elim h
    | succ n24 ih24 =>
      intro x3_9 mOw_10 h H locs ls hP hD hS hl
      refine lv_iload_n hx hb dX9_cut_24 rfl (lv_at hl 3 rfl) ?_
      refine lv_bipush (v := 24) hx hb dX9_cut_25 (by decide) ?_
      refine lv_icmp_ge (tgt := 43) hx hb dX9_cut_27 (by decide) (fun c_12 => ?_) (fun c_12 => ?_)
      · have h := h.1 c_12
        exact hk24 mOw_10 h H locs ls hP hD hS (lv_sub hl [0, 1, 2] rfl)
      · have h := h.2 c_12
        refine lv_aload_n hx hb dX9_cut_30 rfl (lv_at hl 0 rfl) ?_
        refine va_get (D := D) (ci := 9) (C := RX9) (T := TX9) (N := 32) hx hb hts inn_X9_cut_9 hown hAB.1 hP 0 rfl rfl 21 (by decide) (hts (.fieldLink RX9 66 "BarnBenchModel" "own" "[J") (by decide +kernel)) (fun _ h9 => h9) rfl dX9_cut_31 ?_
        refine lv_iload_n hx hb dX9_cut_34 rfl (lv_at hl 3 rfl) ?_
        refine lv_lconst (v := 0) hx hb dX9_cut_35 (by decide) ?_
        refine sM_24 hx hb hAB hP hD hS h.1 dX9_cut_36 (fun mOw_13 H locs e_14 hP hD hS => ?_)
        have h := h.2
        have h := h mOw_13 e_14
        obtain ⟨x3_15, e_16⟩ : ∃ y : Int32, y = x3_9 + 1 := ⟨_, rfl⟩
        have h := h x3_15 e_16
        refine lv_iinc (v := x3_15) (lv' := [(3, .int x3_15), (0, .ref (ad 0)), (1, .int a1), (2, .int a2)]) hx hb dX9_cut_37 hl (k := 3) rfl (by rw [e_16]; rfl) (by decide) rfl (fun ls hl => ?_)
        refine lv_goto (tgt := 24) hx hb dX9_cut_40 (by decide) ?_
        exact ih24 x3_15 mOw_13 h H locs ls hP hD hS (lv_sub hl [1, 2, 3, 0] rfl)
  obtain ⟨n24, h⟩ := h
  refine L24 _ (fun mOw_11 h H locs ls hP hD hS hl => ?_) n24 0 mOw h H locs ls hP hD hS (lv_sub hl [1, 2, 3, 0] rfl)
  refine lv_iconst (v := 0) hx hb dX9_cut_43 (by decide) ?_
  refine lv_istore_n (lv' := [(3, .int 0), (0, .ref (ad 0)), (1, .int a1), (2, .int a2)]) hx hb dX9_cut_44 rfl hl (by decide) rfl (fun ls hl => ?_)
  have L45 : ∀ (x45 : (Nat → Int64) → (Nat → Int64) → Prop) (hk45 : ∀ (mRm_20 : Nat → Int64) (mOw_21 : Nat → Int64), x45 mRm_20 mOw_21 → ∀ (H : Heap) (locs : List Loc) (ls : Array Slot), va_P D vwCl (WM cI cJ cZ cK ad ud pT pK pN pF pS qT qK qN qF qS mKe mUn mFi mRi mBe mWc mAK mSh mIP mUS mWa mWi mSi mRo mSp mRw mSn mBg mLa mMo mRm_20 mOw_21 mGo mFr mQu mCh mPB mPS mFs ub uT uK uN uF uS) H → va_D A (WM cI cJ cZ cK ad ud pT pK pN pF pS qT qK qN qF qS mKe mUn mFi mRi mBe mWc mAK mSh mIP mUS mWa mWi mSi mRo mSp mRw mSn mBg mLa mMo mRm_20 mOw_21 mGo mFr mQu mCh mPB mPS mFs ub uT uK uN uF uS) → va_S A s.heap H locs → lv_has ls 13 [(0, .ref (ad 0)), (1, .int a1)] → W p l e (headSpec wsX9_cut rm_X9_cut).room s m args below meth c H locs 0 0 Q (F0 m 271 ls [])) (n45 : Nat) (x3_17 : Int32) (mRm_18 : Nat → Int64) (mOw_19 : Nat → Int64), wp_X9_cut_L45 a1 a2 mMo pF pK pN pT x45 n45 x3_17 mRm_18 mOw_19 → ∀ (H : Heap) (locs : List Loc) (ls : Array Slot), va_P D vwCl (WM cI cJ cZ cK ad ud pT pK pN pF pS qT qK qN qF qS mKe mUn mFi mRi mBe mWc mAK mSh mIP mUS mWa mWi mSi mRo mSp mRw mSn mBg mLa mMo mRm_18 mOw_19 mGo mFr mQu mCh mPB mPS mFs ub uT uK uN uF uS) H → va_D A (WM cI cJ cZ cK ad ud pT pK pN pF pS qT qK qN qF qS mKe mUn mFi mRi mBe mWc mAK mSh mIP mUS mWa mWi mSi mRo mSp mRw mSn mBg mLa mMo mRm_18 mOw_19 mGo mFr mQu mCh mPB mPS mFs ub uT uK uN uF uS) → va_S A s.heap H locs → lv_has ls 13 [(0, .ref (ad 0)), (1, .int a1), (2, .int a2), (3, .int x3_17)] → W p l e (headSpec wsX9_cut rm_X9_cut).room s m args below meth c H locs 0 0 Q (F0 m 45 ls []) := by
    intro x45 hk45 n45
    induction n45 with
    | zero => intro x3_17 mRm_18 mOw_19 h; exact False.elim h
    | succ n45 ih45 =>
      intro x3_17 mRm_18 mOw_19 h H locs ls hP hD hS hl
      have B153 : ∀ (y_24 : Int32) (y_25 : Int32) (y_26 : Int64) (y_27 : Int64) (x3_22 : Int32) (x4_23 : Int32) (mRm_28 : Nat → Int64) (mOw_29 : Nat → Int64), wp_X9_cut_b153 a1 a2 mMo pF pT (wp_X9_cut_L45 a1 a2 mMo pF pK pN pT x45 n45) y_24 y_25 y_26 y_27 x3_22 x4_23 mRm_28 mOw_29 → ∀ (H : Heap) (locs : List Loc) (ls : Array Slot), va_P D vwCl (WM cI cJ cZ cK ad ud pT pK pN pF pS qT qK qN qF qS mKe mUn mFi mRi mBe mWc mAK mSh mIP mUS mWa mWi mSi mRo mSp mRw mSn mBg mLa mMo mRm_28 mOw_29 mGo mFr mQu mCh mPB mPS mFs ub uT uK uN uF uS) H → va_D A (WM cI cJ cZ cK ad ud pT pK pN pF pS qT qK qN qF qS mKe mUn mFi mRi mBe mWc mAK mSh mIP mUS mWa mWi mSi mRo mSp mRw mSn mBg mLa mMo mRm_28 mOw_29 mGo mFr mQu mCh mPB mPS mFs ub uT uK uN uF uS) → va_S A s.heap H locs → lv_has ls 13 [(0, .ref (ad 0)), (1, .int a1), (2, .int a2), (3, .int x3_22), (4, .int x4_23)] → W p l e (headSpec wsX9_cut rm_X9_cut).room s m args below meth c H locs 0 0 Q (F0 m 153 ls [.long y_27, .long y_26, .int y_25, .int y_24, .ref (ad 0)]) := by
        intro y_24 y_25 y_26 y_27 x3_22 x4_23 mRm_28 mOw_29 h H locs ls hP hD hS hl
        refine cl_v hD hS hA (va_runV (As := [.int y_24, .int y_25, .long y_26, .long y_27]) (rest := []) ⟨hx, hb, hml, hown, hts⟩ (ct_X9_pair h H.size) (cwV 4 hts gX9_cut_X9_pair rfl rfl rfl (by decide +kernel) ⟨Nat.le_of_ble_eq_true rfl, Nat.le_of_ble_eq_true rfl⟩) ⟨CPre.blind, va_recv hAB.1 hP (ci := 9) (q0 := 0) rfl rfl, wd_pre hAB hP hD hS hA⟩ rfl rfl hl.1 rfl (lv_room (Nat.le_of_ble_eq_true rfl)) dX9_cut_153 ⟨Nat.zero_le _, Nat.zero_le _⟩) (fun u H locs h hP hD hS => ?_)
        obtain ⟨mRm_30, mOw_31⟩ := u
        have hP : va_P D vwCl (WM cI cJ cZ cK ad ud pT pK pN pF pS qT qK qN qF qS mKe mUn mFi mRi mBe mWc mAK mSh mIP mUS mWa mWi mSi mRo mSp mRw mSn mBg mLa mMo mRm_30 mOw_31 mGo mFr mQu mCh mPB mPS mFs ub uT uK uN uF uS) H := hP
        have hD : va_D A (WM cI cJ cZ cK ad ud pT pK pN pF pS qT qK qN qF qS mKe mUn mFi mRi mBe mWc mAK mSh mIP mUS mWa mWi mSi mRo mSp mRw mSn mBg mLa mMo mRm_30 mOw_31 mGo mFr mQu mCh mPB mPS mFs ub uT uK uN uF uS) := hD
        refine lv_iconst (v := 0) hx hb dX9_cut_156 (by decide) ?_
        refine lv_istore (lv' := [(12, .int 0), (0, .ref (ad 0)), (1, .int a1), (2, .int a2), (3, .int x3_22), (4, .int x4_23)]) hx hb dX9_cut_157 hl (by decide) rfl (fun ls hl => ?_)
        have L159 : ∀ (x159 : (Nat → Int64) → Prop) (hk159 : ∀ (mRm_34 : Nat → Int64), x159 mRm_34 → ∀ (H : Heap) (locs : List Loc) (ls : Array Slot), va_P D vwCl (WM cI cJ cZ cK ad ud pT pK pN pF pS qT qK qN qF qS mKe mUn mFi mRi mBe mWc mAK mSh mIP mUS mWa mWi mSi mRo mSp mRw mSn mBg mLa mMo mRm_34 mOw_31 mGo mFr mQu mCh mPB mPS mFs ub uT uK uN uF uS) H → va_D A (WM cI cJ cZ cK ad ud pT pK pN pF pS qT qK qN qF qS mKe mUn mFi mRi mBe mWc mAK mSh mIP mUS mWa mWi mSi mRo mSp mRw mSn mBg mLa mMo mRm_34 mOw_31 mGo mFr mQu mCh mPB mPS mFs ub uT uK uN uF uS) → va_S A s.heap H locs → lv_has ls 13 [(0, .ref (ad 0)), (1, .int a1), (2, .int a2), (3, .int x3_22), (4, .int x4_23)] → W p l e (headSpec wsX9_cut rm_X9_cut).room s m args below meth c H locs 0 0 Q (F0 m 250 ls [])) (n159 : Nat) (x12_32 : Int32) (mRm_33 : Nat → Int64), wp_X9_cut_L159 a1 mMo pF pT x3_22 x159 n159 x12_32 mRm_33 → ∀ (H : Heap) (locs : List Loc) (ls : Array Slot), va_P D vwCl (WM cI cJ cZ cK ad ud pT pK pN pF pS qT qK qN qF qS mKe mUn mFi mRi mBe mWc mAK mSh mIP mUS mWa mWi mSi mRo mSp mRw mSn mBg mLa mMo mRm_33 mOw_31 mGo mFr mQu mCh mPB mPS mFs ub uT uK uN uF uS) H → va_D A (WM cI cJ cZ cK ad ud pT pK pN pF pS qT qK qN qF qS mKe mUn mFi mRi mBe mWc mAK mSh mIP mUS mWa mWi mSi mRo mSp mRw mSn mBg mLa mMo mRm_33 mOw_31 mGo mFr mQu mCh mPB mPS mFs ub uT uK uN uF uS) → va_S A s.heap H locs → lv_has ls 13 [(0, .ref (ad 0)), (1, .int a1), (2, .int a2), (3, .int x3_22), (4, .int x4_23), (12, .int x12_32)] → W p l e (headSpec wsX9_cut rm_X9_cut).room s m args below meth c H locs 0 0 Q (F0 m 159 ls []) := by
          intro x159 hk159 n159
          induction n159 with
          | zero => intro x12_32 mRm_33 h; exact False.elim h
          | succ n159 ih159 =>
            intro x12_32 mRm_33 h H locs ls hP hD hS hl
            have B244 : ∀ (x12_35 : Int32) (mRm_36 : Nat → Int64), wp_X9_cut_b244 (wp_X9_cut_L159 a1 mMo pF pT x3_22 x159 n159) x12_35 mRm_36 → ∀ (H : Heap) (locs : List Loc) (ls : Array Slot), va_P D vwCl (WM cI cJ cZ cK ad ud pT pK pN pF pS qT qK qN qF qS mKe mUn mFi mRi mBe mWc mAK mSh mIP mUS mWa mWi mSi mRo mSp mRw mSn mBg mLa mMo mRm_36 mOw_31 mGo mFr mQu mCh mPB mPS mFs ub uT uK uN uF uS) H → va_D A (WM cI cJ cZ cK ad ud pT pK pN pF pS qT qK qN qF qS mKe mUn mFi mRi mBe mWc mAK mSh mIP mUS mWa mWi mSi mRo mSp mRw mSn mBg mLa mMo mRm_36 mOw_31 mGo mFr mQu mCh mPB mPS mFs ub uT uK uN uF uS) → va_S A s.heap H locs → lv_has ls 13 [(0, .ref (ad 0)), (1, .int a1), (2, .int a2), (3, .int x3_22), (4, .int x4_23), (12, .int x12_35)] → W p l e (headSpec wsX9_cut rm_X9_cut).room s m args below meth c H locs 0 0 Q (F0 m 244 ls []) := by
              intro x12_35 mRm_36 h H locs ls hP hD hS hl
              obtain ⟨x12_37, e_38⟩ : ∃ y : Int32, y = x12_35 + 1 := ⟨_, rfl⟩
              have h := h x12_37 e_38
              refine lv_iinc (v := x12_37) (lv' := [(12, .int x12_37), (0, .ref (ad 0)), (1, .int a1), (2, .int a2), (3, .int x3_22), (4, .int x4_23)]) hx hb dX9_cut_244 hl (k := 5) rfl (by rw [e_38]; rfl) (by decide) rfl (fun ls hl => ?_)
              refine lv_goto (tgt := 159) hx hb dX9_cut_247 (by decide) ?_
              exact ih159 x12_37 mRm_36 h H locs ls hP hD hS (lv_sub hl [1, 2, 3, 4, 5, 0] rfl)
            refine lv_iload hx hb dX9_cut_159 (lv_at hl 5 rfl) ?_
            refine lv_aload_n hx hb dX9_cut_161 rfl (lv_at hl 0 rfl) ?_
            refine va_get (D := D) (ci := 9) (C := RX9) (T := TX9) (N := 32) hx hb hts inn_X9_cut_9 hown hAB.1 hP 0 rfl rfl 0 (by decide) (hts (.fieldLink RX9 10 "BarnBenchModel" "b" "LBarnBenchModel$Book;") (by decide +kernel)) (fun _ h9 => h9) rfl dX9_cut_162 ?_
            refine va_get (D := D) (ci := 8) (C := RX8) (T := TX8) (N := 5) hx hb hts inn_X9_cut_8 hown hAB.1 hP 1 rfl rfl 0 (by decide) (hts (.fieldLink RX9 94 "BarnBenchModel$Book" "tasks" "I") (by decide +kernel)) (fun _ h9 => h9) rfl dX9_cut_165 ?_
            refine lv_icmp_ge (tgt := 250) hx hb dX9_cut_168 (by decide) (fun c_39 => ?_) (fun c_39 => ?_)
            · have h := h.1 c_39
              exact hk159 mRm_33 h H locs ls hP hD hS (lv_sub hl [0, 1, 2, 3, 4] rfl)
            · have h := h.2 c_39
              refine lv_aload_n hx hb dX9_cut_171 rfl (lv_at hl 0 rfl) ?_
              refine va_get (D := D) (ci := 9) (C := RX9) (T := TX9) (N := 32) hx hb hts inn_X9_cut_9 hown hAB.1 hP 0 rfl rfl 0 (by decide) (hts (.fieldLink RX9 10 "BarnBenchModel" "b" "LBarnBenchModel$Book;") (by decide +kernel)) (fun _ h9 => h9) rfl dX9_cut_172 ?_
              refine va_get (D := D) (ci := 8) (C := RX8) (T := TX8) (N := 5) hx hb hts inn_X9_cut_8 hown hAB.1 hP 1 rfl rfl 3 (by decide) (hts (.fieldLink RX9 147 "BarnBenchModel$Book" "follows" "[Z") (by decide +kernel)) (fun _ h9 => h9) rfl dX9_cut_175 ?_
              refine lv_bipush (v := 12) hx hb dX9_cut_178 (by decide) ?_
              refine lv_iload_n hx hb dX9_cut_180 rfl (lv_at hl 3 rfl) ?_
              refine lv_imul hx hb dX9_cut_181 ?_
              refine lv_iload hx hb dX9_cut_182 (lv_at hl 5 rfl) ?_
              refine lv_iadd hx hb dX9_cut_184 ?_
              refine va_zald hx hb hAB.1 hP 4 2 rfl rfl h.1 dX9_cut_185 ?_
              have h := h.2
              refine lv_if_eq (tgt := 244) hx hb dX9_cut_186 (by decide) (fun c_40 => ?_) (fun c_40 => ?_)
              · have h := h.1 c_40
                exact B244 x12_32 mRm_33 h H locs ls hP hD hS (lv_sub hl [0, 1, 2, 3, 4, 5] rfl)
              · have h := h.2 c_40
                refine lv_aload_n hx hb dX9_cut_189 rfl (lv_at hl 0 rfl) ?_
                refine va_get (D := D) (ci := 9) (C := RX9) (T := TX9) (N := 32) hx hb hts inn_X9_cut_9 hown hAB.1 hP 0 rfl rfl 19 (by decide) (hts (.fieldLink RX9 60 "BarnBenchModel" "moments" "[I") (by decide +kernel)) (fun _ h9 => h9) rfl dX9_cut_190 ?_
                refine lv_iload_n hx hb dX9_cut_193 rfl (lv_at hl 3 rfl) ?_
                refine va_iald hx hb hAB.1 hP 22 0 rfl rfl h.1 dX9_cut_194 ?_
                have h := h.2
                refine lv_aload_n hx hb dX9_cut_195 rfl (lv_at hl 0 rfl) ?_
                refine va_get (D := D) (ci := 9) (C := RX9) (T := TX9) (N := 32) hx hb hts inn_X9_cut_9 hown hAB.1 hP 0 rfl rfl 19 (by decide) (hts (.fieldLink RX9 60 "BarnBenchModel" "moments" "[I") (by decide +kernel)) (fun _ h9 => h9) rfl dX9_cut_196 ?_
                refine lv_bipush (v := 12) hx hb dX9_cut_199 (by decide) ?_
                refine lv_iload hx hb dX9_cut_201 (lv_at hl 5 rfl) ?_
                refine lv_iadd hx hb dX9_cut_203 ?_
                refine va_iald hx hb hAB.1 hP 22 0 rfl rfl h.1 dX9_cut_204 ?_
                have h := h.2
                refine lv_icmp_eq (tgt := 211) hx hb dX9_cut_205 (by decide) (fun c_41 => ?_) (fun c_41 => ?_)
                · have h := h.1 c_41
                  refine lv_iload_n hx hb dX9_cut_211 rfl (lv_at hl 1 rfl) ?_
                  refine lv_if_le (tgt := 231) hx hb dX9_cut_212 (by decide) (fun c_42 => ?_) (fun c_42 => ?_)
                  · have h := h.1 c_42
                    refine lv_aload_n hx hb dX9_cut_231 rfl (lv_at hl 0 rfl) ?_
                    refine lv_iload_n hx hb dX9_cut_232 rfl (lv_at hl 3 rfl) ?_
                    refine lv_bipush (v := 12) hx hb dX9_cut_233 (by decide) ?_
                    refine lv_iload hx hb dX9_cut_235 (lv_at hl 5 rfl) ?_
                    refine lv_iadd hx hb dX9_cut_237 ?_
                    refine lv_ldc2 (v := 1125899906842624) hx hb hown (hts (.constantLong RX9 197 1125899906842624) (by decide +kernel)) dX9_cut_238 ?_
                    refine cl_v hD hS hA (va_runV (As := [.int x3_22, .int (12 + x12_32), .long 1125899906842624]) (rest := []) ⟨hx, hb, hml, hown, hts⟩ (ct_X9_edge h H.size) (cwV 3 hts gX9_cut_X9_edge rfl rfl rfl (by decide +kernel) ⟨Nat.le_of_ble_eq_true rfl, Nat.le_of_ble_eq_true rfl⟩) ⟨CPre.blind, va_recv hAB.1 hP (ci := 9) (q0 := 0) rfl rfl, wd_pre hAB hP hD hS hA⟩ rfl rfl hl.1 rfl (lv_room (Nat.le_of_ble_eq_true rfl)) dX9_cut_241 ⟨Nat.zero_le _, Nat.zero_le _⟩) (fun mRm_43 H locs h hP hD hS => ?_)
                    have hP : va_P D vwCl (WM cI cJ cZ cK ad ud pT pK pN pF pS qT qK qN qF qS mKe mUn mFi mRi mBe mWc mAK mSh mIP mUS mWa mWi mSi mRo mSp mRw mSn mBg mLa mMo mRm_43 mOw_31 mGo mFr mQu mCh mPB mPS mFs ub uT uK uN uF uS) H := hP
                    have hD : va_D A (WM cI cJ cZ cK ad ud pT pK pN pF pS qT qK qN qF qS mKe mUn mFi mRi mBe mWc mAK mSh mIP mUS mWa mWi mSi mRo mSp mRw mSn mBg mLa mMo mRm_43 mOw_31 mGo mFr mQu mCh mPB mPS mFs ub uT uK uN uF uS) := hD
                    exact B244 x12_32 mRm_43 h H locs ls hP hD hS (lv_sub hl [0, 1, 2, 3, 4, 5] rfl)
                  · have h := h.2 c_42
                    refine lv_aload_n hx hb dX9_cut_215 rfl (lv_at hl 0 rfl) ?_
                    refine lv_bipush (v := 12) hx hb dX9_cut_216 (by decide) ?_
                    refine lv_iload hx hb dX9_cut_218 (lv_at hl 5 rfl) ?_
                    refine lv_iadd hx hb dX9_cut_220 ?_
                    refine lv_iload_n hx hb dX9_cut_221 rfl (lv_at hl 3 rfl) ?_
                    refine lv_ldc2 (v := 1125899906842624) hx hb hown (hts (.constantLong RX9 197 1125899906842624) (by decide +kernel)) dX9_cut_222 ?_
                    refine cl_v hD hS hA (va_runV (As := [.int (12 + x12_32), .int x3_22, .long 1125899906842624]) (rest := []) ⟨hx, hb, hml, hown, hts⟩ (ct_X9_edge h H.size) (cwV 3 hts gX9_cut_X9_edge rfl rfl rfl (by decide +kernel) ⟨Nat.le_of_ble_eq_true rfl, Nat.le_of_ble_eq_true rfl⟩) ⟨CPre.blind, va_recv hAB.1 hP (ci := 9) (q0 := 0) rfl rfl, wd_pre hAB hP hD hS hA⟩ rfl rfl hl.1 rfl (lv_room (Nat.le_of_ble_eq_true rfl)) dX9_cut_225 ⟨Nat.zero_le _, Nat.zero_le _⟩) (fun mRm_44 H locs h hP hD hS => ?_)
                    have hP : va_P D vwCl (WM cI cJ cZ cK ad ud pT pK pN pF pS qT qK qN qF qS mKe mUn mFi mRi mBe mWc mAK mSh mIP mUS mWa mWi mSi mRo mSp mRw mSn mBg mLa mMo mRm_44 mOw_31 mGo mFr mQu mCh mPB mPS mFs ub uT uK uN uF uS) H := hP
                    have hD : va_D A (WM cI cJ cZ cK ad ud pT pK pN pF pS qT qK qN qF qS mKe mUn mFi mRi mBe mWc mAK mSh mIP mUS mWa mWi mSi mRo mSp mRw mSn mBg mLa mMo mRm_44 mOw_31 mGo mFr mQu mCh mPB mPS mFs ub uT uK uN uF uS) := hD
                    refine lv_goto (tgt := 244) hx hb dX9_cut_228 (by decide) ?_
                    exact B244 x12_32 mRm_44 h H locs ls hP hD hS (lv_sub hl [0, 1, 2, 3, 4, 5] rfl)
                · have h := h.2 c_41
                  refine lv_goto (tgt := 244) hx hb dX9_cut_208 (by decide) ?_
                  exact B244 x12_32 mRm_33 h H locs ls hP hD hS (lv_sub hl [0, 1, 2, 3, 4, 5] rfl)
        obtain ⟨n159, h⟩ := h
        refine L159 _ (fun mRm_34 h H locs ls hP hD hS hl => ?_) n159 0 mRm_30 h H locs ls hP hD hS (lv_sub hl [1, 2, 3, 4, 5, 0] rfl)
        refine lv_aload_n hx hb dX9_cut_250 rfl (lv_at hl 0 rfl) ?_
        refine lv_iload_n hx hb dX9_cut_251 rfl (lv_at hl 3 rfl) ?_
        refine lv_iload_n hx hb dX9_cut_252 rfl (lv_at hl 1 rfl) ?_
        refine lv_iload_n hx hb dX9_cut_253 rfl (lv_at hl 2 rfl) ?_
        refine cl_v hD hS hA (va_runV (As := [.int x3_22, .int a1, .int a2]) (rest := []) ⟨hx, hb, hml, hown, hts⟩ (ct_X9_bounds h H.size) (cwV 3 hts gX9_cut_X9_bounds rfl rfl rfl (by decide +kernel) ⟨Nat.le_of_ble_eq_true rfl, Nat.le_of_ble_eq_true rfl⟩) ⟨CPre.blind, va_recv hAB.1 hP (ci := 9) (q0 := 0) rfl rfl, wd_pre hAB hP hD hS hA⟩ rfl rfl hl.1 rfl (lv_room (Nat.le_of_ble_eq_true rfl)) dX9_cut_254 ⟨Nat.zero_le _, Nat.zero_le _⟩) (fun mRm_45 H locs h hP hD hS => ?_)
        have hP : va_P D vwCl (WM cI cJ cZ cK ad ud pT pK pN pF pS qT qK qN qF qS mKe mUn mFi mRi mBe mWc mAK mSh mIP mUS mWa mWi mSi mRo mSp mRw mSn mBg mLa mMo mRm_45 mOw_31 mGo mFr mQu mCh mPB mPS mFs ub uT uK uN uF uS) H := hP
        have hD : va_D A (WM cI cJ cZ cK ad ud pT pK pN pF pS qT qK qN qF qS mKe mUn mFi mRi mBe mWc mAK mSh mIP mUS mWa mWi mSi mRo mSp mRw mSn mBg mLa mMo mRm_45 mOw_31 mGo mFr mQu mCh mPB mPS mFs ub uT uK uN uF uS) := hD
        refine lv_aload_n hx hb dX9_cut_257 rfl (lv_at hl 0 rfl) ?_
        refine lv_iload hx hb dX9_cut_258 (lv_at hl 4 rfl) ?_
        refine lv_iload_n hx hb dX9_cut_260 rfl (lv_at hl 1 rfl) ?_
        refine lv_iload_n hx hb dX9_cut_261 rfl (lv_at hl 2 rfl) ?_
        refine cl_v hD hS hA (va_runV (As := [.int x4_23, .int a1, .int a2]) (rest := []) ⟨hx, hb, hml, hown, hts⟩ (ct_X9_bounds h H.size) (cwV 3 hts gX9_cut_X9_bounds rfl rfl rfl (by decide +kernel) ⟨Nat.le_of_ble_eq_true rfl, Nat.le_of_ble_eq_true rfl⟩) ⟨CPre.blind, va_recv hAB.1 hP (ci := 9) (q0 := 0) rfl rfl, wd_pre hAB hP hD hS hA⟩ rfl rfl hl.1 rfl (lv_room (Nat.le_of_ble_eq_true rfl)) dX9_cut_262 ⟨Nat.zero_le _, Nat.zero_le _⟩) (fun mRm_46 H locs h hP hD hS => ?_)
        have hP : va_P D vwCl (WM cI cJ cZ cK ad ud pT pK pN pF pS qT qK qN qF qS mKe mUn mFi mRi mBe mWc mAK mSh mIP mUS mWa mWi mSi mRo mSp mRw mSn mBg mLa mMo mRm_46 mOw_31 mGo mFr mQu mCh mPB mPS mFs ub uT uK uN uF uS) H := hP
        have hD : va_D A (WM cI cJ cZ cK ad ud pT pK pN pF pS qT qK qN qF qS mKe mUn mFi mRi mBe mWc mAK mSh mIP mUS mWa mWi mSi mRo mSp mRw mSn mBg mLa mMo mRm_46 mOw_31 mGo mFr mQu mCh mPB mPS mFs ub uT uK uN uF uS) := hD
        obtain ⟨x3_47, e_48⟩ : ∃ y : Int32, y = x3_22 + 1 := ⟨_, rfl⟩
        have h := h x3_47 e_48
        refine lv_iinc (v := x3_47) (lv' := [(3, .int x3_47), (0, .ref (ad 0)), (1, .int a1), (2, .int a2), (4, .int x4_23)]) hx hb dX9_cut_265 hl (k := 3) rfl (by rw [e_48]; rfl) (by decide) rfl (fun ls hl => ?_)
        refine lv_goto (tgt := 45) hx hb dX9_cut_268 (by decide) ?_
        exact ih45 x3_47 mRm_46 mOw_31 h H locs ls hP hD hS (lv_sub hl [1, 2, 3, 0] rfl)
      have B133 : ∀ (y_53 : Int32) (y_54 : Int32) (y_55 : Int64) (x3_49 : Int32) (x4_50 : Int32) (x6_51 : Int64) (x10_52 : Int64) (mRm_56 : Nat → Int64) (mOw_57 : Nat → Int64), wp_X9_cut_b133 a1 a2 mMo pF pT (wp_X9_cut_L45 a1 a2 mMo pF pK pN pT x45 n45) y_53 y_54 y_55 x3_49 x4_50 x6_51 x10_52 mRm_56 mOw_57 → ∀ (H : Heap) (locs : List Loc) (ls : Array Slot), va_P D vwCl (WM cI cJ cZ cK ad ud pT pK pN pF pS qT qK qN qF qS mKe mUn mFi mRi mBe mWc mAK mSh mIP mUS mWa mWi mSi mRo mSp mRw mSn mBg mLa mMo mRm_56 mOw_57 mGo mFr mQu mCh mPB mPS mFs ub uT uK uN uF uS) H → va_D A (WM cI cJ cZ cK ad ud pT pK pN pF pS qT qK qN qF qS mKe mUn mFi mRi mBe mWc mAK mSh mIP mUS mWa mWi mSi mRo mSp mRw mSn mBg mLa mMo mRm_56 mOw_57 mGo mFr mQu mCh mPB mPS mFs ub uT uK uN uF uS) → va_S A s.heap H locs → lv_has ls 13 [(0, .ref (ad 0)), (1, .int a1), (2, .int a2), (3, .int x3_49), (4, .int x4_50), (6, .long x6_51), (10, .long x10_52)] → W p l e (headSpec wsX9_cut rm_X9_cut).room s m args below meth c H locs 0 0 Q (F0 m 133 ls [.long y_55, .int y_54, .int y_53, .ref (ad 0)]) := by
        intro y_53 y_54 y_55 x3_49 x4_50 x6_51 x10_52 mRm_56 mOw_57 h H locs ls hP hD hS hl
        refine lv_lload hx hb dX9_cut_133 (lv_at hl 6 rfl) ?_
        refine lv_ldc2 (v := 1125899906842624) hx hb hown (hts (.constantLong RX9 197 1125899906842624) (by decide +kernel)) dX9_cut_135 ?_
        refine W.lcmp hx hb dX9_cut_138 ?_
        refine lv_if_lt (tgt := 148) hx hb dX9_cut_139 (by decide) (fun c_58 => ?_) (fun c_58 => ?_)
        · have h := h.1 c_58
          refine lv_lload hx hb dX9_cut_148 (lv_at hl 6 rfl) ?_
          refine lv_lload hx hb dX9_cut_150 (lv_at hl 5 rfl) ?_
          refine lv_lsub hx hb dX9_cut_152 ?_
          exact B153 y_53 y_54 y_55 (x10_52 - x6_51) x3_49 x4_50 mRm_56 mOw_57 h H locs ls hP hD hS (lv_sub hl [0, 1, 2, 3, 4] rfl)
        · have h := h.2 c_58
          refine lv_ldc2 (v := 1125899906842624) hx hb hown (hts (.constantLong RX9 197 1125899906842624) (by decide +kernel)) dX9_cut_142 ?_
          refine lv_goto (tgt := 153) hx hb dX9_cut_145 (by decide) ?_
          exact B153 y_53 y_54 y_55 1125899906842624 x3_49 x4_50 mRm_56 mOw_57 h H locs ls hP hD hS (lv_sub hl [0, 1, 2, 3, 4] rfl)
      refine lv_iload_n hx hb dX9_cut_45 rfl (lv_at hl 3 rfl) ?_
      refine lv_aload_n hx hb dX9_cut_46 rfl (lv_at hl 0 rfl) ?_
      refine va_get (D := D) (ci := 9) (C := RX9) (T := TX9) (N := 32) hx hb hts inn_X9_cut_9 hown hAB.1 hP 0 rfl rfl 0 (by decide) (hts (.fieldLink RX9 10 "BarnBenchModel" "b" "LBarnBenchModel$Book;") (by decide +kernel)) (fun _ h9 => h9) rfl dX9_cut_47 ?_
      refine va_get (D := D) (ci := 8) (C := RX8) (T := TX8) (N := 5) hx hb hts inn_X9_cut_8 hown hAB.1 hP 1 rfl rfl 0 (by decide) (hts (.fieldLink RX9 94 "BarnBenchModel$Book" "tasks" "I") (by decide +kernel)) (fun _ h9 => h9) rfl dX9_cut_50 ?_
      refine lv_icmp_ge (tgt := 271) hx hb dX9_cut_53 (by decide) (fun c_59 => ?_) (fun c_59 => ?_)
      · have h := h.1 c_59
        exact hk45 mRm_18 mOw_19 h H locs ls hP hD hS (lv_sub hl [0, 1] rfl)
      · have h := h.2 c_59
        refine lv_bipush (v := 12) hx hb dX9_cut_56 (by decide) ?_
        refine lv_iload_n hx hb dX9_cut_58 rfl (lv_at hl 3 rfl) ?_
        refine lv_iadd hx hb dX9_cut_59 ?_
        refine lv_topi (fun x4_60 e_61 => ?_)
        have h := h x4_60 e_61
        refine lv_istore (lv' := [(4, .int x4_60), (0, .ref (ad 0)), (1, .int a1), (2, .int a2), (3, .int x3_17)]) hx hb dX9_cut_60 hl (by decide) rfl (fun ls hl => ?_)
        refine lv_aload_n hx hb dX9_cut_62 rfl (lv_at hl 1 rfl) ?_
        refine va_get (D := D) (ci := 9) (C := RX9) (T := TX9) (N := 32) hx hb hts inn_X9_cut_9 hown hAB.1 hP 0 rfl rfl 19 (by decide) (hts (.fieldLink RX9 60 "BarnBenchModel" "moments" "[I") (by decide +kernel)) (fun _ h9 => h9) rfl dX9_cut_63 ?_
        refine lv_iload hx hb dX9_cut_66 (lv_at hl 0 rfl) ?_
        refine va_iald hx hb hAB.1 hP 22 0 rfl rfl h.1 dX9_cut_68 ?_
        have h := h.2
        refine lv_aload_n hx hb dX9_cut_69 rfl (lv_at hl 1 rfl) ?_
        refine va_get (D := D) (ci := 9) (C := RX9) (T := TX9) (N := 32) hx hb hts inn_X9_cut_9 hown hAB.1 hP 0 rfl rfl 19 (by decide) (hts (.fieldLink RX9 60 "BarnBenchModel" "moments" "[I") (by decide +kernel)) (fun _ h9 => h9) rfl dX9_cut_70 ?_
        refine lv_iload_n hx hb dX9_cut_73 rfl (lv_at hl 4 rfl) ?_
        refine va_iald hx hb hAB.1 hP 22 0 rfl rfl h.1 dX9_cut_74 ?_
        have h := h.2
        refine lv_isub hx hb dX9_cut_75 ?_
        refine lv_topi (fun x5_62 e_63 => ?_)
        have h := h x5_62 e_63
        refine lv_istore (lv' := [(5, .int x5_62), (4, .int x4_60), (0, .ref (ad 0)), (1, .int a1), (2, .int a2), (3, .int x3_17)]) hx hb dX9_cut_76 hl (by decide) rfl (fun ls hl => ?_)
        refine lv_aload_n hx hb dX9_cut_78 rfl (lv_at hl 2 rfl) ?_
        refine lv_iload_n hx hb dX9_cut_79 rfl (lv_at hl 5 rfl) ?_
        refine lv_iload hx hb dX9_cut_80 (lv_at hl 0 rfl) ?_
        refine cl_l hD hS hA (va_runV (As := [.int x3_17, .int x5_62]) (rest := []) ⟨hx, hb, hml, hown, hts⟩ (ct_X9_costOf h H.size) (cwV 2 hts gX9_cut_X9_costOf rfl rfl rfl (by decide +kernel) ⟨Nat.le_of_ble_eq_true rfl, Nat.le_of_ble_eq_true rfl⟩) ⟨CPre.blind, va_recv hAB.1 hP (ci := 9) (q0 := 0) rfl rfl, wd_pre hAB hP hD hS hA⟩ rfl rfl hl.1 rfl (lv_room (Nat.le_of_ble_eq_true rfl)) dX9_cut_82 ⟨Nat.zero_le _, Nat.zero_le _⟩) (fun r_64 u H locs h hP hD hS => ?_)
        refine lv_lstore (lv' := [(6, .long r_64), (5, .int x5_62), (4, .int x4_60), (0, .ref (ad 0)), (1, .int a1), (2, .int a2), (3, .int x3_17)]) hx hb dX9_cut_85 hl (by decide) rfl (fun ls hl => ?_)
        refine lv_aload_n hx hb dX9_cut_87 rfl (lv_at hl 3 rfl) ?_
        refine lv_iload_n hx hb dX9_cut_88 rfl (lv_at hl 6 rfl) ?_
        refine lv_iload hx hb dX9_cut_89 (lv_at hl 1 rfl) ?_
        refine lv_iload_n hx hb dX9_cut_91 rfl (lv_at hl 4 rfl) ?_
        refine lv_iadd hx hb dX9_cut_92 ?_
        refine cl_l hD hS hA (va_runV (As := [.int x3_17, .int (x5_62 + a1)]) (rest := []) ⟨hx, hb, hml, hown, hts⟩ (ct_X9_costOf h H.size) (cwV 2 hts gX9_cut_X9_costOf rfl rfl rfl (by decide +kernel) ⟨Nat.le_of_ble_eq_true rfl, Nat.le_of_ble_eq_true rfl⟩) ⟨CPre.blind, va_recv hAB.1 hP (ci := 9) (q0 := 0) rfl rfl, wd_pre hAB hP hD hS hA⟩ rfl rfl hl.1 rfl (lv_room (Nat.le_of_ble_eq_true rfl)) dX9_cut_93 ⟨Nat.zero_le _, Nat.zero_le _⟩) (fun r_65 u H locs h hP hD hS => ?_)
        refine lv_lstore (lv' := [(8, .long r_65), (6, .long r_64), (5, .int x5_62), (4, .int x4_60), (0, .ref (ad 0)), (1, .int a1), (2, .int a2), (3, .int x3_17)]) hx hb dX9_cut_96 hl (by decide) rfl (fun ls hl => ?_)
        refine lv_aload_n hx hb dX9_cut_98 rfl (lv_at hl 4 rfl) ?_
        refine lv_iload_n hx hb dX9_cut_99 rfl (lv_at hl 7 rfl) ?_
        refine lv_iload hx hb dX9_cut_100 (lv_at hl 2 rfl) ?_
        refine lv_iload_n hx hb dX9_cut_102 rfl (lv_at hl 5 rfl) ?_
        refine lv_isub hx hb dX9_cut_103 ?_
        refine cl_l hD hS hA (va_runV (As := [.int x3_17, .int (x5_62 - a1)]) (rest := []) ⟨hx, hb, hml, hown, hts⟩ (ct_X9_costOf h H.size) (cwV 2 hts gX9_cut_X9_costOf rfl rfl rfl (by decide +kernel) ⟨Nat.le_of_ble_eq_true rfl, Nat.le_of_ble_eq_true rfl⟩) ⟨CPre.blind, va_recv hAB.1 hP (ci := 9) (q0 := 0) rfl rfl, wd_pre hAB hP hD hS hA⟩ rfl rfl hl.1 rfl (lv_room (Nat.le_of_ble_eq_true rfl)) dX9_cut_104 ⟨Nat.zero_le _, Nat.zero_le _⟩) (fun r_66 u H locs h hP hD hS => ?_)
        refine lv_lstore (lv' := [(10, .long r_66), (8, .long r_65), (6, .long r_64), (5, .int x5_62), (4, .int x4_60), (0, .ref (ad 0)), (1, .int a1), (2, .int a2), (3, .int x3_17)]) hx hb dX9_cut_107 hl (by decide) rfl (fun ls hl => ?_)
        refine lv_aload_n hx hb dX9_cut_109 rfl (lv_at hl 5 rfl) ?_
        refine lv_iload hx hb dX9_cut_110 (lv_at hl 4 rfl) ?_
        refine lv_iload_n hx hb dX9_cut_112 rfl (lv_at hl 8 rfl) ?_
        refine lv_lload hx hb dX9_cut_113 (lv_at hl 1 rfl) ?_
        refine lv_ldc2 (v := 1125899906842624) hx hb hown (hts (.constantLong RX9 197 1125899906842624) (by decide +kernel)) dX9_cut_115 ?_
        refine W.lcmp hx hb dX9_cut_118 ?_
        refine lv_if_lt (tgt := 128) hx hb dX9_cut_119 (by decide) (fun c_67 => ?_) (fun c_67 => ?_)
        · have h := h.1 c_67
          refine lv_lload hx hb dX9_cut_128 (lv_at hl 1 rfl) ?_
          refine lv_lload hx hb dX9_cut_130 (lv_at hl 2 rfl) ?_
          refine lv_lsub hx hb dX9_cut_132 ?_
          exact B133 x4_60 x3_17 (r_65 - r_64) x3_17 x4_60 r_64 r_66 mRm_18 mOw_19 h H locs ls hP hD hS (lv_sub hl [5, 6, 7, 8, 4, 2, 0] rfl)
        · have h := h.2 c_67
          refine lv_ldc2 (v := 1125899906842624) hx hb hown (hts (.constantLong RX9 197 1125899906842624) (by decide +kernel)) dX9_cut_122 ?_
          refine lv_goto (tgt := 133) hx hb dX9_cut_125 (by decide) ?_
          exact B133 x4_60 x3_17 1125899906842624 x3_17 x4_60 r_64 r_66 mRm_18 mOw_19 h H locs ls hP hD hS (lv_sub hl [5, 6, 7, 8, 4, 2, 0] rfl)
  obtain ⟨n45, h⟩ := h
  refine L45 _ (fun mRm_20 mOw_21 h H locs ls hP hD hS hl => ?_) n45 0 mRm_3 mOw_11 h H locs ls hP hD hS (lv_sub hl [1, 2, 3, 0] rfl)
  refine lv_iconst (v := 0) hx hb dX9_cut_271 (by decide) ?_
  refine lv_istore_n (lv' := [(3, .int 0), (0, .ref (ad 0)), (1, .int a1)]) hx hb dX9_cut_272 rfl hl (by decide) rfl (fun ls hl => ?_)
  have L273 : ∀ (x273 : (Nat → Int64) → Prop) (hk273 : ∀ (mRm_70 : Nat → Int64), x273 mRm_70 → ∀ (H : Heap) (locs : List Loc) (ls : Array Slot), va_P D vwCl (WM cI cJ cZ cK ad ud pT pK pN pF pS qT qK qN qF qS mKe mUn mFi mRi mBe mWc mAK mSh mIP mUS mWa mWi mSi mRo mSp mRw mSn mBg mLa mMo mRm_70 mOw_21 mGo mFr mQu mCh mPB mPS mFs ub uT uK uN uF uS) H → va_D A (WM cI cJ cZ cK ad ud pT pK pN pF pS qT qK qN qF qS mKe mUn mFi mRi mBe mWc mAK mSh mIP mUS mWa mWi mSi mRo mSp mRw mSn mBg mLa mMo mRm_70 mOw_21 mGo mFr mQu mCh mPB mPS mFs ub uT uK uN uF uS) → va_S A s.heap H locs → lv_has ls 13 [(0, .ref (ad 0)), (1, .int a1)] → W p l e (headSpec wsX9_cut rm_X9_cut).room s m args below meth c H locs 0 0 Q (F0 m 383 ls [])) (n273 : Nat) (x3_68 : Int32) (mRm_69 : Nat → Int64), wp_X9_cut_L273 pT mOw_21 x273 n273 x3_68 mRm_69 → ∀ (H : Heap) (locs : List Loc) (ls : Array Slot), va_P D vwCl (WM cI cJ cZ cK ad ud pT pK pN pF pS qT qK qN qF qS mKe mUn mFi mRi mBe mWc mAK mSh mIP mUS mWa mWi mSi mRo mSp mRw mSn mBg mLa mMo mRm_69 mOw_21 mGo mFr mQu mCh mPB mPS mFs ub uT uK uN uF uS) H → va_D A (WM cI cJ cZ cK ad ud pT pK pN pF pS qT qK qN qF qS mKe mUn mFi mRi mBe mWc mAK mSh mIP mUS mWa mWi mSi mRo mSp mRw mSn mBg mLa mMo mRm_69 mOw_21 mGo mFr mQu mCh mPB mPS mFs ub uT uK uN uF uS) → va_S A s.heap H locs → lv_has ls 13 [(0, .ref (ad 0)), (1, .int a1), (3, .int x3_68)] → W p l e (headSpec wsX9_cut rm_X9_cut).room s m args below meth c H locs 0 0 Q (F0 m 273 ls []) := by
    intro x273 hk273 n273
    induction n273 with
    | zero => intro x3_68 mRm_69 h; exact False.elim h
    | succ n273 ih273 =>
      intro x3_68 mRm_69 h H locs ls hP hD hS hl
      have B377 : ∀ (x3_71 : Int32) (mRm_72 : Nat → Int64), wp_X9_cut_b377 (wp_X9_cut_L273 pT mOw_21 x273 n273) x3_71 mRm_72 → ∀ (H : Heap) (locs : List Loc) (ls : Array Slot), va_P D vwCl (WM cI cJ cZ cK ad ud pT pK pN pF pS qT qK qN qF qS mKe mUn mFi mRi mBe mWc mAK mSh mIP mUS mWa mWi mSi mRo mSp mRw mSn mBg mLa mMo mRm_72 mOw_21 mGo mFr mQu mCh mPB mPS mFs ub uT uK uN uF uS) H → va_D A (WM cI cJ cZ cK ad ud pT pK pN pF pS qT qK qN qF qS mKe mUn mFi mRi mBe mWc mAK mSh mIP mUS mWa mWi mSi mRo mSp mRw mSn mBg mLa mMo mRm_72 mOw_21 mGo mFr mQu mCh mPB mPS mFs ub uT uK uN uF uS) → va_S A s.heap H locs → lv_has ls 13 [(0, .ref (ad 0)), (1, .int a1), (3, .int x3_71)] → W p l e (headSpec wsX9_cut rm_X9_cut).room s m args below meth c H locs 0 0 Q (F0 m 377 ls []) := by
        intro x3_71 mRm_72 h H locs ls hP hD hS hl
        obtain ⟨x3_73, e_74⟩ : ∃ y : Int32, y = x3_71 + 1 := ⟨_, rfl⟩
        have h := h x3_73 e_74
        refine lv_iinc (v := x3_73) (lv' := [(3, .int x3_73), (0, .ref (ad 0)), (1, .int a1)]) hx hb dX9_cut_377 hl (k := 2) rfl (by rw [e_74]; rfl) (by decide) rfl (fun ls hl => ?_)
        refine lv_goto (tgt := 273) hx hb dX9_cut_380 (by decide) ?_
        exact ih273 x3_73 mRm_72 h H locs ls hP hD hS (lv_sub hl [1, 2, 0] rfl)
      have B325 : ∀ (x3_75 : Int32) (mRm_76 : Nat → Int64), wp_X9_cut_b325 mOw_21 (wp_X9_cut_L273 pT mOw_21 x273 n273) x3_75 mRm_76 → ∀ (H : Heap) (locs : List Loc) (ls : Array Slot), va_P D vwCl (WM cI cJ cZ cK ad ud pT pK pN pF pS qT qK qN qF qS mKe mUn mFi mRi mBe mWc mAK mSh mIP mUS mWa mWi mSi mRo mSp mRw mSn mBg mLa mMo mRm_76 mOw_21 mGo mFr mQu mCh mPB mPS mFs ub uT uK uN uF uS) H → va_D A (WM cI cJ cZ cK ad ud pT pK pN pF pS qT qK qN qF qS mKe mUn mFi mRi mBe mWc mAK mSh mIP mUS mWa mWi mSi mRo mSp mRw mSn mBg mLa mMo mRm_76 mOw_21 mGo mFr mQu mCh mPB mPS mFs ub uT uK uN uF uS) → va_S A s.heap H locs → lv_has ls 13 [(0, .ref (ad 0)), (1, .int a1), (3, .int x3_75)] → W p l e (headSpec wsX9_cut rm_X9_cut).room s m args below meth c H locs 0 0 Q (F0 m 325 ls []) := by
        intro x3_75 mRm_76 h H locs ls hP hD hS hl
        refine lv_bipush (v := 12) hx hb dX9_cut_325 (by decide) ?_
        refine lv_iload_n hx hb dX9_cut_327 rfl (lv_at hl 2 rfl) ?_
        refine lv_iadd hx hb dX9_cut_328 ?_
        refine lv_topi (fun x4_77 e_78 => ?_)
        have h := h x4_77 e_78
        refine lv_istore (lv' := [(4, .int x4_77), (0, .ref (ad 0)), (1, .int a1), (3, .int x3_75)]) hx hb dX9_cut_329 hl (by decide) rfl (fun ls hl => ?_)
        refine lv_aload_n hx hb dX9_cut_331 rfl (lv_at hl 1 rfl) ?_
        refine va_get (D := D) (ci := 9) (C := RX9) (T := TX9) (N := 32) hx hb hts inn_X9_cut_9 hown hAB.1 hP 0 rfl rfl 21 (by decide) (hts (.fieldLink RX9 66 "BarnBenchModel" "own" "[J") (by decide +kernel)) (fun _ h9 => h9) rfl dX9_cut_332 ?_
        refine lv_iload hx hb dX9_cut_335 (lv_at hl 0 rfl) ?_
        refine va_lald hx hb hAB.1 hP 24 1 rfl rfl h.1 dX9_cut_337 ?_
        have h := h.2
        refine lv_lconst (v := 0) hx hb dX9_cut_338 (by decide) ?_
        refine W.lcmp hx hb dX9_cut_339 ?_
        refine lv_if_ge (tgt := 362) hx hb dX9_cut_340 (by decide) (fun c_79 => ?_) (fun c_79 => ?_)
        · have h := h.1 c_79
          refine lv_aload_n hx hb dX9_cut_362 rfl (lv_at hl 1 rfl) ?_
          refine lv_iload hx hb dX9_cut_363 (lv_at hl 0 rfl) ?_
          refine lv_bipush (v := 25) hx hb dX9_cut_365 (by decide) ?_
          refine lv_aload_n hx hb dX9_cut_367 rfl (lv_at hl 1 rfl) ?_
          refine va_get (D := D) (ci := 9) (C := RX9) (T := TX9) (N := 32) hx hb hts inn_X9_cut_9 hown hAB.1 hP 0 rfl rfl 21 (by decide) (hts (.fieldLink RX9 66 "BarnBenchModel" "own" "[J") (by decide +kernel)) (fun _ h9 => h9) rfl dX9_cut_368 ?_
          refine lv_iload hx hb dX9_cut_371 (lv_at hl 0 rfl) ?_
          refine va_lald hx hb hAB.1 hP 24 1 rfl rfl h.1 dX9_cut_373 ?_
          have h := h.2
          refine cl_v hD hS hA (va_runV (As := [.int x4_77, .int 25, .long (mOw_21 (Int32.toNatClampNeg x4_77))]) (rest := []) ⟨hx, hb, hml, hown, hts⟩ (ct_X9_edge h H.size) (cwV 3 hts gX9_cut_X9_edge rfl rfl rfl (by decide +kernel) ⟨Nat.le_of_ble_eq_true rfl, Nat.le_of_ble_eq_true rfl⟩) ⟨CPre.blind, va_recv hAB.1 hP (ci := 9) (q0 := 0) rfl rfl, wd_pre hAB hP hD hS hA⟩ rfl rfl hl.1 rfl (lv_room (Nat.le_of_ble_eq_true rfl)) dX9_cut_374 ⟨Nat.zero_le _, Nat.zero_le _⟩) (fun mRm_80 H locs h hP hD hS => ?_)
          have hP : va_P D vwCl (WM cI cJ cZ cK ad ud pT pK pN pF pS qT qK qN qF qS mKe mUn mFi mRi mBe mWc mAK mSh mIP mUS mWa mWi mSi mRo mSp mRw mSn mBg mLa mMo mRm_80 mOw_21 mGo mFr mQu mCh mPB mPS mFs ub uT uK uN uF uS) H := hP
          have hD : va_D A (WM cI cJ cZ cK ad ud pT pK pN pF pS qT qK qN qF qS mKe mUn mFi mRi mBe mWc mAK mSh mIP mUS mWa mWi mSi mRo mSp mRw mSn mBg mLa mMo mRm_80 mOw_21 mGo mFr mQu mCh mPB mPS mFs ub uT uK uN uF uS) := hD
          exact B377 x3_75 mRm_80 h H locs ls hP hD hS (lv_sub hl [1, 2, 3] rfl)
        · have h := h.2 c_79
          refine lv_aload_n hx hb dX9_cut_343 rfl (lv_at hl 1 rfl) ?_
          refine lv_bipush (v := 24) hx hb dX9_cut_344 (by decide) ?_
          refine lv_iload hx hb dX9_cut_346 (lv_at hl 0 rfl) ?_
          refine lv_aload_n hx hb dX9_cut_348 rfl (lv_at hl 1 rfl) ?_
          refine va_get (D := D) (ci := 9) (C := RX9) (T := TX9) (N := 32) hx hb hts inn_X9_cut_9 hown hAB.1 hP 0 rfl rfl 21 (by decide) (hts (.fieldLink RX9 66 "BarnBenchModel" "own" "[J") (by decide +kernel)) (fun _ h9 => h9) rfl dX9_cut_349 ?_
          refine lv_iload hx hb dX9_cut_352 (lv_at hl 0 rfl) ?_
          refine va_lald hx hb hAB.1 hP 24 1 rfl rfl h.1 dX9_cut_354 ?_
          have h := h.2
          refine lv_lneg hx hb dX9_cut_355 ?_
          refine cl_v hD hS hA (va_runV (As := [.int 24, .int x4_77, .long (-(mOw_21 (Int32.toNatClampNeg x4_77)))]) (rest := []) ⟨hx, hb, hml, hown, hts⟩ (ct_X9_edge h H.size) (cwV 3 hts gX9_cut_X9_edge rfl rfl rfl (by decide +kernel) ⟨Nat.le_of_ble_eq_true rfl, Nat.le_of_ble_eq_true rfl⟩) ⟨CPre.blind, va_recv hAB.1 hP (ci := 9) (q0 := 0) rfl rfl, wd_pre hAB hP hD hS hA⟩ rfl rfl hl.1 rfl (lv_room (Nat.le_of_ble_eq_true rfl)) dX9_cut_356 ⟨Nat.zero_le _, Nat.zero_le _⟩) (fun mRm_81 H locs h hP hD hS => ?_)
          have hP : va_P D vwCl (WM cI cJ cZ cK ad ud pT pK pN pF pS qT qK qN qF qS mKe mUn mFi mRi mBe mWc mAK mSh mIP mUS mWa mWi mSi mRo mSp mRw mSn mBg mLa mMo mRm_81 mOw_21 mGo mFr mQu mCh mPB mPS mFs ub uT uK uN uF uS) H := hP
          have hD : va_D A (WM cI cJ cZ cK ad ud pT pK pN pF pS qT qK qN qF qS mKe mUn mFi mRi mBe mWc mAK mSh mIP mUS mWa mWi mSi mRo mSp mRw mSn mBg mLa mMo mRm_81 mOw_21 mGo mFr mQu mCh mPB mPS mFs ub uT uK uN uF uS) := hD
          refine lv_goto (tgt := 377) hx hb dX9_cut_359 (by decide) ?_
          exact B377 x3_75 mRm_81 h H locs ls hP hD hS (lv_sub hl [1, 2, 3] rfl)
      refine lv_iload_n hx hb dX9_cut_273 rfl (lv_at hl 2 rfl) ?_
      refine lv_aload_n hx hb dX9_cut_274 rfl (lv_at hl 0 rfl) ?_
      refine va_get (D := D) (ci := 9) (C := RX9) (T := TX9) (N := 32) hx hb hts inn_X9_cut_9 hown hAB.1 hP 0 rfl rfl 0 (by decide) (hts (.fieldLink RX9 10 "BarnBenchModel" "b" "LBarnBenchModel$Book;") (by decide +kernel)) (fun _ h9 => h9) rfl dX9_cut_275 ?_
      refine va_get (D := D) (ci := 8) (C := RX8) (T := TX8) (N := 5) hx hb hts inn_X9_cut_8 hown hAB.1 hP 1 rfl rfl 0 (by decide) (hts (.fieldLink RX9 94 "BarnBenchModel$Book" "tasks" "I") (by decide +kernel)) (fun _ h9 => h9) rfl dX9_cut_278 ?_
      refine lv_icmp_ge (tgt := 383) hx hb dX9_cut_281 (by decide) (fun c_82 => ?_) (fun c_82 => ?_)
      · have h := h.1 c_82
        exact hk273 mRm_69 h H locs ls hP hD hS (lv_sub hl [0, 1] rfl)
      · have h := h.2 c_82
        refine lv_aload_n hx hb dX9_cut_284 rfl (lv_at hl 0 rfl) ?_
        refine va_get (D := D) (ci := 9) (C := RX9) (T := TX9) (N := 32) hx hb hts inn_X9_cut_9 hown hAB.1 hP 0 rfl rfl 21 (by decide) (hts (.fieldLink RX9 66 "BarnBenchModel" "own" "[J") (by decide +kernel)) (fun _ h9 => h9) rfl dX9_cut_285 ?_
        refine lv_iload_n hx hb dX9_cut_288 rfl (lv_at hl 2 rfl) ?_
        refine va_lald hx hb hAB.1 hP 24 1 rfl rfl h.1 dX9_cut_289 ?_
        have h := h.2
        refine lv_lconst (v := 0) hx hb dX9_cut_290 (by decide) ?_
        refine W.lcmp hx hb dX9_cut_291 ?_
        refine lv_if_ge (tgt := 312) hx hb dX9_cut_292 (by decide) (fun c_83 => ?_) (fun c_83 => ?_)
        · have h := h.1 c_83
          refine lv_aload_n hx hb dX9_cut_312 rfl (lv_at hl 0 rfl) ?_
          refine lv_iload_n hx hb dX9_cut_313 rfl (lv_at hl 2 rfl) ?_
          refine lv_bipush (v := 25) hx hb dX9_cut_314 (by decide) ?_
          refine lv_aload_n hx hb dX9_cut_316 rfl (lv_at hl 0 rfl) ?_
          refine va_get (D := D) (ci := 9) (C := RX9) (T := TX9) (N := 32) hx hb hts inn_X9_cut_9 hown hAB.1 hP 0 rfl rfl 21 (by decide) (hts (.fieldLink RX9 66 "BarnBenchModel" "own" "[J") (by decide +kernel)) (fun _ h9 => h9) rfl dX9_cut_317 ?_
          refine lv_iload_n hx hb dX9_cut_320 rfl (lv_at hl 2 rfl) ?_
          refine va_lald hx hb hAB.1 hP 24 1 rfl rfl h.1 dX9_cut_321 ?_
          have h := h.2
          refine cl_v hD hS hA (va_runV (As := [.int x3_68, .int 25, .long (mOw_21 (Int32.toNatClampNeg x3_68))]) (rest := []) ⟨hx, hb, hml, hown, hts⟩ (ct_X9_edge h H.size) (cwV 3 hts gX9_cut_X9_edge rfl rfl rfl (by decide +kernel) ⟨Nat.le_of_ble_eq_true rfl, Nat.le_of_ble_eq_true rfl⟩) ⟨CPre.blind, va_recv hAB.1 hP (ci := 9) (q0 := 0) rfl rfl, wd_pre hAB hP hD hS hA⟩ rfl rfl hl.1 rfl (lv_room (Nat.le_of_ble_eq_true rfl)) dX9_cut_322 ⟨Nat.zero_le _, Nat.zero_le _⟩) (fun mRm_84 H locs h hP hD hS => ?_)
          have hP : va_P D vwCl (WM cI cJ cZ cK ad ud pT pK pN pF pS qT qK qN qF qS mKe mUn mFi mRi mBe mWc mAK mSh mIP mUS mWa mWi mSi mRo mSp mRw mSn mBg mLa mMo mRm_84 mOw_21 mGo mFr mQu mCh mPB mPS mFs ub uT uK uN uF uS) H := hP
          have hD : va_D A (WM cI cJ cZ cK ad ud pT pK pN pF pS qT qK qN qF qS mKe mUn mFi mRi mBe mWc mAK mSh mIP mUS mWa mWi mSi mRo mSp mRw mSn mBg mLa mMo mRm_84 mOw_21 mGo mFr mQu mCh mPB mPS mFs ub uT uK uN uF uS) := hD
          exact B325 x3_68 mRm_84 h H locs ls hP hD hS (lv_sub hl [0, 1, 2] rfl)
        · have h := h.2 c_83
          refine lv_aload_n hx hb dX9_cut_295 rfl (lv_at hl 0 rfl) ?_
          refine lv_bipush (v := 24) hx hb dX9_cut_296 (by decide) ?_
          refine lv_iload_n hx hb dX9_cut_298 rfl (lv_at hl 2 rfl) ?_
          refine lv_aload_n hx hb dX9_cut_299 rfl (lv_at hl 0 rfl) ?_
          refine va_get (D := D) (ci := 9) (C := RX9) (T := TX9) (N := 32) hx hb hts inn_X9_cut_9 hown hAB.1 hP 0 rfl rfl 21 (by decide) (hts (.fieldLink RX9 66 "BarnBenchModel" "own" "[J") (by decide +kernel)) (fun _ h9 => h9) rfl dX9_cut_300 ?_
          refine lv_iload_n hx hb dX9_cut_303 rfl (lv_at hl 2 rfl) ?_
          refine va_lald hx hb hAB.1 hP 24 1 rfl rfl h.1 dX9_cut_304 ?_
          have h := h.2
          refine lv_lneg hx hb dX9_cut_305 ?_
          refine cl_v hD hS hA (va_runV (As := [.int 24, .int x3_68, .long (-(mOw_21 (Int32.toNatClampNeg x3_68)))]) (rest := []) ⟨hx, hb, hml, hown, hts⟩ (ct_X9_edge h H.size) (cwV 3 hts gX9_cut_X9_edge rfl rfl rfl (by decide +kernel) ⟨Nat.le_of_ble_eq_true rfl, Nat.le_of_ble_eq_true rfl⟩) ⟨CPre.blind, va_recv hAB.1 hP (ci := 9) (q0 := 0) rfl rfl, wd_pre hAB hP hD hS hA⟩ rfl rfl hl.1 rfl (lv_room (Nat.le_of_ble_eq_true rfl)) dX9_cut_306 ⟨Nat.zero_le _, Nat.zero_le _⟩) (fun mRm_85 H locs h hP hD hS => ?_)
          have hP : va_P D vwCl (WM cI cJ cZ cK ad ud pT pK pN pF pS qT qK qN qF qS mKe mUn mFi mRi mBe mWc mAK mSh mIP mUS mWa mWi mSi mRo mSp mRw mSn mBg mLa mMo mRm_85 mOw_21 mGo mFr mQu mCh mPB mPS mFs ub uT uK uN uF uS) H := hP
          have hD : va_D A (WM cI cJ cZ cK ad ud pT pK pN pF pS qT qK qN qF qS mKe mUn mFi mRi mBe mWc mAK mSh mIP mUS mWa mWi mSi mRo mSp mRw mSn mBg mLa mMo mRm_85 mOw_21 mGo mFr mQu mCh mPB mPS mFs ub uT uK uN uF uS) := hD
          refine lv_goto (tgt := 325) hx hb dX9_cut_309 (by decide) ?_
          exact B325 x3_68 mRm_85 h H locs ls hP hD hS (lv_sub hl [0, 1, 2] rfl)
  obtain ⟨n273, h⟩ := h
  refine L273 _ (fun mRm_70 h H locs ls hP hD hS hl => ?_) n273 0 mRm_20 h H locs ls hP hD hS (lv_sub hl [1, 2, 0] rfl)
  have L383 : ∀ (x383 : (Nat → Int64) → (Nat → Int32) → (Nat → Int32) → (Nat → Int32) → Prop) (hk383 : ∀ (mRm_90 : Nat → Int64) (mGo_91 : Nat → Int32) (mFr_92 : Nat → Int32) (mQu_93 : Nat → Int32), x383 mRm_90 mGo_91 mFr_92 mQu_93 → ∀ (H : Heap) (locs : List Loc) (ls : Array Slot), va_P D vwCl (WM cI cJ cZ cK ad ud pT pK pN pF pS qT qK qN qF qS mKe mUn mFi mRi mBe mWc mAK mSh mIP mUS mWa mWi mSi mRo mSp mRw mSn mBg mLa mMo mRm_90 mOw_21 mGo_91 mFr_92 mQu_93 mCh mPB mPS mFs ub uT uK uN uF uS) H → va_D A (WM cI cJ cZ cK ad ud pT pK pN pF pS qT qK qN qF qS mKe mUn mFi mRi mBe mWc mAK mSh mIP mUS mWa mWi mSi mRo mSp mRw mSn mBg mLa mMo mRm_90 mOw_21 mGo_91 mFr_92 mQu_93 mCh mPB mPS mFs ub uT uK uN uF uS) → va_S A s.heap H locs → lv_has ls 13 [(0, .ref (ad 0)), (1, .int a1)] → W p l e (headSpec wsX9_cut rm_X9_cut).room s m args below meth c H locs 0 0 Q (F0 m 397 ls [])) (n383 : Nat) (mRm_86 : Nat → Int64) (mGo_87 : Nat → Int32) (mFr_88 : Nat → Int32) (mQu_89 : Nat → Int32), wp_X9_cut_L383  x383 n383 mRm_86 mGo_87 mFr_88 mQu_89 → ∀ (H : Heap) (locs : List Loc) (ls : Array Slot), va_P D vwCl (WM cI cJ cZ cK ad ud pT pK pN pF pS qT qK qN qF qS mKe mUn mFi mRi mBe mWc mAK mSh mIP mUS mWa mWi mSi mRo mSp mRw mSn mBg mLa mMo mRm_86 mOw_21 mGo_87 mFr_88 mQu_89 mCh mPB mPS mFs ub uT uK uN uF uS) H → va_D A (WM cI cJ cZ cK ad ud pT pK pN pF pS qT qK qN qF qS mKe mUn mFi mRi mBe mWc mAK mSh mIP mUS mWa mWi mSi mRo mSp mRw mSn mBg mLa mMo mRm_86 mOw_21 mGo_87 mFr_88 mQu_89 mCh mPB mPS mFs ub uT uK uN uF uS) → va_S A s.heap H locs → lv_has ls 13 [(0, .ref (ad 0)), (1, .int a1)] → W p l e (headSpec wsX9_cut rm_X9_cut).room s m args below meth c H locs 0 0 Q (F0 m 383 ls []) := by
    intro x383 hk383 n383
    induction n383 with
    | zero => intro mRm_86 mGo_87 mFr_88 mQu_89 h; exact False.elim h
    | succ n383 ih383 =>
      intro mRm_86 mGo_87 mFr_88 mQu_89 h H locs ls hP hD hS hl
      refine lv_aload_n hx hb dX9_cut_383 rfl (lv_at hl 0 rfl) ?_
      refine cl_i hD hS hA (va_runV (As := []) (rest := []) ⟨hx, hb, hml, hown, hts⟩ (ct_X9_reaches h H.size) (cwV 0 hts gX9_cut_X9_reaches rfl rfl rfl (by decide +kernel) ⟨Nat.le_of_ble_eq_true rfl, Nat.le_of_ble_eq_true rfl⟩) ⟨CPre.blind, va_recv hAB.1 hP (ci := 9) (q0 := 0) rfl rfl, wd_pre hAB hP hD hS hA⟩ rfl rfl hl.1 rfl (lv_room (Nat.le_of_ble_eq_true rfl)) dX9_cut_384 ⟨Nat.zero_le _, Nat.zero_le _⟩) (fun r_94 u H locs h hP hD hS => ?_)
      obtain ⟨mGo_95, mFr_96, mQu_97⟩ := u
      have hP : va_P D vwCl (WM cI cJ cZ cK ad ud pT pK pN pF pS qT qK qN qF qS mKe mUn mFi mRi mBe mWc mAK mSh mIP mUS mWa mWi mSi mRo mSp mRw mSn mBg mLa mMo mRm_86 mOw_21 mGo_95 mFr_96 mQu_97 mCh mPB mPS mFs ub uT uK uN uF uS) H := hP
      have hD : va_D A (WM cI cJ cZ cK ad ud pT pK pN pF pS qT qK qN qF qS mKe mUn mFi mRi mBe mWc mAK mSh mIP mUS mWa mWi mSi mRo mSp mRw mSn mBg mLa mMo mRm_86 mOw_21 mGo_95 mFr_96 mQu_97 mCh mPB mPS mFs ub uT uK uN uF uS) := hD
      refine lv_if_eq (tgt := 397) hx hb dX9_cut_387 (by decide) (fun c_98 => ?_) (fun c_98 => ?_)
      · have h := h.1 c_98
        exact hk383 mRm_86 mGo_95 mFr_96 mQu_97 h H locs ls hP hD hS (lv_sub hl [0, 1] rfl)
      · have h := h.2 c_98
        refine lv_aload_n hx hb dX9_cut_390 rfl (lv_at hl 0 rfl) ?_
        refine cl_v hD hS hA (va_runV (As := []) (rest := []) ⟨hx, hb, hml, hown, hts⟩ (ct_X9_push h H.size) (cwV 0 hts gX9_cut_X9_push rfl rfl rfl (by decide +kernel) ⟨Nat.le_of_ble_eq_true rfl, Nat.le_of_ble_eq_true rfl⟩) ⟨CPre.blind, va_recv hAB.1 hP (ci := 9) (q0 := 0) rfl rfl, wd_pre hAB hP hD hS hA⟩ rfl rfl hl.1 rfl (lv_room (Nat.le_of_ble_eq_true rfl)) dX9_cut_391 ⟨Nat.zero_le _, Nat.zero_le _⟩) (fun mRm_99 H locs h hP hD hS => ?_)
        have hP : va_P D vwCl (WM cI cJ cZ cK ad ud pT pK pN pF pS qT qK qN qF qS mKe mUn mFi mRi mBe mWc mAK mSh mIP mUS mWa mWi mSi mRo mSp mRw mSn mBg mLa mMo mRm_99 mOw_21 mGo_95 mFr_96 mQu_97 mCh mPB mPS mFs ub uT uK uN uF uS) H := hP
        have hD : va_D A (WM cI cJ cZ cK ad ud pT pK pN pF pS qT qK qN qF qS mKe mUn mFi mRi mBe mWc mAK mSh mIP mUS mWa mWi mSi mRo mSp mRw mSn mBg mLa mMo mRm_99 mOw_21 mGo_95 mFr_96 mQu_97 mCh mPB mPS mFs ub uT uK uN uF uS) := hD
        refine lv_goto (tgt := 383) hx hb dX9_cut_394 (by decide) ?_
        exact ih383 mRm_99 mGo_95 mFr_96 mQu_97 h H locs ls hP hD hS (lv_sub hl [0, 1] rfl)
  obtain ⟨n383, h⟩ := h
  refine L383 _ (fun mRm_90 mGo_91 mFr_92 mQu_93 h H locs ls hP hD hS hl => ?_) n383 mRm_70 mGo mFr mQu h H locs ls hP hD hS (lv_sub hl [0, 1] rfl)
  refine lv_iconst (v := 0) hx hb dX9_cut_397 (by decide) ?_
  refine lv_istore_n (lv' := [(3, .int 0), (0, .ref (ad 0)), (1, .int a1)]) hx hb dX9_cut_398 rfl hl (by decide) rfl (fun ls hl => ?_)
  refine lv_iconst (v := 0) hx hb dX9_cut_399 (by decide) ?_
  refine lv_istore (lv' := [(4, .int 0), (3, .int 0), (0, .ref (ad 0)), (1, .int a1)]) hx hb dX9_cut_400 hl (by decide) rfl (fun ls hl => ?_)
  have L402 : ∀ (x402 : (Int32) → (Nat → Int32) → Prop) (hk402 : ∀ (x3_103 : Int32) (mMo_104 : Nat → Int32), x402 x3_103 mMo_104 → ∀ (H : Heap) (locs : List Loc) (ls : Array Slot), va_P D vwCl (WM cI cJ cZ cK ad ud pT pK pN pF pS qT qK qN qF qS mKe mUn mFi mRi mBe mWc mAK mSh mIP mUS mWa mWi mSi mRo mSp mRw mSn mBg mLa mMo_104 mRm_90 mOw_21 mGo_91 mFr_92 mQu_93 mCh mPB mPS mFs ub uT uK uN uF uS) H → va_D A (WM cI cJ cZ cK ad ud pT pK pN pF pS qT qK qN qF qS mKe mUn mFi mRi mBe mWc mAK mSh mIP mUS mWa mWi mSi mRo mSp mRw mSn mBg mLa mMo_104 mRm_90 mOw_21 mGo_91 mFr_92 mQu_93 mCh mPB mPS mFs ub uT uK uN uF uS) → va_S A s.heap H locs → lv_has ls 13 [(3, .int x3_103)] → W p l e (headSpec wsX9_cut rm_X9_cut).room s m args below meth c H locs 0 0 Q (F0 m 460 ls [])) (n402 : Nat) (x3_100 : Int32) (x4_101 : Int32) (mMo_102 : Nat → Int32), wp_X9_cut_L402 a1 mGo_91 x402 n402 x3_100 x4_101 mMo_102 → ∀ (H : Heap) (locs : List Loc) (ls : Array Slot), va_P D vwCl (WM cI cJ cZ cK ad ud pT pK pN pF pS qT qK qN qF qS mKe mUn mFi mRi mBe mWc mAK mSh mIP mUS mWa mWi mSi mRo mSp mRw mSn mBg mLa mMo_102 mRm_90 mOw_21 mGo_91 mFr_92 mQu_93 mCh mPB mPS mFs ub uT uK uN uF uS) H → va_D A (WM cI cJ cZ cK ad ud pT pK pN pF pS qT qK qN qF qS mKe mUn mFi mRi mBe mWc mAK mSh mIP mUS mWa mWi mSi mRo mSp mRw mSn mBg mLa mMo_102 mRm_90 mOw_21 mGo_91 mFr_92 mQu_93 mCh mPB mPS mFs ub uT uK uN uF uS) → va_S A s.heap H locs → lv_has ls 13 [(0, .ref (ad 0)), (1, .int a1), (3, .int x3_100), (4, .int x4_101)] → W p l e (headSpec wsX9_cut rm_X9_cut).room s m args below meth c H locs 0 0 Q (F0 m 402 ls []) := by
    intro x402 hk402 n402
    induction n402 with
    | zero => intro x3_100 x4_101 mMo_102 h; exact False.elim h
    | succ n402 ih402 =>
      intro x3_100 x4_101 mMo_102 h H locs ls hP hD hS hl
      have B453 : ∀ (y_106 : Int32) (x4_105 : Int32) (mMo_107 : Nat → Int32), wp_X9_cut_b453 (wp_X9_cut_L402 a1 mGo_91 x402 n402) y_106 x4_105 mMo_107 → ∀ (H : Heap) (locs : List Loc) (ls : Array Slot), va_P D vwCl (WM cI cJ cZ cK ad ud pT pK pN pF pS qT qK qN qF qS mKe mUn mFi mRi mBe mWc mAK mSh mIP mUS mWa mWi mSi mRo mSp mRw mSn mBg mLa mMo_107 mRm_90 mOw_21 mGo_91 mFr_92 mQu_93 mCh mPB mPS mFs ub uT uK uN uF uS) H → va_D A (WM cI cJ cZ cK ad ud pT pK pN pF pS qT qK qN qF qS mKe mUn mFi mRi mBe mWc mAK mSh mIP mUS mWa mWi mSi mRo mSp mRw mSn mBg mLa mMo_107 mRm_90 mOw_21 mGo_91 mFr_92 mQu_93 mCh mPB mPS mFs ub uT uK uN uF uS) → va_S A s.heap H locs → lv_has ls 13 [(0, .ref (ad 0)), (1, .int a1), (4, .int x4_105)] → W p l e (headSpec wsX9_cut rm_X9_cut).room s m args below meth c H locs 0 0 Q (F0 m 453 ls [.int y_106]) := by
        intro y_106 x4_105 mMo_107 h H locs ls hP hD hS hl
        refine lv_istore_n (lv' := [(3, .int y_106), (0, .ref (ad 0)), (1, .int a1), (4, .int x4_105)]) hx hb dX9_cut_453 rfl hl (by decide) rfl (fun ls hl => ?_)
        obtain ⟨x4_108, e_109⟩ : ∃ y : Int32, y = x4_105 + 1 := ⟨_, rfl⟩
        have h := h x4_108 e_109
        refine lv_iinc (v := x4_108) (lv' := [(4, .int x4_108), (3, .int y_106), (0, .ref (ad 0)), (1, .int a1)]) hx hb dX9_cut_454 hl (k := 3) rfl (by rw [e_109]; rfl) (by decide) rfl (fun ls hl => ?_)
        refine lv_goto (tgt := 402) hx hb dX9_cut_457 (by decide) ?_
        exact ih402 y_106 x4_108 mMo_107 h H locs ls hP hD hS (lv_sub hl [2, 3, 1, 0] rfl)
      have B448 : ∀ (x4_110 : Int32) (mMo_111 : Nat → Int32), wp_X9_cut_b448 (wp_X9_cut_L402 a1 mGo_91 x402 n402) x4_110 mMo_111 → ∀ (H : Heap) (locs : List Loc) (ls : Array Slot), va_P D vwCl (WM cI cJ cZ cK ad ud pT pK pN pF pS qT qK qN qF qS mKe mUn mFi mRi mBe mWc mAK mSh mIP mUS mWa mWi mSi mRo mSp mRw mSn mBg mLa mMo_111 mRm_90 mOw_21 mGo_91 mFr_92 mQu_93 mCh mPB mPS mFs ub uT uK uN uF uS) H → va_D A (WM cI cJ cZ cK ad ud pT pK pN pF pS qT qK qN qF qS mKe mUn mFi mRi mBe mWc mAK mSh mIP mUS mWa mWi mSi mRo mSp mRw mSn mBg mLa mMo_111 mRm_90 mOw_21 mGo_91 mFr_92 mQu_93 mCh mPB mPS mFs ub uT uK uN uF uS) → va_S A s.heap H locs → lv_has ls 13 [(0, .ref (ad 0)), (1, .int a1), (4, .int x4_110)] → W p l e (headSpec wsX9_cut rm_X9_cut).room s m args below meth c H locs 0 0 Q (F0 m 448 ls []) := by
        intro x4_110 mMo_111 h H locs ls hP hD hS hl
        refine lv_iconst (v := 1) hx hb dX9_cut_448 (by decide) ?_
        refine lv_goto (tgt := 453) hx hb dX9_cut_449 (by decide) ?_
        exact B453 1 x4_110 mMo_111 h H locs ls hP hD hS (lv_sub hl [0, 1, 2] rfl)
      have B432 : ∀ (y_114 : Int32) (y_115 : Int32) (y_116 : Int32) (x3_112 : Int32) (x4_113 : Int32) (mMo_117 : Nat → Int32), wp_X9_cut_b432 mGo_91 (wp_X9_cut_L402 a1 mGo_91 x402 n402) y_114 y_115 y_116 x3_112 x4_113 mMo_117 → ∀ (H : Heap) (locs : List Loc) (ls : Array Slot), va_P D vwCl (WM cI cJ cZ cK ad ud pT pK pN pF pS qT qK qN qF qS mKe mUn mFi mRi mBe mWc mAK mSh mIP mUS mWa mWi mSi mRo mSp mRw mSn mBg mLa mMo_117 mRm_90 mOw_21 mGo_91 mFr_92 mQu_93 mCh mPB mPS mFs ub uT uK uN uF uS) H → va_D A (WM cI cJ cZ cK ad ud pT pK pN pF pS qT qK qN qF qS mKe mUn mFi mRi mBe mWc mAK mSh mIP mUS mWa mWi mSi mRo mSp mRw mSn mBg mLa mMo_117 mRm_90 mOw_21 mGo_91 mFr_92 mQu_93 mCh mPB mPS mFs ub uT uK uN uF uS) → va_S A s.heap H locs → lv_has ls 13 [(0, .ref (ad 0)), (1, .int a1), (3, .int x3_112), (4, .int x4_113)] → W p l e (headSpec wsX9_cut rm_X9_cut).room s m args below meth c H locs 0 0 Q (F0 m 432 ls [.int y_116, .int y_115, .int y_114, .ref (ad 22)]) := by
        intro y_114 y_115 y_116 x3_112 x4_113 mMo_117 h H locs ls hP hD hS hl
        refine lv_iadd hx hb dX9_cut_432 ?_
        refine sM_22 hx hb hAB hP hD hS h.1 dX9_cut_433 (fun mMo_118 H locs e_119 hP hD hS => ?_)
        have h := h.2
        have h := h mMo_118 e_119
        refine lv_iload_n hx hb dX9_cut_434 rfl (lv_at hl 2 rfl) ?_
        refine lv_if_ne (tgt := 448) hx hb dX9_cut_435 (by decide) (fun c_120 => ?_) (fun c_120 => ?_)
        · have h := h.1 c_120
          exact B448 x4_113 mMo_118 h H locs ls hP hD hS (lv_sub hl [0, 1, 3] rfl)
        · have h := h.2 c_120
          refine lv_aload_n hx hb dX9_cut_438 rfl (lv_at hl 0 rfl) ?_
          refine va_get (D := D) (ci := 9) (C := RX9) (T := TX9) (N := 32) hx hb hts inn_X9_cut_9 hown hAB.1 hP 0 rfl rfl 22 (by decide) (hts (.fieldLink RX9 69 "BarnBenchModel" "goes" "[Z") (by decide +kernel)) (fun _ h9 => h9) rfl dX9_cut_439 ?_
          refine lv_iload hx hb dX9_cut_442 (lv_at hl 3 rfl) ?_
          refine va_zald hx hb hAB.1 hP 25 2 rfl rfl h.1 dX9_cut_444 ?_
          have h := h.2
          refine lv_if_eq (tgt := 452) hx hb dX9_cut_445 (by decide) (fun c_121 => ?_) (fun c_121 => ?_)
          · have h := h.1 c_121
            refine lv_iconst (v := 0) hx hb dX9_cut_452 (by decide) ?_
            exact B453 0 x4_113 mMo_118 h H locs ls hP hD hS (lv_sub hl [0, 1, 3] rfl)
          · have h := h.2 c_121
            exact B448 x4_113 mMo_118 h H locs ls hP hD hS (lv_sub hl [0, 1, 3] rfl)
      refine lv_iload hx hb dX9_cut_402 (lv_at hl 3 rfl) ?_
      refine lv_bipush (v := 24) hx hb dX9_cut_404 (by decide) ?_
      refine lv_icmp_ge (tgt := 460) hx hb dX9_cut_406 (by decide) (fun c_122 => ?_) (fun c_122 => ?_)
      · have h := h.1 c_122
        exact hk402 x3_100 mMo_102 h H locs ls hP hD hS (lv_sub hl [2] rfl)
      · have h := h.2 c_122
        refine lv_aload_n hx hb dX9_cut_409 rfl (lv_at hl 0 rfl) ?_
        refine va_get (D := D) (ci := 9) (C := RX9) (T := TX9) (N := 32) hx hb hts inn_X9_cut_9 hown hAB.1 hP 0 rfl rfl 19 (by decide) (hts (.fieldLink RX9 60 "BarnBenchModel" "moments" "[I") (by decide +kernel)) (fun _ h9 => h9) rfl dX9_cut_410 ?_
        refine lv_iload hx hb dX9_cut_413 (lv_at hl 3 rfl) ?_
        refine lv_dup2_11 hx hb dX9_cut_415 rfl rfl ?_
        refine va_iald hx hb hAB.1 hP 22 0 rfl rfl h.1 dX9_cut_416 ?_
        have h := h.2
        refine lv_aload_n hx hb dX9_cut_417 rfl (lv_at hl 0 rfl) ?_
        refine va_get (D := D) (ci := 9) (C := RX9) (T := TX9) (N := 32) hx hb hts inn_X9_cut_9 hown hAB.1 hP 0 rfl rfl 22 (by decide) (hts (.fieldLink RX9 69 "BarnBenchModel" "goes" "[Z") (by decide +kernel)) (fun _ h9 => h9) rfl dX9_cut_418 ?_
        refine lv_iload hx hb dX9_cut_421 (lv_at hl 3 rfl) ?_
        refine va_zald hx hb hAB.1 hP 25 2 rfl rfl h.1 dX9_cut_423 ?_
        have h := h.2
        refine lv_if_eq (tgt := 431) hx hb dX9_cut_424 (by decide) (fun c_123 => ?_) (fun c_123 => ?_)
        · have h := h.1 c_123
          refine lv_iconst (v := 0) hx hb dX9_cut_431 (by decide) ?_
          exact B432 x4_101 (mMo_102 (Int32.toNatClampNeg x4_101)) 0 x3_100 x4_101 mMo_102 h H locs ls hP hD hS (lv_sub hl [0, 1, 2, 3] rfl)
        · have h := h.2 c_123
          refine lv_iload_n hx hb dX9_cut_427 rfl (lv_at hl 1 rfl) ?_
          refine lv_goto (tgt := 432) hx hb dX9_cut_428 (by decide) ?_
          exact B432 x4_101 (mMo_102 (Int32.toNatClampNeg x4_101)) a1 x3_100 x4_101 mMo_102 h H locs ls hP hD hS (lv_sub hl [0, 1, 2, 3] rfl)
  obtain ⟨n402, h⟩ := h
  refine L402 _ (fun x3_103 mMo_104 h H locs ls hP hD hS hl => ?_) n402 0 0 mMo h H locs ls hP hD hS (lv_sub hl [2, 3, 1, 0] rfl)
  refine lv_iload_n hx hb dX9_cut_460 rfl (lv_at hl 0 rfl) ?_
  exact rt_z (mMo_104, mRm_90, mOw_21, mGo_91, mFr_92, mQu_93) hQ hx hb hr hlk hP hD hS ⟨Nat.zero_le _, Nat.zero_le _⟩ h.1 dX9_cut_461 h.2
def wp_X9_know_b87 (k49 : (Int32) → (Nat → Int32) → Prop) (x2_19 : Int32) (mSn_20 : Nat → Int32) : Prop :=
  ∀ x2_21 : Int32, x2_21 = x2_19 + 1 → k49 x2_21 mSn_20
def wp_X9_know_L49 (pK : Nat → Int32) (pN : Nat → Int32) (x1_8 : Int32) (x49 : (Nat → Int32) → Prop) : Nat → (Int32) → (Nat → Int32) → Prop
  | 0, _, _ => False
  | n49 + 1, x2_16, mSn_17 =>
  vp_in x1_8 12 ∧ (((mSn_17 (Int32.toNatClampNeg x1_8)) ≤ x2_16 → x49 mSn_17) ∧
   (¬ (mSn_17 (Int32.toNatClampNeg x1_8)) ≤ x2_16 → wp_X9_costOf pK pN x1_8 x2_16 (fun (r_24 : Int64) => vp_in x1_8 12 ∧ wp_X9_costOf pK pN x1_8 (mSn_17 (Int32.toNatClampNeg x1_8)) (fun (r_25 : Int64) => ((0 ≤ (lg_cmp r_24 r_25) → wp_X9_know_b87 (wp_X9_know_L49 pK pN x1_8 x49 n49) x2_16 mSn_17) ∧
   (¬ 0 ≤ (lg_cmp r_24 r_25) → vp_in x1_8 12 ∧ ∀ mSn_27 : Nat → Int32, mSn_27 = upd mSn_17 (Int32.toNatClampNeg x1_8) x2_16 → wp_X9_know_b87 (wp_X9_know_L49 pK pN x1_8 x49 n49) x2_16 mSn_27))))))
def wp_X9_know_L19 (pK : Nat → Int32) (pN : Nat → Int32) (pT : Int32) (x19 : (Nat → Int32) → Prop) : Nat → (Int32) → (Nat → Int32) → Prop
  | 0, _, _ => False
  | n19 + 1, x1_8, mSn_9 =>
  ((pT ≤ x1_8 → x19 mSn_9) ∧
   (¬ pT ≤ x1_8 → wp_X9_number pN x1_8 0 (fun (r_12 : Int32) => vp_in x1_8 12 ∧ ∀ mSn_13 : Nat → Int32, mSn_13 = upd mSn_9 (Int32.toNatClampNeg x1_8) r_12 → wp_X9_number pN x1_8 1 (fun (r_15 : Int32) => (∃ n49 : Nat, wp_X9_know_L49 pK pN x1_8 (fun (mSn_18 : Nat → Int32) => ∀ x1_29 : Int32, x1_29 = x1_8 + 1 → (wp_X9_know_L19 pK pN pT x19 n19) x1_29 mSn_18) n49 r_15 mSn_13)))))
def wp_X9_know_L120 (pF : Nat → Int32) (pK : Nat → Int32) (pN : Nat → Int32) (pT : Int32) (x2_35 : Int32) (x120 : (Nat → Int32) → (Nat → Int64) → (Nat → Int64) → (Nat → Int32) → (Nat → Int32) → (Nat → Int32) → Prop) : Nat → (Nat → Int32) → (Nat → Int64) → (Nat → Int64) → (Nat → Int32) → (Nat → Int32) → (Nat → Int32) → Prop
  | 0, _, _, _, _, _, _ => False
  | n120 + 1, mMo_51, mRm_52, mOw_53, mGo_54, mFr_55, mQu_56 =>
  wp_X9_lengthNow pT mMo_51 (fun (r_63 : Int32) => ((r_63 ≤ x2_35 → x120 mMo_51 mRm_52 mOw_53 mGo_54 mFr_55 mQu_56) ∧
   (¬ r_63 ≤ x2_35 → wp_X9_cut pT pK pN pF mMo_51 mRm_52 mOw_53 mGo_54 mFr_55 mQu_56 (-1) x2_35 (fun (r_65 : Int32) (mMo_66 : Nat → Int32) (mRm_67 : Nat → Int64) (mOw_68 : Nat → Int64) (mGo_69 : Nat → Int32) (mFr_70 : Nat → Int32) (mQu_71 : Nat → Int32) => (wp_X9_know_L120 pF pK pN pT x2_35 x120 n120) mMo_66 mRm_67 mOw_68 mGo_69 mFr_70 mQu_71))))
def wp_X9_know_L112 (pF : Nat → Int32) (pK : Nat → Int32) (pN : Nat → Int32) (pT : Int32) (mSh_6 : Int32) (x112 : (Nat → Int32) → (Nat → Int64) → (Nat → Int64) → (Nat → Int32) → (Nat → Int32) → (Nat → Int32) → (Nat → Int64) → Prop) : Nat → (Int32) → (Nat → Int32) → (Nat → Int64) → (Nat → Int64) → (Nat → Int32) → (Nat → Int32) → (Nat → Int32) → (Nat → Int64) → Prop
  | 0, _, _, _, _, _, _, _, _ => False
  | n112 + 1, x2_35, mMo_36, mRm_37, mOw_38, mGo_39, mFr_40, mQu_41, mCh_42 =>
  ((x2_35 < mSh_6 → x112 mMo_36 mRm_37 mOw_38 mGo_39 mFr_40 mQu_41 mCh_42) ∧
   (¬ x2_35 < mSh_6 → (∃ n120 : Nat, wp_X9_know_L120 pF pK pN pT x2_35 (fun (mMo_57 : Nat → Int32) (mRm_58 : Nat → Int64) (mOw_59 : Nat → Int64) (mGo_60 : Nat → Int32) (mFr_61 : Nat → Int32) (mQu_62 : Nat → Int32) => wp_X9_costNow pT pK pN mMo_57 (fun (r_72 : Int64) => vp_in x2_35 721 ∧ ∀ mCh_73 : Nat → Int64, mCh_73 = vp_updL mCh_42 (Int32.toNatClampNeg x2_35) r_72 → ∀ x2_75 : Int32, x2_75 = x2_35 + (-1) → (wp_X9_know_L112 pF pK pN pT mSh_6 x112 n112) x2_75 mMo_57 mRm_58 mOw_59 mGo_60 mFr_61 mQu_62 mCh_73)) n120 mMo_36 mRm_37 mOw_38 mGo_39 mFr_40 mQu_41)))
def wp_X9_know (pT : Int32) (pK : Nat → Int32) (pN : Nat → Int32) (pF : Nat → Int32) (mAK : Int32) (mSh : Int32) (mRw : Nat → Int32) (mSn : Nat → Int32) (mBg : Nat → Int32) (mMo : Nat → Int32) (mRm : Nat → Int64) (mOw : Nat → Int64) (mGo : Nat → Int32) (mFr : Nat → Int32) (mQu : Nat → Int32) (mCh : Nat → Int64)  (Qp : (Int32) → (Int32) → (Nat → Int32) → (Nat → Int32) → (Nat → Int32) → (Nat → Int32) → (Nat → Int64) → (Nat → Int64) → (Nat → Int32) → (Nat → Int32) → (Nat → Int32) → (Nat → Int64) → Prop) : Prop :=
  ((mAK = 0 → wp_X9_longest pT pN pF mRw mSn mBg 1 (fun (r_2 : Int32) (mRw_3 : Nat → Int32) (mSn_4 : Nat → Int32) (mBg_5 : Nat → Int32) => ∀ mSh_6 : Int32, mSh_6 = r_2 → (∃ n19 : Nat, wp_X9_know_L19 pK pN pT (fun (mSn_10 : Nat → Int32) => wp_X9_early pT pF mRw_3 mSn_10 mBg_5 (fun (r_31 : Int32) (mRw_32 : Nat → Int32) (mBg_33 : Nat → Int32) => wp_X9_take pT mSn_10 mBg_33 mMo (fun (mMo_34 : Nat → Int32) => (∃ n112 : Nat, wp_X9_know_L112 pF pK pN pT mSh_6 (fun (mMo_43 : Nat → Int32) (mRm_44 : Nat → Int64) (mOw_45 : Nat → Int64) (mGo_46 : Nat → Int32) (mFr_47 : Nat → Int32) (mQu_48 : Nat → Int32) (mCh_49 : Nat → Int64) => ∀ mAK_77 : Int32, mAK_77 = 1 → Qp mAK_77 mSh_6 mRw_32 mSn_10 mBg_33 mMo_43 mRm_44 mOw_45 mGo_46 mFr_47 mQu_48 mCh_49) n112 720 mMo_34 mRm mOw mGo mFr mQu mCh)))) n19 0 mSn_4))) ∧
   (¬ mAK = 0 → Qp mAK mSh mRw mSn mBg mMo mRm mOw mGo mFr mQu mCh))
theorem inn_X9_know_8 : ∀ w ∈ u_ws RX8 TX8 5, w ∈ wsX9_know := fun _ h => List.mem_cons_of_mem _ (List.mem_append_right _ h)
theorem inn_X9_know_9 : ∀ w ∈ u_ws RX9 TX9 32, w ∈ wsX9_know := fun _ h => List.mem_cons_of_mem _ (List.mem_append_left _ (List.mem_append_right _ h))
def rm_X9_know : Room := { frames := 4, cells := 0, slots := 0, locals := 93 }
set_option maxHeartbeats 4000000 in
set_option maxRecDepth 100000 in
theorem ct_X9_know {l : Launch} {D : va_G} {cI cJ cZ cE cD cK : ClassId} {ad : Nat → Nat} {ud : Nat → Nat → Nat} {pT : Int32} {pK : Nat → Int32} {pN : Nat → Int32} {pF : Nat → Int32} {pS : Nat → Int32} {qT : Int32} {qK : Nat → Int32} {qN : Nat → Int32} {qF : Nat → Int32} {qS : Nat → Int32} {mKe : Int32} {mUn : Int32} {mFi : Int32} {mRi : Int32} {mBe : Int64} {mWc : Int32} {mAK : Int32} {mSh : Int32} {mIP : Int32} {mUS : Nat → Int32} {mWa : Nat → Int32} {mWi : Nat → Int32} {mSi : Nat → Int32} {mRo : Nat → Int64} {mSp : Nat → Int64} {mRw : Nat → Int32} {mSn : Nat → Int32} {mBg : Nat → Int32} {mLa : Nat → Int32} {mMo : Nat → Int32} {mRm : Nat → Int64} {mOw : Nat → Int64} {mGo : Nat → Int32} {mFr : Nat → Int32} {mQu : Nat → Int32} {mCh : Nat → Int64} {mPB : Nat → Int32} {mPS : Nat → Int32} {mFs : Nat → Int32} {ub : Nat → Nat} {uT : Nat → Int32} {uK : Nat → Nat → Int32} {uN : Nat → Nat → Int32} {uF : Nat → Nat → Int32} {uS : Nat → Nat → Int32}    {Qp : (Int32) → (Int32) → (Nat → Int32) → (Nat → Int32) → (Nat → Int32) → (Nat → Int32) → (Nat → Int64) → (Nat → Int64) → (Nat → Int32) → (Nat → Int32) → (Nat → Int32) → (Nat → Int64) → Prop}   (h : wp_X9_know pT pK pN pF mAK mSh mRw mSn mBg mMo mRm mOw mGo mFr mQu mCh Qp) : CTv l yX9_know wsX9_know rm_X9_know D (tyL cI cJ cZ cE cD cK) [.ref (ad 0)] (WM cI cJ cZ cK ad ud pT pK pN pF pS qT qK qN qF qS mKe mUn mFi mRi mBe mWc mAK mSh mIP mUS mWa mWi mSi mRo mSp mRw mSn mBg mLa mMo mRm mOw mGo mFr mQu mCh mPB mPS mFs ub uT uK uN uF uS) (fun u : (Int32) × (Int32) × (Nat → Int32) × (Nat → Int32) × (Nat → Int32) × (Nat → Int32) × (Nat → Int64) × (Nat → Int64) × (Nat → Int32) × (Nat → Int32) × (Nat → Int32) × (Nat → Int64) => Qp u.1 u.2.1 u.2.2.1 u.2.2.2.1 u.2.2.2.2.1 u.2.2.2.2.2.1 u.2.2.2.2.2.2.1 u.2.2.2.2.2.2.2.1 u.2.2.2.2.2.2.2.2.1 u.2.2.2.2.2.2.2.2.2.1 u.2.2.2.2.2.2.2.2.2.2.1 u.2.2.2.2.2.2.2.2.2.2.2) (fun u : (Int32) × (Int32) × (Nat → Int32) × (Nat → Int32) × (Nat → Int32) × (Nat → Int32) × (Nat → Int64) × (Nat → Int64) × (Nat → Int32) × (Nat → Int32) × (Nat → Int32) × (Nat → Int64) => (WM cI cJ cZ cK ad ud pT pK pN pF pS qT qK qN qF qS mKe mUn mFi mRi mBe mWc u.1 u.2.1 mIP mUS mWa mWi mSi mRo mSp u.2.2.1 u.2.2.2.1 u.2.2.2.2.1 mLa u.2.2.2.2.2.1 u.2.2.2.2.2.2.1 u.2.2.2.2.2.2.2.1 u.2.2.2.2.2.2.2.2.1 u.2.2.2.2.2.2.2.2.2.1 u.2.2.2.2.2.2.2.2.2.2.1 u.2.2.2.2.2.2.2.2.2.2.2 mPB mPS mFs ub uT uK uN uF uS)) 0 0 := by
  refine ent_v (cc := cX9_know) (maxL := 4) (ret := none) (by decide) rfl (Nat.le_of_ble_eq_true rfl) ?_
  intro p e s m args below meth c A Q hQ hx hb hr hml hown hts hlk hA hAB hP hD hS ls hl
  have hown : s.vm.findClass RX9 = some m.cls := hown
  have hl : lv_has ls 4 [(0, .ref (ad 0))] := hl
  generalize hH : s.heap = H at hP ⊢
  have hS : va_S A s.heap H [] := by rw [← hH]; exact hS
  clear hH
  generalize ([] : List Loc) = locs at hS ⊢
  refine lv_aload_n hx hb dX9_know_0 rfl (lv_at hl 0 rfl) ?_
  refine va_get (D := D) (ci := 9) (C := RX9) (T := TX9) (N := 32) hx hb hts inn_X9_know_9 hown hAB.1 hP 0 rfl rfl 25 (by decide) (hts (.fieldLink RX9 125 "BarnBenchModel" "areKnown" "Z") (by decide +kernel)) (fun _ h9 => h9) rfl dX9_know_1 ?_
  refine lv_if_eq (tgt := 8) hx hb dX9_know_4 (by decide) (fun c_1 => ?_) (fun c_1 => ?_)
  · have h := h.1 c_1
    refine lv_aload_n hx hb dX9_know_8 rfl (lv_at hl 0 rfl) ?_
    refine lv_aload_n hx hb dX9_know_9 rfl (lv_at hl 0 rfl) ?_
    refine lv_iconst (v := 1) hx hb dX9_know_10 (by decide) ?_
    refine cl_i hD hS hA (va_runV (As := [.int 1]) (rest := [.ref (ad 0)]) ⟨hx, hb, hml, hown, hts⟩ (ct_X9_longest h H.size) (cwV 1 hts gX9_know_X9_longest rfl rfl rfl (by decide +kernel) ⟨Nat.le_of_ble_eq_true rfl, Nat.le_of_ble_eq_true rfl⟩) ⟨CPre.blind, va_recv hAB.1 hP (ci := 9) (q0 := 0) rfl rfl, wd_pre hAB hP hD hS hA⟩ rfl rfl hl.1 rfl (lv_room (Nat.le_of_ble_eq_true rfl)) dX9_know_11 ⟨Nat.zero_le _, Nat.zero_le _⟩) (fun r_2 u H locs h hP hD hS => ?_)
    obtain ⟨mRw_3, mSn_4, mBg_5⟩ := u
    have hP : va_P D vwCl (WM cI cJ cZ cK ad ud pT pK pN pF pS qT qK qN qF qS mKe mUn mFi mRi mBe mWc mAK mSh mIP mUS mWa mWi mSi mRo mSp mRw_3 mSn_4 mBg_5 mLa mMo mRm mOw mGo mFr mQu mCh mPB mPS mFs ub uT uK uN uF uS) H := hP
    have hD : va_D A (WM cI cJ cZ cK ad ud pT pK pN pF pS qT qK qN qF qS mKe mUn mFi mRi mBe mWc mAK mSh mIP mUS mWa mWi mSi mRo mSp mRw_3 mSn_4 mBg_5 mLa mMo mRm mOw mGo mFr mQu mCh mPB mPS mFs ub uT uK uN uF uS) := hD
    refine fM_0_shortest hx hb hAB hP hD hS hts inn_X9_know_9 hown (hts (.fieldLink RX9 235 "BarnBenchModel" "shortest" "I") (by decide +kernel)) dX9_know_14 (fun mSh_6 H locs e_7 hP hD hS => ?_)
    have h := h mSh_6 e_7
    refine lv_iconst (v := 0) hx hb dX9_know_17 (by decide) ?_
    refine lv_istore_n (lv' := [(1, .int 0), (0, .ref (ad 0))]) hx hb dX9_know_18 rfl hl (by decide) rfl (fun ls hl => ?_)
    have L19 : ∀ (x19 : (Nat → Int32) → Prop) (hk19 : ∀ (mSn_10 : Nat → Int32), x19 mSn_10 → ∀ (H : Heap) (locs : List Loc) (ls : Array Slot), va_P D vwCl (WM cI cJ cZ cK ad ud pT pK pN pF pS qT qK qN qF qS mKe mUn mFi mRi mBe mWc mAK mSh_6 mIP mUS mWa mWi mSi mRo mSp mRw_3 mSn_10 mBg_5 mLa mMo mRm mOw mGo mFr mQu mCh mPB mPS mFs ub uT uK uN uF uS) H → va_D A (WM cI cJ cZ cK ad ud pT pK pN pF pS qT qK qN qF qS mKe mUn mFi mRi mBe mWc mAK mSh_6 mIP mUS mWa mWi mSi mRo mSp mRw_3 mSn_10 mBg_5 mLa mMo mRm mOw mGo mFr mQu mCh mPB mPS mFs ub uT uK uN uF uS) → va_S A s.heap H locs → lv_has ls 4 [(0, .ref (ad 0))] → W p l e (headSpec wsX9_know rm_X9_know).room s m args below meth c H locs 0 0 Q (F0 m 99 ls [])) (n19 : Nat) (x1_8 : Int32) (mSn_9 : Nat → Int32), wp_X9_know_L19 pK pN pT x19 n19 x1_8 mSn_9 → ∀ (H : Heap) (locs : List Loc) (ls : Array Slot), va_P D vwCl (WM cI cJ cZ cK ad ud pT pK pN pF pS qT qK qN qF qS mKe mUn mFi mRi mBe mWc mAK mSh_6 mIP mUS mWa mWi mSi mRo mSp mRw_3 mSn_9 mBg_5 mLa mMo mRm mOw mGo mFr mQu mCh mPB mPS mFs ub uT uK uN uF uS) H → va_D A (WM cI cJ cZ cK ad ud pT pK pN pF pS qT qK qN qF qS mKe mUn mFi mRi mBe mWc mAK mSh_6 mIP mUS mWa mWi mSi mRo mSp mRw_3 mSn_9 mBg_5 mLa mMo mRm mOw mGo mFr mQu mCh mPB mPS mFs ub uT uK uN uF uS) → va_S A s.heap H locs → lv_has ls 4 [(0, .ref (ad 0)), (1, .int x1_8)] → W p l e (headSpec wsX9_know rm_X9_know).room s m args below meth c H locs 0 0 Q (F0 m 19 ls []) := by
      intro x19 hk19 n19
      induction n19 with
      | zero => intro x1_8 mSn_9 h; exact False.elim h
      | succ n19 ih19 =>
        intro x1_8 mSn_9 h H locs ls hP hD hS hl
        refine lv_iload_n hx hb dX9_know_19 rfl (lv_at hl 1 rfl) ?_
        refine lv_aload_n hx hb dX9_know_20 rfl (lv_at hl 0 rfl) ?_
        refine va_get (D := D) (ci := 9) (C := RX9) (T := TX9) (N := 32) hx hb hts inn_X9_know_9 hown hAB.1 hP 0 rfl rfl 0 (by decide) (hts (.fieldLink RX9 10 "BarnBenchModel" "b" "LBarnBenchModel$Book;") (by decide +kernel)) (fun _ h9 => h9) rfl dX9_know_21 ?_
        refine va_get (D := D) (ci := 8) (C := RX8) (T := TX8) (N := 5) hx hb hts inn_X9_know_8 hown hAB.1 hP 1 rfl rfl 0 (by decide) (hts (.fieldLink RX9 94 "BarnBenchModel$Book" "tasks" "I") (by decide +kernel)) (fun _ h9 => h9) rfl dX9_know_24 ?_
        refine lv_icmp_ge (tgt := 99) hx hb dX9_know_27 (by decide) (fun c_11 => ?_) (fun c_11 => ?_)
        · have h := h.1 c_11
          exact hk19 mSn_9 h H locs ls hP hD hS (lv_sub hl [0] rfl)
        · have h := h.2 c_11
          refine lv_aload_n hx hb dX9_know_30 rfl (lv_at hl 0 rfl) ?_
          refine va_get (D := D) (ci := 9) (C := RX9) (T := TX9) (N := 32) hx hb hts inn_X9_know_9 hown hAB.1 hP 0 rfl rfl 16 (by decide) (hts (.fieldLink RX9 51 "BarnBenchModel" "spans" "[I") (by decide +kernel)) (fun _ h9 => h9) rfl dX9_know_31 ?_
          refine lv_iload_n hx hb dX9_know_34 rfl (lv_at hl 1 rfl) ?_
          refine lv_aload_n hx hb dX9_know_35 rfl (lv_at hl 0 rfl) ?_
          refine lv_iload_n hx hb dX9_know_36 rfl (lv_at hl 1 rfl) ?_
          refine lv_iconst (v := 0) hx hb dX9_know_37 (by decide) ?_
          refine cl_i hD hS hA (va_runV (As := [.int x1_8, .int 0]) (rest := [.int x1_8, .ref (ad 19)]) ⟨hx, hb, hml, hown, hts⟩ (ct_X9_number h H.size) (cwV 2 hts gX9_know_X9_number rfl rfl rfl (by decide +kernel) ⟨Nat.le_of_ble_eq_true rfl, Nat.le_of_ble_eq_true rfl⟩) ⟨CPre.blind, va_recv hAB.1 hP (ci := 9) (q0 := 0) rfl rfl, wd_pre hAB hP hD hS hA⟩ rfl rfl hl.1 rfl (lv_room (Nat.le_of_ble_eq_true rfl)) dX9_know_38 ⟨Nat.zero_le _, Nat.zero_le _⟩) (fun r_12 u H locs h hP hD hS => ?_)
          refine sM_19 hx hb hAB hP hD hS h.1 dX9_know_41 (fun mSn_13 H locs e_14 hP hD hS => ?_)
          have h := h.2
          have h := h mSn_13 e_14
          refine lv_aload_n hx hb dX9_know_42 rfl (lv_at hl 0 rfl) ?_
          refine lv_iload_n hx hb dX9_know_43 rfl (lv_at hl 1 rfl) ?_
          refine lv_iconst (v := 1) hx hb dX9_know_44 (by decide) ?_
          refine cl_i hD hS hA (va_runV (As := [.int x1_8, .int 1]) (rest := []) ⟨hx, hb, hml, hown, hts⟩ (ct_X9_number h H.size) (cwV 2 hts gX9_know_X9_number rfl rfl rfl (by decide +kernel) ⟨Nat.le_of_ble_eq_true rfl, Nat.le_of_ble_eq_true rfl⟩) ⟨CPre.blind, va_recv hAB.1 hP (ci := 9) (q0 := 0) rfl rfl, wd_pre hAB hP hD hS hA⟩ rfl rfl hl.1 rfl (lv_room (Nat.le_of_ble_eq_true rfl)) dX9_know_45 ⟨Nat.zero_le _, Nat.zero_le _⟩) (fun r_15 u H locs h hP hD hS => ?_)
          refine lv_istore_n (lv' := [(2, .int r_15), (0, .ref (ad 0)), (1, .int x1_8)]) hx hb dX9_know_48 rfl hl (by decide) rfl (fun ls hl => ?_)
          have L49 : ∀ (x49 : (Nat → Int32) → Prop) (hk49 : ∀ (mSn_18 : Nat → Int32), x49 mSn_18 → ∀ (H : Heap) (locs : List Loc) (ls : Array Slot), va_P D vwCl (WM cI cJ cZ cK ad ud pT pK pN pF pS qT qK qN qF qS mKe mUn mFi mRi mBe mWc mAK mSh_6 mIP mUS mWa mWi mSi mRo mSp mRw_3 mSn_18 mBg_5 mLa mMo mRm mOw mGo mFr mQu mCh mPB mPS mFs ub uT uK uN uF uS) H → va_D A (WM cI cJ cZ cK ad ud pT pK pN pF pS qT qK qN qF qS mKe mUn mFi mRi mBe mWc mAK mSh_6 mIP mUS mWa mWi mSi mRo mSp mRw_3 mSn_18 mBg_5 mLa mMo mRm mOw mGo mFr mQu mCh mPB mPS mFs ub uT uK uN uF uS) → va_S A s.heap H locs → lv_has ls 4 [(0, .ref (ad 0)), (1, .int x1_8)] → W p l e (headSpec wsX9_know rm_X9_know).room s m args below meth c H locs 0 0 Q (F0 m 93 ls [])) (n49 : Nat) (x2_16 : Int32) (mSn_17 : Nat → Int32), wp_X9_know_L49 pK pN x1_8 x49 n49 x2_16 mSn_17 → ∀ (H : Heap) (locs : List Loc) (ls : Array Slot), va_P D vwCl (WM cI cJ cZ cK ad ud pT pK pN pF pS qT qK qN qF qS mKe mUn mFi mRi mBe mWc mAK mSh_6 mIP mUS mWa mWi mSi mRo mSp mRw_3 mSn_17 mBg_5 mLa mMo mRm mOw mGo mFr mQu mCh mPB mPS mFs ub uT uK uN uF uS) H → va_D A (WM cI cJ cZ cK ad ud pT pK pN pF pS qT qK qN qF qS mKe mUn mFi mRi mBe mWc mAK mSh_6 mIP mUS mWa mWi mSi mRo mSp mRw_3 mSn_17 mBg_5 mLa mMo mRm mOw mGo mFr mQu mCh mPB mPS mFs ub uT uK uN uF uS) → va_S A s.heap H locs → lv_has ls 4 [(0, .ref (ad 0)), (1, .int x1_8), (2, .int x2_16)] → W p l e (headSpec wsX9_know rm_X9_know).room s m args below meth c H locs 0 0 Q (F0 m 49 ls []) := by
            intro x49 hk49 n49
            induction n49 with
            | zero => intro x2_16 mSn_17 h; exact False.elim h
            | succ n49 ih49 =>
              intro x2_16 mSn_17 h H locs ls hP hD hS hl
              have B87 : ∀ (x2_19 : Int32) (mSn_20 : Nat → Int32), wp_X9_know_b87 (wp_X9_know_L49 pK pN x1_8 x49 n49) x2_19 mSn_20 → ∀ (H : Heap) (locs : List Loc) (ls : Array Slot), va_P D vwCl (WM cI cJ cZ cK ad ud pT pK pN pF pS qT qK qN qF qS mKe mUn mFi mRi mBe mWc mAK mSh_6 mIP mUS mWa mWi mSi mRo mSp mRw_3 mSn_20 mBg_5 mLa mMo mRm mOw mGo mFr mQu mCh mPB mPS mFs ub uT uK uN uF uS) H → va_D A (WM cI cJ cZ cK ad ud pT pK pN pF pS qT qK qN qF qS mKe mUn mFi mRi mBe mWc mAK mSh_6 mIP mUS mWa mWi mSi mRo mSp mRw_3 mSn_20 mBg_5 mLa mMo mRm mOw mGo mFr mQu mCh mPB mPS mFs ub uT uK uN uF uS) → va_S A s.heap H locs → lv_has ls 4 [(0, .ref (ad 0)), (1, .int x1_8), (2, .int x2_19)] → W p l e (headSpec wsX9_know rm_X9_know).room s m args below meth c H locs 0 0 Q (F0 m 87 ls []) := by
                intro x2_19 mSn_20 h H locs ls hP hD hS hl
                obtain ⟨x2_21, e_22⟩ : ∃ y : Int32, y = x2_19 + 1 := ⟨_, rfl⟩
                have h := h x2_21 e_22
                refine lv_iinc (v := x2_21) (lv' := [(2, .int x2_21), (0, .ref (ad 0)), (1, .int x1_8)]) hx hb dX9_know_87 hl (k := 2) rfl (by rw [e_22]; rfl) (by decide) rfl (fun ls hl => ?_)
                refine lv_goto (tgt := 49) hx hb dX9_know_90 (by decide) ?_
                exact ih49 x2_21 mSn_20 h H locs ls hP hD hS (lv_sub hl [1, 2, 0] rfl)
              refine lv_iload_n hx hb dX9_know_49 rfl (lv_at hl 2 rfl) ?_
              refine lv_aload_n hx hb dX9_know_50 rfl (lv_at hl 0 rfl) ?_
              refine va_get (D := D) (ci := 9) (C := RX9) (T := TX9) (N := 32) hx hb hts inn_X9_know_9 hown hAB.1 hP 0 rfl rfl 16 (by decide) (hts (.fieldLink RX9 51 "BarnBenchModel" "spans" "[I") (by decide +kernel)) (fun _ h9 => h9) rfl dX9_know_51 ?_
              refine lv_iload_n hx hb dX9_know_54 rfl (lv_at hl 1 rfl) ?_
              refine va_iald hx hb hAB.1 hP 19 0 rfl rfl h.1 dX9_know_55 ?_
              have h := h.2
              refine lv_icmp_ge (tgt := 93) hx hb dX9_know_56 (by decide) (fun c_23 => ?_) (fun c_23 => ?_)
              · have h := h.1 c_23
                exact hk49 mSn_17 h H locs ls hP hD hS (lv_sub hl [0, 1] rfl)
              · have h := h.2 c_23
                refine lv_aload_n hx hb dX9_know_59 rfl (lv_at hl 0 rfl) ?_
                refine lv_iload_n hx hb dX9_know_60 rfl (lv_at hl 1 rfl) ?_
                refine lv_iload_n hx hb dX9_know_61 rfl (lv_at hl 2 rfl) ?_
                refine cl_l hD hS hA (va_runV (As := [.int x1_8, .int x2_16]) (rest := []) ⟨hx, hb, hml, hown, hts⟩ (ct_X9_costOf h H.size) (cwV 2 hts gX9_know_X9_costOf rfl rfl rfl (by decide +kernel) ⟨Nat.le_of_ble_eq_true rfl, Nat.le_of_ble_eq_true rfl⟩) ⟨CPre.blind, va_recv hAB.1 hP (ci := 9) (q0 := 0) rfl rfl, wd_pre hAB hP hD hS hA⟩ rfl rfl hl.1 rfl (lv_room (Nat.le_of_ble_eq_true rfl)) dX9_know_62 ⟨Nat.zero_le _, Nat.zero_le _⟩) (fun r_24 u H locs h hP hD hS => ?_)
                refine lv_aload_n hx hb dX9_know_65 rfl (lv_at hl 0 rfl) ?_
                refine lv_iload_n hx hb dX9_know_66 rfl (lv_at hl 1 rfl) ?_
                refine lv_aload_n hx hb dX9_know_67 rfl (lv_at hl 0 rfl) ?_
                refine va_get (D := D) (ci := 9) (C := RX9) (T := TX9) (N := 32) hx hb hts inn_X9_know_9 hown hAB.1 hP 0 rfl rfl 16 (by decide) (hts (.fieldLink RX9 51 "BarnBenchModel" "spans" "[I") (by decide +kernel)) (fun _ h9 => h9) rfl dX9_know_68 ?_
                refine lv_iload_n hx hb dX9_know_71 rfl (lv_at hl 1 rfl) ?_
                refine va_iald hx hb hAB.1 hP 19 0 rfl rfl h.1 dX9_know_72 ?_
                have h := h.2
                refine cl_l hD hS hA (va_runV (As := [.int x1_8, .int (mSn_17 (Int32.toNatClampNeg x1_8))]) (rest := [.long r_24]) ⟨hx, hb, hml, hown, hts⟩ (ct_X9_costOf h H.size) (cwV 2 hts gX9_know_X9_costOf rfl rfl rfl (by decide +kernel) ⟨Nat.le_of_ble_eq_true rfl, Nat.le_of_ble_eq_true rfl⟩) ⟨CPre.blind, va_recv hAB.1 hP (ci := 9) (q0 := 0) rfl rfl, wd_pre hAB hP hD hS hA⟩ rfl rfl hl.1 rfl (lv_room (Nat.le_of_ble_eq_true rfl)) dX9_know_73 ⟨Nat.zero_le _, Nat.zero_le _⟩) (fun r_25 u H locs h hP hD hS => ?_)
                refine W.lcmp hx hb dX9_know_76 ?_
                refine lv_if_ge (tgt := 87) hx hb dX9_know_77 (by decide) (fun c_26 => ?_) (fun c_26 => ?_)
                · have h := h.1 c_26
                  exact B87 x2_16 mSn_17 h H locs ls hP hD hS (lv_sub hl [0, 1, 2] rfl)
                · have h := h.2 c_26
                  refine lv_aload_n hx hb dX9_know_80 rfl (lv_at hl 0 rfl) ?_
                  refine va_get (D := D) (ci := 9) (C := RX9) (T := TX9) (N := 32) hx hb hts inn_X9_know_9 hown hAB.1 hP 0 rfl rfl 16 (by decide) (hts (.fieldLink RX9 51 "BarnBenchModel" "spans" "[I") (by decide +kernel)) (fun _ h9 => h9) rfl dX9_know_81 ?_
                  refine lv_iload_n hx hb dX9_know_84 rfl (lv_at hl 1 rfl) ?_
                  refine lv_iload_n hx hb dX9_know_85 rfl (lv_at hl 2 rfl) ?_
                  refine sM_19 hx hb hAB hP hD hS h.1 dX9_know_86 (fun mSn_27 H locs e_28 hP hD hS => ?_)
                  have h := h.2
                  have h := h mSn_27 e_28
                  exact B87 x2_16 mSn_27 h H locs ls hP hD hS (lv_sub hl [0, 1, 2] rfl)
          obtain ⟨n49, h⟩ := h
          refine L49 _ (fun mSn_18 h H locs ls hP hD hS hl => ?_) n49 r_15 mSn_13 h H locs ls hP hD hS (lv_sub hl [1, 2, 0] rfl)
          obtain ⟨x1_29, e_30⟩ : ∃ y : Int32, y = x1_8 + 1 := ⟨_, rfl⟩
          have h := h x1_29 e_30
          refine lv_iinc (v := x1_29) (lv' := [(1, .int x1_29), (0, .ref (ad 0))]) hx hb dX9_know_93 hl (k := 1) rfl (by rw [e_30]; rfl) (by decide) rfl (fun ls hl => ?_)
          refine lv_goto (tgt := 19) hx hb dX9_know_96 (by decide) ?_
          exact ih19 x1_29 mSn_18 h H locs ls hP hD hS (lv_sub hl [1, 0] rfl)
    obtain ⟨n19, h⟩ := h
    refine L19 _ (fun mSn_10 h H locs ls hP hD hS hl => ?_) n19 0 mSn_4 h H locs ls hP hD hS (lv_sub hl [1, 0] rfl)
    refine lv_aload_n hx hb dX9_know_99 rfl (lv_at hl 0 rfl) ?_
    refine cl_i hD hS hA (va_runV (As := []) (rest := []) ⟨hx, hb, hml, hown, hts⟩ (ct_X9_early h H.size) (cwV 0 hts gX9_know_X9_early rfl rfl rfl (by decide +kernel) ⟨Nat.le_of_ble_eq_true rfl, Nat.le_of_ble_eq_true rfl⟩) ⟨CPre.blind, va_recv hAB.1 hP (ci := 9) (q0 := 0) rfl rfl, wd_pre hAB hP hD hS hA⟩ rfl rfl hl.1 rfl (lv_room (Nat.le_of_ble_eq_true rfl)) dX9_know_100 ⟨Nat.zero_le _, Nat.zero_le _⟩) (fun r_31 u H locs h hP hD hS => ?_)
    obtain ⟨mRw_32, mBg_33⟩ := u
    have hP : va_P D vwCl (WM cI cJ cZ cK ad ud pT pK pN pF pS qT qK qN qF qS mKe mUn mFi mRi mBe mWc mAK mSh_6 mIP mUS mWa mWi mSi mRo mSp mRw_32 mSn_10 mBg_33 mLa mMo mRm mOw mGo mFr mQu mCh mPB mPS mFs ub uT uK uN uF uS) H := hP
    have hD : va_D A (WM cI cJ cZ cK ad ud pT pK pN pF pS qT qK qN qF qS mKe mUn mFi mRi mBe mWc mAK mSh_6 mIP mUS mWa mWi mSi mRo mSp mRw_32 mSn_10 mBg_33 mLa mMo mRm mOw mGo mFr mQu mCh mPB mPS mFs ub uT uK uN uF uS) := hD
    refine lv_istore_n (lv' := [(1, .int r_31), (0, .ref (ad 0))]) hx hb dX9_know_103 rfl hl (by decide) rfl (fun ls hl => ?_)
    refine lv_aload_n hx hb dX9_know_104 rfl (lv_at hl 1 rfl) ?_
    refine cl_v hD hS hA (va_runV (As := []) (rest := []) ⟨hx, hb, hml, hown, hts⟩ (ct_X9_take h H.size) (cwV 0 hts gX9_know_X9_take rfl rfl rfl (by decide +kernel) ⟨Nat.le_of_ble_eq_true rfl, Nat.le_of_ble_eq_true rfl⟩) ⟨CPre.blind, va_recv hAB.1 hP (ci := 9) (q0 := 0) rfl rfl, wd_pre hAB hP hD hS hA⟩ rfl rfl hl.1 rfl (lv_room (Nat.le_of_ble_eq_true rfl)) dX9_know_105 ⟨Nat.zero_le _, Nat.zero_le _⟩) (fun mMo_34 H locs h hP hD hS => ?_)
    have hP : va_P D vwCl (WM cI cJ cZ cK ad ud pT pK pN pF pS qT qK qN qF qS mKe mUn mFi mRi mBe mWc mAK mSh_6 mIP mUS mWa mWi mSi mRo mSp mRw_32 mSn_10 mBg_33 mLa mMo_34 mRm mOw mGo mFr mQu mCh mPB mPS mFs ub uT uK uN uF uS) H := hP
    have hD : va_D A (WM cI cJ cZ cK ad ud pT pK pN pF pS qT qK qN qF qS mKe mUn mFi mRi mBe mWc mAK mSh_6 mIP mUS mWa mWi mSi mRo mSp mRw_32 mSn_10 mBg_33 mLa mMo_34 mRm mOw mGo mFr mQu mCh mPB mPS mFs ub uT uK uN uF uS) := hD
    refine lv_sipush (v := 720) hx hb dX9_know_108 (by decide) ?_
    refine lv_istore_n (lv' := [(2, .int 720), (1, .int r_31), (0, .ref (ad 0))]) hx hb dX9_know_111 rfl hl (by decide) rfl (fun ls hl => ?_)
    have L112 : ∀ (x112 : (Nat → Int32) → (Nat → Int64) → (Nat → Int64) → (Nat → Int32) → (Nat → Int32) → (Nat → Int32) → (Nat → Int64) → Prop) (hk112 : ∀ (mMo_43 : Nat → Int32) (mRm_44 : Nat → Int64) (mOw_45 : Nat → Int64) (mGo_46 : Nat → Int32) (mFr_47 : Nat → Int32) (mQu_48 : Nat → Int32) (mCh_49 : Nat → Int64), x112 mMo_43 mRm_44 mOw_45 mGo_46 mFr_47 mQu_48 mCh_49 → ∀ (H : Heap) (locs : List Loc) (ls : Array Slot), va_P D vwCl (WM cI cJ cZ cK ad ud pT pK pN pF pS qT qK qN qF qS mKe mUn mFi mRi mBe mWc mAK mSh_6 mIP mUS mWa mWi mSi mRo mSp mRw_32 mSn_10 mBg_33 mLa mMo_43 mRm_44 mOw_45 mGo_46 mFr_47 mQu_48 mCh_49 mPB mPS mFs ub uT uK uN uF uS) H → va_D A (WM cI cJ cZ cK ad ud pT pK pN pF pS qT qK qN qF qS mKe mUn mFi mRi mBe mWc mAK mSh_6 mIP mUS mWa mWi mSi mRo mSp mRw_32 mSn_10 mBg_33 mLa mMo_43 mRm_44 mOw_45 mGo_46 mFr_47 mQu_48 mCh_49 mPB mPS mFs ub uT uK uN uF uS) → va_S A s.heap H locs → lv_has ls 4 [(0, .ref (ad 0))] → W p l e (headSpec wsX9_know rm_X9_know).room s m args below meth c H locs 0 0 Q (F0 m 154 ls [])) (n112 : Nat) (x2_35 : Int32) (mMo_36 : Nat → Int32) (mRm_37 : Nat → Int64) (mOw_38 : Nat → Int64) (mGo_39 : Nat → Int32) (mFr_40 : Nat → Int32) (mQu_41 : Nat → Int32) (mCh_42 : Nat → Int64), wp_X9_know_L112 pF pK pN pT mSh_6 x112 n112 x2_35 mMo_36 mRm_37 mOw_38 mGo_39 mFr_40 mQu_41 mCh_42 → ∀ (H : Heap) (locs : List Loc) (ls : Array Slot), va_P D vwCl (WM cI cJ cZ cK ad ud pT pK pN pF pS qT qK qN qF qS mKe mUn mFi mRi mBe mWc mAK mSh_6 mIP mUS mWa mWi mSi mRo mSp mRw_32 mSn_10 mBg_33 mLa mMo_36 mRm_37 mOw_38 mGo_39 mFr_40 mQu_41 mCh_42 mPB mPS mFs ub uT uK uN uF uS) H → va_D A (WM cI cJ cZ cK ad ud pT pK pN pF pS qT qK qN qF qS mKe mUn mFi mRi mBe mWc mAK mSh_6 mIP mUS mWa mWi mSi mRo mSp mRw_32 mSn_10 mBg_33 mLa mMo_36 mRm_37 mOw_38 mGo_39 mFr_40 mQu_41 mCh_42 mPB mPS mFs ub uT uK uN uF uS) → va_S A s.heap H locs → lv_has ls 4 [(0, .ref (ad 0)), (2, .int x2_35)] → W p l e (headSpec wsX9_know rm_X9_know).room s m args below meth c H locs 0 0 Q (F0 m 112 ls []) := by
      intro x112 hk112 n112
      induction n112 with
      | zero => intro x2_35 mMo_36 mRm_37 mOw_38 mGo_39 mFr_40 mQu_41 mCh_42 h; exact False.elim h
      | succ n112 ih112 =>
        intro x2_35 mMo_36 mRm_37 mOw_38 mGo_39 mFr_40 mQu_41 mCh_42 h H locs ls hP hD hS hl
        refine lv_iload_n hx hb dX9_know_112 rfl (lv_at hl 1 rfl) ?_
        refine lv_aload_n hx hb dX9_know_113 rfl (lv_at hl 0 rfl) ?_
        refine va_get (D := D) (ci := 9) (C := RX9) (T := TX9) (N := 32) hx hb hts inn_X9_know_9 hown hAB.1 hP 0 rfl rfl 26 (by decide) (hts (.fieldLink RX9 235 "BarnBenchModel" "shortest" "I") (by decide +kernel)) (fun _ h9 => h9) rfl dX9_know_114 ?_
        refine lv_icmp_lt (tgt := 154) hx hb dX9_know_117 (by decide) (fun c_50 => ?_) (fun c_50 => ?_)
        · have h := h.1 c_50
          exact hk112 mMo_36 mRm_37 mOw_38 mGo_39 mFr_40 mQu_41 mCh_42 h H locs ls hP hD hS (lv_sub hl [0] rfl)
        · have h := h.2 c_50
          have L120 : ∀ (x120 : (Nat → Int32) → (Nat → Int64) → (Nat → Int64) → (Nat → Int32) → (Nat → Int32) → (Nat → Int32) → Prop) (hk120 : ∀ (mMo_57 : Nat → Int32) (mRm_58 : Nat → Int64) (mOw_59 : Nat → Int64) (mGo_60 : Nat → Int32) (mFr_61 : Nat → Int32) (mQu_62 : Nat → Int32), x120 mMo_57 mRm_58 mOw_59 mGo_60 mFr_61 mQu_62 → ∀ (H : Heap) (locs : List Loc) (ls : Array Slot), va_P D vwCl (WM cI cJ cZ cK ad ud pT pK pN pF pS qT qK qN qF qS mKe mUn mFi mRi mBe mWc mAK mSh_6 mIP mUS mWa mWi mSi mRo mSp mRw_32 mSn_10 mBg_33 mLa mMo_57 mRm_58 mOw_59 mGo_60 mFr_61 mQu_62 mCh_42 mPB mPS mFs ub uT uK uN uF uS) H → va_D A (WM cI cJ cZ cK ad ud pT pK pN pF pS qT qK qN qF qS mKe mUn mFi mRi mBe mWc mAK mSh_6 mIP mUS mWa mWi mSi mRo mSp mRw_32 mSn_10 mBg_33 mLa mMo_57 mRm_58 mOw_59 mGo_60 mFr_61 mQu_62 mCh_42 mPB mPS mFs ub uT uK uN uF uS) → va_S A s.heap H locs → lv_has ls 4 [(0, .ref (ad 0)), (2, .int x2_35)] → W p l e (headSpec wsX9_know rm_X9_know).room s m args below meth c H locs 0 0 Q (F0 m 138 ls [])) (n120 : Nat) (mMo_51 : Nat → Int32) (mRm_52 : Nat → Int64) (mOw_53 : Nat → Int64) (mGo_54 : Nat → Int32) (mFr_55 : Nat → Int32) (mQu_56 : Nat → Int32), wp_X9_know_L120 pF pK pN pT x2_35 x120 n120 mMo_51 mRm_52 mOw_53 mGo_54 mFr_55 mQu_56 → ∀ (H : Heap) (locs : List Loc) (ls : Array Slot), va_P D vwCl (WM cI cJ cZ cK ad ud pT pK pN pF pS qT qK qN qF qS mKe mUn mFi mRi mBe mWc mAK mSh_6 mIP mUS mWa mWi mSi mRo mSp mRw_32 mSn_10 mBg_33 mLa mMo_51 mRm_52 mOw_53 mGo_54 mFr_55 mQu_56 mCh_42 mPB mPS mFs ub uT uK uN uF uS) H → va_D A (WM cI cJ cZ cK ad ud pT pK pN pF pS qT qK qN qF qS mKe mUn mFi mRi mBe mWc mAK mSh_6 mIP mUS mWa mWi mSi mRo mSp mRw_32 mSn_10 mBg_33 mLa mMo_51 mRm_52 mOw_53 mGo_54 mFr_55 mQu_56 mCh_42 mPB mPS mFs ub uT uK uN uF uS) → va_S A s.heap H locs → lv_has ls 4 [(0, .ref (ad 0)), (2, .int x2_35)] → W p l e (headSpec wsX9_know rm_X9_know).room s m args below meth c H locs 0 0 Q (F0 m 120 ls []) := by
            intro x120 hk120 n120
            induction n120 with
            | zero => intro mMo_51 mRm_52 mOw_53 mGo_54 mFr_55 mQu_56 h; exact False.elim h
            | succ n120 ih120 =>
              intro mMo_51 mRm_52 mOw_53 mGo_54 mFr_55 mQu_56 h H locs ls hP hD hS hl
              refine lv_aload_n hx hb dX9_know_120 rfl (lv_at hl 0 rfl) ?_
              refine cl_i hD hS hA (va_runV (As := []) (rest := []) ⟨hx, hb, hml, hown, hts⟩ (ct_X9_lengthNow h H.size) (cwV 0 hts gX9_know_X9_lengthNow rfl rfl rfl (by decide +kernel) ⟨Nat.le_of_ble_eq_true rfl, Nat.le_of_ble_eq_true rfl⟩) ⟨CPre.blind, va_recv hAB.1 hP (ci := 9) (q0 := 0) rfl rfl, wd_pre hAB hP hD hS hA⟩ rfl rfl hl.1 rfl (lv_room (Nat.le_of_ble_eq_true rfl)) dX9_know_121 ⟨Nat.zero_le _, Nat.zero_le _⟩) (fun r_63 u H locs h hP hD hS => ?_)
              refine lv_iload_n hx hb dX9_know_124 rfl (lv_at hl 1 rfl) ?_
              refine lv_icmp_le (tgt := 138) hx hb dX9_know_125 (by decide) (fun c_64 => ?_) (fun c_64 => ?_)
              · have h := h.1 c_64
                exact hk120 mMo_51 mRm_52 mOw_53 mGo_54 mFr_55 mQu_56 h H locs ls hP hD hS (lv_sub hl [0, 1] rfl)
              · have h := h.2 c_64
                refine lv_aload_n hx hb dX9_know_128 rfl (lv_at hl 0 rfl) ?_
                refine lv_iconst (v := (-1)) hx hb dX9_know_129 (by decide) ?_
                refine lv_iload_n hx hb dX9_know_130 rfl (lv_at hl 1 rfl) ?_
                refine cl_i hD hS hA (va_runV (As := [.int (-1), .int x2_35]) (rest := []) ⟨hx, hb, hml, hown, hts⟩ (ct_X9_cut h H.size) (cwV 2 hts gX9_know_X9_cut rfl rfl rfl (by decide +kernel) ⟨Nat.le_of_ble_eq_true rfl, Nat.le_of_ble_eq_true rfl⟩) ⟨CPre.blind, va_recv hAB.1 hP (ci := 9) (q0 := 0) rfl rfl, wd_pre hAB hP hD hS hA⟩ rfl rfl hl.1 rfl (lv_room (Nat.le_of_ble_eq_true rfl)) dX9_know_131 ⟨Nat.zero_le _, Nat.zero_le _⟩) (fun r_65 u H locs h hP hD hS => ?_)
                obtain ⟨mMo_66, mRm_67, mOw_68, mGo_69, mFr_70, mQu_71⟩ := u
                have hP : va_P D vwCl (WM cI cJ cZ cK ad ud pT pK pN pF pS qT qK qN qF qS mKe mUn mFi mRi mBe mWc mAK mSh_6 mIP mUS mWa mWi mSi mRo mSp mRw_32 mSn_10 mBg_33 mLa mMo_66 mRm_67 mOw_68 mGo_69 mFr_70 mQu_71 mCh_42 mPB mPS mFs ub uT uK uN uF uS) H := hP
                have hD : va_D A (WM cI cJ cZ cK ad ud pT pK pN pF pS qT qK qN qF qS mKe mUn mFi mRi mBe mWc mAK mSh_6 mIP mUS mWa mWi mSi mRo mSp mRw_32 mSn_10 mBg_33 mLa mMo_66 mRm_67 mOw_68 mGo_69 mFr_70 mQu_71 mCh_42 mPB mPS mFs ub uT uK uN uF uS) := hD
                refine lv_istore_n (lv' := [(3, .int r_65), (0, .ref (ad 0)), (2, .int x2_35)]) hx hb dX9_know_134 rfl hl (by decide) rfl (fun ls hl => ?_)
                refine lv_goto (tgt := 120) hx hb dX9_know_135 (by decide) ?_
                exact ih120 mMo_66 mRm_67 mOw_68 mGo_69 mFr_70 mQu_71 h H locs ls hP hD hS (lv_sub hl [1, 2] rfl)
          obtain ⟨n120, h⟩ := h
          refine L120 _ (fun mMo_57 mRm_58 mOw_59 mGo_60 mFr_61 mQu_62 h H locs ls hP hD hS hl => ?_) n120 mMo_36 mRm_37 mOw_38 mGo_39 mFr_40 mQu_41 h H locs ls hP hD hS (lv_sub hl [0, 1] rfl)
          refine lv_aload_n hx hb dX9_know_138 rfl (lv_at hl 0 rfl) ?_
          refine va_get (D := D) (ci := 9) (C := RX9) (T := TX9) (N := 32) hx hb hts inn_X9_know_9 hown hAB.1 hP 0 rfl rfl 27 (by decide) (hts (.fieldLink RX9 78 "BarnBenchModel" "cheap" "[J") (by decide +kernel)) (fun _ h9 => h9) rfl dX9_know_139 ?_
          refine lv_iload_n hx hb dX9_know_142 rfl (lv_at hl 1 rfl) ?_
          refine lv_aload_n hx hb dX9_know_143 rfl (lv_at hl 0 rfl) ?_
          refine cl_l hD hS hA (va_runV (As := []) (rest := [.int x2_35, .ref (ad 28)]) ⟨hx, hb, hml, hown, hts⟩ (ct_X9_costNow h H.size) (cwV 0 hts gX9_know_X9_costNow rfl rfl rfl (by decide +kernel) ⟨Nat.le_of_ble_eq_true rfl, Nat.le_of_ble_eq_true rfl⟩) ⟨CPre.blind, va_recv hAB.1 hP (ci := 9) (q0 := 0) rfl rfl, wd_pre hAB hP hD hS hA⟩ rfl rfl hl.1 rfl (lv_room (Nat.le_of_ble_eq_true rfl)) dX9_know_144 ⟨Nat.zero_le _, Nat.zero_le _⟩) (fun r_72 u H locs h hP hD hS => ?_)
          refine sM_28 hx hb hAB hP hD hS h.1 dX9_know_147 (fun mCh_73 H locs e_74 hP hD hS => ?_)
          have h := h.2
          have h := h mCh_73 e_74
          obtain ⟨x2_75, e_76⟩ : ∃ y : Int32, y = x2_35 + (-1) := ⟨_, rfl⟩
          have h := h x2_75 e_76
          refine lv_iinc (v := x2_75) (lv' := [(2, .int x2_75), (0, .ref (ad 0))]) hx hb dX9_know_148 hl (k := 1) rfl (by rw [e_76]; rfl) (by decide) rfl (fun ls hl => ?_)
          refine lv_goto (tgt := 112) hx hb dX9_know_151 (by decide) ?_
          exact ih112 x2_75 mMo_57 mRm_58 mOw_59 mGo_60 mFr_61 mQu_62 mCh_73 h H locs ls hP hD hS (lv_sub hl [1, 0] rfl)
    obtain ⟨n112, h⟩ := h
    refine L112 _ (fun mMo_43 mRm_44 mOw_45 mGo_46 mFr_47 mQu_48 mCh_49 h H locs ls hP hD hS hl => ?_) n112 720 mMo_34 mRm mOw mGo mFr mQu mCh h H locs ls hP hD hS (lv_sub hl [2, 0] rfl)
    refine lv_aload_n hx hb dX9_know_154 rfl (lv_at hl 0 rfl) ?_
    refine lv_iconst (v := 1) hx hb dX9_know_155 (by decide) ?_
    refine fM_0_areKnown hx hb hAB hP hD hS hts inn_X9_know_9 hown (hts (.fieldLink RX9 125 "BarnBenchModel" "areKnown" "Z") (by decide +kernel)) (by decide) dX9_know_156 (fun mAK_77 H locs e_78 hP hD hS => ?_)
    have h := h mAK_77 e_78
    exact rt_v (mAK_77, mSh_6, mRw_32, mSn_10, mBg_33, mMo_43, mRm_44, mOw_45, mGo_46, mFr_47, mQu_48, mCh_49) hQ hx hb hr hlk hP hD hS ⟨Nat.zero_le _, Nat.zero_le _⟩ dX9_know_159 h
  · have h := h.2 c_1
    exact rt_v (mAK, mSh, mRw, mSn, mBg, mMo, mRm, mOw, mGo, mFr, mQu, mCh) hQ hx hb hr hlk hP hD hS ⟨Nat.zero_le _, Nat.zero_le _⟩ dX9_know_7 h
def wp_X9_rise_L10 (a1 : Int32) (pF : Nat → Int32) (pK : Nat → Int32) (pN : Nat → Int32) (pT : Int32) (x10 : (Nat → Int32) → (Nat → Int64) → (Nat → Int64) → (Nat → Int32) → (Nat → Int32) → (Nat → Int32) → Prop) : Nat → (Nat → Int32) → (Nat → Int64) → (Nat → Int64) → (Nat → Int32) → (Nat → Int32) → (Nat → Int32) → Prop
  | 0, _, _, _, _, _, _ => False
  | n10 + 1, mMo_6, mRm_7, mOw_8, mGo_9, mFr_10, mQu_11 =>
  wp_X9_cut pT pK pN pF mMo_6 mRm_7 mOw_8 mGo_9 mFr_10 mQu_11 1 a1 (fun (r_18 : Int32) (mMo_19 : Nat → Int32) (mRm_20 : Nat → Int64) (mOw_21 : Nat → Int64) (mGo_22 : Nat → Int32) (mFr_23 : Nat → Int32) (mQu_24 : Nat → Int32) => ((r_18 = 0 → x10 mMo_19 mRm_20 mOw_21 mGo_22 mFr_23 mQu_24) ∧
   (¬ r_18 = 0 → wp_X9_costNow pT pK pN mMo_19 (fun (r_26 : Int64) => (wp_X9_rise_L10 a1 pF pK pN pT x10 n10) mMo_19 mRm_20 mOw_21 mGo_22 mFr_23 mQu_24))))
def wp_X9_rise (pT : Int32) (pK : Nat → Int32) (pN : Nat → Int32) (pF : Nat → Int32) (mRw : Nat → Int32) (mSn : Nat → Int32) (mBg : Nat → Int32) (mMo : Nat → Int32) (mRm : Nat → Int64) (mOw : Nat → Int64) (mGo : Nat → Int32) (mFr : Nat → Int32) (mQu : Nat → Int32) (a1 : Int32) (Qp : (Nat → Int32) → (Nat → Int32) → (Nat → Int32) → (Nat → Int32) → (Nat → Int64) → (Nat → Int64) → (Nat → Int32) → (Nat → Int32) → (Nat → Int32) → Prop) : Prop :=
  wp_X9_longest pT pN pF mRw mSn mBg 1 (fun (r_1 : Int32) (mRw_2 : Nat → Int32) (mSn_3 : Nat → Int32) (mBg_4 : Nat → Int32) => wp_X9_take pT mSn_3 mBg_4 mMo (fun (mMo_5 : Nat → Int32) => (∃ n10 : Nat, wp_X9_rise_L10 a1 pF pK pN pT (fun (mMo_12 : Nat → Int32) (mRm_13 : Nat → Int64) (mOw_14 : Nat → Int64) (mGo_15 : Nat → Int32) (mFr_16 : Nat → Int32) (mQu_17 : Nat → Int32) => Qp mRw_2 mSn_3 mBg_4 mMo_12 mRm_13 mOw_14 mGo_15 mFr_16 mQu_17) n10 mMo_5 mRm mOw mGo mFr mQu)))
def rm_X9_rise : Room := { frames := 4, cells := 0, slots := 0, locals := 93 }
set_option maxHeartbeats 4000000 in
set_option maxRecDepth 100000 in
theorem ct_X9_rise {l : Launch} {D : va_G} {cI cJ cZ cE cD cK : ClassId} {ad : Nat → Nat} {ud : Nat → Nat → Nat} {pT : Int32} {pK : Nat → Int32} {pN : Nat → Int32} {pF : Nat → Int32} {pS : Nat → Int32} {qT : Int32} {qK : Nat → Int32} {qN : Nat → Int32} {qF : Nat → Int32} {qS : Nat → Int32} {mKe : Int32} {mUn : Int32} {mFi : Int32} {mRi : Int32} {mBe : Int64} {mWc : Int32} {mAK : Int32} {mSh : Int32} {mIP : Int32} {mUS : Nat → Int32} {mWa : Nat → Int32} {mWi : Nat → Int32} {mSi : Nat → Int32} {mRo : Nat → Int64} {mSp : Nat → Int64} {mRw : Nat → Int32} {mSn : Nat → Int32} {mBg : Nat → Int32} {mLa : Nat → Int32} {mMo : Nat → Int32} {mRm : Nat → Int64} {mOw : Nat → Int64} {mGo : Nat → Int32} {mFr : Nat → Int32} {mQu : Nat → Int32} {mCh : Nat → Int64} {mPB : Nat → Int32} {mPS : Nat → Int32} {mFs : Nat → Int32} {ub : Nat → Nat} {uT : Nat → Int32} {uK : Nat → Nat → Int32} {uN : Nat → Nat → Int32} {uF : Nat → Nat → Int32} {uS : Nat → Nat → Int32}   {a1 : Int32} {Qp : (Nat → Int32) → (Nat → Int32) → (Nat → Int32) → (Nat → Int32) → (Nat → Int64) → (Nat → Int64) → (Nat → Int32) → (Nat → Int32) → (Nat → Int32) → Prop}   (h : wp_X9_rise pT pK pN pF mRw mSn mBg mMo mRm mOw mGo mFr mQu a1 Qp) : CTv l yX9_rise wsX9_rise rm_X9_rise D (tyL cI cJ cZ cE cD cK) [.ref (ad 0), .int a1] (WM cI cJ cZ cK ad ud pT pK pN pF pS qT qK qN qF qS mKe mUn mFi mRi mBe mWc mAK mSh mIP mUS mWa mWi mSi mRo mSp mRw mSn mBg mLa mMo mRm mOw mGo mFr mQu mCh mPB mPS mFs ub uT uK uN uF uS) (fun u : (Nat → Int32) × (Nat → Int32) × (Nat → Int32) × (Nat → Int32) × (Nat → Int64) × (Nat → Int64) × (Nat → Int32) × (Nat → Int32) × (Nat → Int32) => Qp u.1 u.2.1 u.2.2.1 u.2.2.2.1 u.2.2.2.2.1 u.2.2.2.2.2.1 u.2.2.2.2.2.2.1 u.2.2.2.2.2.2.2.1 u.2.2.2.2.2.2.2.2) (fun u : (Nat → Int32) × (Nat → Int32) × (Nat → Int32) × (Nat → Int32) × (Nat → Int64) × (Nat → Int64) × (Nat → Int32) × (Nat → Int32) × (Nat → Int32) => (WM cI cJ cZ cK ad ud pT pK pN pF pS qT qK qN qF qS mKe mUn mFi mRi mBe mWc mAK mSh mIP mUS mWa mWi mSi mRo mSp u.1 u.2.1 u.2.2.1 mLa u.2.2.2.1 u.2.2.2.2.1 u.2.2.2.2.2.1 u.2.2.2.2.2.2.1 u.2.2.2.2.2.2.2.1 u.2.2.2.2.2.2.2.2 mCh mPB mPS mFs ub uT uK uN uF uS)) 0 0 := by
  refine ent_v (cc := cX9_rise) (maxL := 2) (ret := none) (by decide) rfl (Nat.le_of_ble_eq_true rfl) ?_
  intro p e s m args below meth c A Q hQ hx hb hr hml hown hts hlk hA hAB hP hD hS ls hl
  have hown : s.vm.findClass RX9 = some m.cls := hown
  have hl : lv_has ls 2 [(0, .ref (ad 0)), (1, .int a1)] := hl
  generalize hH : s.heap = H at hP ⊢
  have hS : va_S A s.heap H [] := by rw [← hH]; exact hS
  clear hH
  generalize ([] : List Loc) = locs at hS ⊢
  refine lv_aload_n hx hb dX9_rise_0 rfl (lv_at hl 0 rfl) ?_
  refine lv_iconst (v := 1) hx hb dX9_rise_1 (by decide) ?_
  refine cl_i hD hS hA (va_runV (As := [.int 1]) (rest := []) ⟨hx, hb, hml, hown, hts⟩ (ct_X9_longest h H.size) (cwV 1 hts gX9_rise_X9_longest rfl rfl rfl (by decide +kernel) ⟨Nat.le_of_ble_eq_true rfl, Nat.le_of_ble_eq_true rfl⟩) ⟨CPre.blind, va_recv hAB.1 hP (ci := 9) (q0 := 0) rfl rfl, wd_pre hAB hP hD hS hA⟩ rfl rfl hl.1 rfl (lv_room (Nat.le_of_ble_eq_true rfl)) dX9_rise_2 ⟨Nat.zero_le _, Nat.zero_le _⟩) (fun r_1 u H locs h hP hD hS => ?_)
  obtain ⟨mRw_2, mSn_3, mBg_4⟩ := u
  have hP : va_P D vwCl (WM cI cJ cZ cK ad ud pT pK pN pF pS qT qK qN qF qS mKe mUn mFi mRi mBe mWc mAK mSh mIP mUS mWa mWi mSi mRo mSp mRw_2 mSn_3 mBg_4 mLa mMo mRm mOw mGo mFr mQu mCh mPB mPS mFs ub uT uK uN uF uS) H := hP
  have hD : va_D A (WM cI cJ cZ cK ad ud pT pK pN pF pS qT qK qN qF qS mKe mUn mFi mRi mBe mWc mAK mSh mIP mUS mWa mWi mSi mRo mSp mRw_2 mSn_3 mBg_4 mLa mMo mRm mOw mGo mFr mQu mCh mPB mPS mFs ub uT uK uN uF uS) := hD
  refine lv_pop hx hb dX9_rise_5 rfl ?_
  refine lv_aload_n hx hb dX9_rise_6 rfl (lv_at hl 0 rfl) ?_
  refine cl_v hD hS hA (va_runV (As := []) (rest := []) ⟨hx, hb, hml, hown, hts⟩ (ct_X9_take h H.size) (cwV 0 hts gX9_rise_X9_take rfl rfl rfl (by decide +kernel) ⟨Nat.le_of_ble_eq_true rfl, Nat.le_of_ble_eq_true rfl⟩) ⟨CPre.blind, va_recv hAB.1 hP (ci := 9) (q0 := 0) rfl rfl, wd_pre hAB hP hD hS hA⟩ rfl rfl hl.1 rfl (lv_room (Nat.le_of_ble_eq_true rfl)) dX9_rise_7 ⟨Nat.zero_le _, Nat.zero_le _⟩) (fun mMo_5 H locs h hP hD hS => ?_)
  have hP : va_P D vwCl (WM cI cJ cZ cK ad ud pT pK pN pF pS qT qK qN qF qS mKe mUn mFi mRi mBe mWc mAK mSh mIP mUS mWa mWi mSi mRo mSp mRw_2 mSn_3 mBg_4 mLa mMo_5 mRm mOw mGo mFr mQu mCh mPB mPS mFs ub uT uK uN uF uS) H := hP
  have hD : va_D A (WM cI cJ cZ cK ad ud pT pK pN pF pS qT qK qN qF qS mKe mUn mFi mRi mBe mWc mAK mSh mIP mUS mWa mWi mSi mRo mSp mRw_2 mSn_3 mBg_4 mLa mMo_5 mRm mOw mGo mFr mQu mCh mPB mPS mFs ub uT uK uN uF uS) := hD
  have L10 : ∀ (x10 : (Nat → Int32) → (Nat → Int64) → (Nat → Int64) → (Nat → Int32) → (Nat → Int32) → (Nat → Int32) → Prop) (hk10 : ∀ (mMo_12 : Nat → Int32) (mRm_13 : Nat → Int64) (mOw_14 : Nat → Int64) (mGo_15 : Nat → Int32) (mFr_16 : Nat → Int32) (mQu_17 : Nat → Int32), x10 mMo_12 mRm_13 mOw_14 mGo_15 mFr_16 mQu_17 → ∀ (H : Heap) (locs : List Loc) (ls : Array Slot), va_P D vwCl (WM cI cJ cZ cK ad ud pT pK pN pF pS qT qK qN qF qS mKe mUn mFi mRi mBe mWc mAK mSh mIP mUS mWa mWi mSi mRo mSp mRw_2 mSn_3 mBg_4 mLa mMo_12 mRm_13 mOw_14 mGo_15 mFr_16 mQu_17 mCh mPB mPS mFs ub uT uK uN uF uS) H → va_D A (WM cI cJ cZ cK ad ud pT pK pN pF pS qT qK qN qF qS mKe mUn mFi mRi mBe mWc mAK mSh mIP mUS mWa mWi mSi mRo mSp mRw_2 mSn_3 mBg_4 mLa mMo_12 mRm_13 mOw_14 mGo_15 mFr_16 mQu_17 mCh mPB mPS mFs ub uT uK uN uF uS) → va_S A s.heap H locs → lv_has ls 2 [] → W p l e (headSpec wsX9_rise rm_X9_rise).room s m args below meth c H locs 0 0 Q (F0 m 27 ls [])) (n10 : Nat) (mMo_6 : Nat → Int32) (mRm_7 : Nat → Int64) (mOw_8 : Nat → Int64) (mGo_9 : Nat → Int32) (mFr_10 : Nat → Int32) (mQu_11 : Nat → Int32), wp_X9_rise_L10 a1 pF pK pN pT x10 n10 mMo_6 mRm_7 mOw_8 mGo_9 mFr_10 mQu_11 → ∀ (H : Heap) (locs : List Loc) (ls : Array Slot), va_P D vwCl (WM cI cJ cZ cK ad ud pT pK pN pF pS qT qK qN qF qS mKe mUn mFi mRi mBe mWc mAK mSh mIP mUS mWa mWi mSi mRo mSp mRw_2 mSn_3 mBg_4 mLa mMo_6 mRm_7 mOw_8 mGo_9 mFr_10 mQu_11 mCh mPB mPS mFs ub uT uK uN uF uS) H → va_D A (WM cI cJ cZ cK ad ud pT pK pN pF pS qT qK qN qF qS mKe mUn mFi mRi mBe mWc mAK mSh mIP mUS mWa mWi mSi mRo mSp mRw_2 mSn_3 mBg_4 mLa mMo_6 mRm_7 mOw_8 mGo_9 mFr_10 mQu_11 mCh mPB mPS mFs ub uT uK uN uF uS) → va_S A s.heap H locs → lv_has ls 2 [(0, .ref (ad 0)), (1, .int a1)] → W p l e (headSpec wsX9_rise rm_X9_rise).room s m args below meth c H locs 0 0 Q (F0 m 10 ls []) := by
    intro x10 hk10 n10
    induction n10 with
    | zero => intro mMo_6 mRm_7 mOw_8 mGo_9 mFr_10 mQu_11 h; exact False.elim h
    | succ n10 ih10 =>
      intro mMo_6 mRm_7 mOw_8 mGo_9 mFr_10 mQu_11 h H locs ls hP hD hS hl
      refine lv_aload_n hx hb dX9_rise_10 rfl (lv_at hl 0 rfl) ?_
      refine lv_iconst (v := 1) hx hb dX9_rise_11 (by decide) ?_
      refine lv_iload_n hx hb dX9_rise_12 rfl (lv_at hl 1 rfl) ?_
      refine cl_i hD hS hA (va_runV (As := [.int 1, .int a1]) (rest := []) ⟨hx, hb, hml, hown, hts⟩ (ct_X9_cut h H.size) (cwV 2 hts gX9_rise_X9_cut rfl rfl rfl (by decide +kernel) ⟨Nat.le_of_ble_eq_true rfl, Nat.le_of_ble_eq_true rfl⟩) ⟨CPre.blind, va_recv hAB.1 hP (ci := 9) (q0 := 0) rfl rfl, wd_pre hAB hP hD hS hA⟩ rfl rfl hl.1 rfl (lv_room (Nat.le_of_ble_eq_true rfl)) dX9_rise_13 ⟨Nat.zero_le _, Nat.zero_le _⟩) (fun r_18 u H locs h hP hD hS => ?_)
      obtain ⟨mMo_19, mRm_20, mOw_21, mGo_22, mFr_23, mQu_24⟩ := u
      have hP : va_P D vwCl (WM cI cJ cZ cK ad ud pT pK pN pF pS qT qK qN qF qS mKe mUn mFi mRi mBe mWc mAK mSh mIP mUS mWa mWi mSi mRo mSp mRw_2 mSn_3 mBg_4 mLa mMo_19 mRm_20 mOw_21 mGo_22 mFr_23 mQu_24 mCh mPB mPS mFs ub uT uK uN uF uS) H := hP
      have hD : va_D A (WM cI cJ cZ cK ad ud pT pK pN pF pS qT qK qN qF qS mKe mUn mFi mRi mBe mWc mAK mSh mIP mUS mWa mWi mSi mRo mSp mRw_2 mSn_3 mBg_4 mLa mMo_19 mRm_20 mOw_21 mGo_22 mFr_23 mQu_24 mCh mPB mPS mFs ub uT uK uN uF uS) := hD
      refine lv_if_eq (tgt := 27) hx hb dX9_rise_16 (by decide) (fun c_25 => ?_) (fun c_25 => ?_)
      · have h := h.1 c_25
        exact hk10 mMo_19 mRm_20 mOw_21 mGo_22 mFr_23 mQu_24 h H locs ls hP hD hS (lv_sub hl [] rfl)
      · have h := h.2 c_25
        refine lv_aload_n hx hb dX9_rise_19 rfl (lv_at hl 0 rfl) ?_
        refine cl_l hD hS hA (va_runV (As := []) (rest := []) ⟨hx, hb, hml, hown, hts⟩ (ct_X9_costNow h H.size) (cwV 0 hts gX9_rise_X9_costNow rfl rfl rfl (by decide +kernel) ⟨Nat.le_of_ble_eq_true rfl, Nat.le_of_ble_eq_true rfl⟩) ⟨CPre.blind, va_recv hAB.1 hP (ci := 9) (q0 := 0) rfl rfl, wd_pre hAB hP hD hS hA⟩ rfl rfl hl.1 rfl (lv_room (Nat.le_of_ble_eq_true rfl)) dX9_rise_20 ⟨Nat.zero_le _, Nat.zero_le _⟩) (fun r_26 u H locs h hP hD hS => ?_)
        refine lv_pop2_2 hx hb dX9_rise_23 rfl ?_
        refine lv_goto (tgt := 10) hx hb dX9_rise_24 (by decide) ?_
        exact ih10 mMo_19 mRm_20 mOw_21 mGo_22 mFr_23 mQu_24 h H locs ls hP hD hS (lv_sub hl [0, 1] rfl)
  obtain ⟨n10, h⟩ := h
  refine L10 _ (fun mMo_12 mRm_13 mOw_14 mGo_15 mFr_16 mQu_17 h H locs ls hP hD hS hl => ?_) n10 mMo_5 mRm mOw mGo mFr mQu h H locs ls hP hD hS (lv_sub hl [0, 1] rfl)
  exact rt_v (mRw_2, mSn_3, mBg_4, mMo_12, mRm_13, mOw_14, mGo_15, mFr_16, mQu_17) hQ hx hb hr hlk hP hD hS ⟨Nat.zero_le _, Nat.zero_le _⟩ dX9_rise_27 h
