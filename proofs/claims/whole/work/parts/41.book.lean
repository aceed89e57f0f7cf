def wp_X8_be_L10 (pK : Nat → Int32) (pS : Nat → Int32) (x10 : (Nat → Int32) → (Nat → Int32) → Prop) : Nat → (Int32) → (Nat → Int32) → (Nat → Int32) → Prop
  | 0, _, _, _ => False
  | n10 + 1, x2_3, qK_4, qS_5 =>
  ((12 ≤ x2_3 → x10 qK_4 qS_5) ∧
   (¬ 12 ≤ x2_3 → vp_in x2_3 12 ∧ vp_in x2_3 12 ∧ ∀ qK_9 : Nat → Int32, qK_9 = upd qK_4 (Int32.toNatClampNeg x2_3) (pK (Int32.toNatClampNeg x2_3)) → vp_in x2_3 12 ∧ vp_in x2_3 12 ∧ ∀ qS_11 : Nat → Int32, qS_11 = upd qS_5 (Int32.toNatClampNeg x2_3) (pS (Int32.toNatClampNeg x2_3)) → ∀ x2_13 : Int32, x2_13 = x2_3 + 1 → (wp_X8_be_L10 pK pS x10 n10) x2_13 qK_9 qS_11))
def wp_X8_be_L48 (pN : Nat → Int32) (x48 : (Nat → Int32) → Prop) : Nat → (Int32) → (Nat → Int32) → Prop
  | 0, _, _ => False
  | n48 + 1, x2_15, qN_16 =>
  ((60 ≤ x2_15 → x48 qN_16) ∧
   (¬ 60 ≤ x2_15 → vp_in x2_15 60 ∧ vp_in x2_15 60 ∧ ∀ qN_19 : Nat → Int32, qN_19 = upd qN_16 (Int32.toNatClampNeg x2_15) (pN (Int32.toNatClampNeg x2_15)) → ∀ x2_21 : Int32, x2_21 = x2_15 + 1 → (wp_X8_be_L48 pN x48 n48) x2_21 qN_19))
def wp_X8_be_L74 (pF : Nat → Int32) (x74 : (Nat → Int32) → Prop) : Nat → (Int32) → (Nat → Int32) → Prop
  | 0, _, _ => False
  | n74 + 1, x2_23, qF_24 =>
  ((144 ≤ x2_23 → x74 qF_24) ∧
   (¬ 144 ≤ x2_23 → vp_in x2_23 144 ∧ vp_in x2_23 144 ∧ ∀ qF_27 : Nat → Int32, qF_27 = upd qF_24 (Int32.toNatClampNeg x2_23) (vp_nar .boolean (pF (Int32.toNatClampNeg x2_23))) → ∀ x2_29 : Int32, x2_29 = x2_23 + 1 → (wp_X8_be_L74 pF x74 n74) x2_29 qF_27))
def wp_X8_be (pT : Int32) (pK : Nat → Int32) (pN : Nat → Int32) (pF : Nat → Int32) (pS : Nat → Int32) (qT : Int32) (qK : Nat → Int32) (qN : Nat → Int32) (qF : Nat → Int32) (qS : Nat → Int32)  (Qp : (Int32) → (Nat → Int32) → (Nat → Int32) → (Nat → Int32) → (Nat → Int32) → Prop) : Prop :=
  ∀ qT_1 : Int32, qT_1 = pT → (∃ n10 : Nat, wp_X8_be_L10 pK pS (fun (qK_6 : Nat → Int32) (qS_7 : Nat → Int32) => (∃ n48 : Nat, wp_X8_be_L48 pN (fun (qN_17 : Nat → Int32) => (∃ n74 : Nat, wp_X8_be_L74 pF (fun (qF_25 : Nat → Int32) => Qp qT_1 qK_6 qN_17 qF_25 qS_7) n74 0 qF)) n48 0 qN)) n10 0 qK qS)
theorem inn_X8_be_8 : ∀ w ∈ u_ws RX8 TX8 5, w ∈ wsX8_be := fun _ h => List.mem_cons_of_mem _ (List.mem_append_right _ h)
def rm_X8_be : Room := { frames := 0, cells := 0, slots := 0, locals := 0 }
set_option maxHeartbeats 4000000 in
set_option maxRecDepth 100000 in
theorem ct_X8_be_1 {l : Launch} {D : va_G} {cI cJ cZ cE cD cK : ClassId} {ad : Nat → Nat} {ud : Nat → Nat → Nat} {pT : Int32} {pK : Nat → Int32} {pN : Nat → Int32} {pF : Nat → Int32} {pS : Nat → Int32} {qT : Int32} {qK : Nat → Int32} {qN : Nat → Int32} {qF : Nat → Int32} {qS : Nat → Int32} {mKe : Int32} {mUn : Int32} {mFi : Int32} {mRi : Int32} {mBe : Int64} {mWc : Int32} {mAK : Int32} {mSh : Int32} {mIP : Int32} {mUS : Nat → Int32} {mWa : Nat → Int32} {mWi : Nat → Int32} {mSi : Nat → Int32} {mRo : Nat → Int64} {mSp : Nat → Int64} {mRw : Nat → Int32} {mSn : Nat → Int32} {mBg : Nat → Int32} {mLa : Nat → Int32} {mMo : Nat → Int32} {mRm : Nat → Int64} {mOw : Nat → Int64} {mGo : Nat → Int32} {mFr : Nat → Int32} {mQu : Nat → Int32} {mCh : Nat → Int64} {mPB : Nat → Int32} {mPS : Nat → Int32} {mFs : Nat → Int32} {ub : Nat → Nat} {uT : Nat → Int32} {uK : Nat → Nat → Int32} {uN : Nat → Nat → Int32} {uF : Nat → Nat → Int32} {uS : Nat → Nat → Int32}    {Qp : (Int32) → (Nat → Int32) → (Nat → Int32) → (Nat → Int32) → (Nat → Int32) → Prop}   (h : wp_X8_be pT pK pN pF pS qT qK qN qF qS Qp) : CTv l yX8_be wsX8_be rm_X8_be D (tyL cI cJ cZ cE cD cK) [.ref (ad 6), .ref (ad 1)] (WM cI cJ cZ cK ad ud pT pK pN pF pS qT qK qN qF qS mKe mUn mFi mRi mBe mWc mAK mSh mIP mUS mWa mWi mSi mRo mSp mRw mSn mBg mLa mMo mRm mOw mGo mFr mQu mCh mPB mPS mFs ub uT uK uN uF uS) (fun u : (Int32) × (Nat → Int32) × (Nat → Int32) × (Nat → Int32) × (Nat → Int32) => Qp u.1 u.2.1 u.2.2.1 u.2.2.2.1 u.2.2.2.2) (fun u : (Int32) × (Nat → Int32) × (Nat → Int32) × (Nat → Int32) × (Nat → Int32) => (WM cI cJ cZ cK ad ud pT pK pN pF pS u.1 u.2.1 u.2.2.1 u.2.2.2.1 u.2.2.2.2 mKe mUn mFi mRi mBe mWc mAK mSh mIP mUS mWa mWi mSi mRo mSp mRw mSn mBg mLa mMo mRm mOw mGo mFr mQu mCh mPB mPS mFs ub uT uK uN uF uS)) 0 0 := by
  refine ent_v (cc := cX8_be) (maxL := 3) (ret := none) (by decide) rfl (Nat.le_of_ble_eq_true rfl) ?_
  intro p e s m args below meth c A Q hQ hx hb hr hml hown hts hlk hA hAB hP hD hS ls hl
  have hown : s.vm.findClass RX8 = some m.cls := hown
  have hl : lv_has ls 3 [(0, .ref (ad 6)), (1, .ref (ad 1))] := hl
  generalize hH : s.heap = H at hP ⊢
  have hS : va_S A s.heap H [] := by rw [← hH]; exact hS
  clear hH
  generalize ([] : List Loc) = locs at hS ⊢
  refine lv_aload_n hx hb dX8_be_0 rfl (lv_at hl 0 rfl) ?_
  refine lv_aload_n hx hb dX8_be_1 rfl (lv_at hl 1 rfl) ?_
  refine va_get (D := D) (ci := 8) (C := RX8) (T := TX8) (N := 5) hx hb hts inn_X8_be_8 hown hAB.1 hP 1 rfl rfl 0 (by decide) (hts (.fieldLink RX8 25 "BarnBenchModel$Book" "tasks" "I") (by decide +kernel)) (fun _ h9 => h9) rfl dX8_be_2 ?_
  refine fM_6_tasks hx hb hAB hP hD hS hts inn_X8_be_8 hown (hts (.fieldLink RX8 25 "BarnBenchModel$Book" "tasks" "I") (by decide +kernel)) dX8_be_5 (fun qT_1 H locs e_2 hP hD hS => ?_)
  have h := h qT_1 e_2
  refine lv_iconst (v := 0) hx hb dX8_be_8 (by decide) ?_
  refine lv_istore_n (lv' := [(2, .int 0), (0, .ref (ad 6)), (1, .ref (ad 1))]) hx hb dX8_be_9 rfl hl (by decide) rfl (fun ls hl => ?_)
  have L10 : ∀ (x10 : (Nat → Int32) → (Nat → Int32) → Prop) (hk10 : ∀ (qK_6 : Nat → Int32) (qS_7 : Nat → Int32), x10 qK_6 qS_7 → ∀ (H : Heap) (locs : List Loc) (ls : Array Slot), va_P D vwCl (WM cI cJ cZ cK ad ud pT pK pN pF pS qT_1 qK_6 qN qF qS_7 mKe mUn mFi mRi mBe mWc mAK mSh mIP mUS mWa mWi mSi mRo mSp mRw mSn mBg mLa mMo mRm mOw mGo mFr mQu mCh mPB mPS mFs ub uT uK uN uF uS) H → va_D A (WM cI cJ cZ cK ad ud pT pK pN pF pS qT_1 qK_6 qN qF qS_7 mKe mUn mFi mRi mBe mWc mAK mSh mIP mUS mWa mWi mSi mRo mSp mRw mSn mBg mLa mMo mRm mOw mGo mFr mQu mCh mPB mPS mFs ub uT uK uN uF uS) → va_S A s.heap H locs → lv_has ls 3 [(0, .ref (ad 6)), (1, .ref (ad 1))] → W p l e (headSpec wsX8_be rm_X8_be).room s m args below meth c H locs 0 0 Q (F0 m 46 ls [])) (n10 : Nat) (x2_3 : Int32) (qK_4 : Nat → Int32) (qS_5 : Nat → Int32), wp_X8_be_L10 pK pS x10 n10 x2_3 qK_4 qS_5 → ∀ (H : Heap) (locs : List Loc) (ls : Array Slot), va_P D vwCl (WM cI cJ cZ cK ad ud pT pK pN pF pS qT_1 qK_4 qN qF qS_5 mKe mUn mFi mRi mBe mWc mAK mSh mIP mUS mWa mWi mSi mRo mSp mRw mSn mBg mLa mMo mRm mOw mGo mFr mQu mCh mPB mPS mFs ub uT uK uN uF uS) H → va_D A (WM cI cJ cZ cK ad ud pT pK pN pF pS qT_1 qK_4 qN qF qS_5 mKe mUn mFi mRi mBe mWc mAK mSh mIP mUS mWa mWi mSi mRo mSp mRw mSn mBg mLa mMo mRm mOw mGo mFr mQu mCh mPB mPS mFs ub uT uK uN uF uS) → va_S A s.heap H locs → lv_has ls 3 [(0, .ref (ad 6)), (1, .ref (ad 1)), (2, .int x2_3)] → W p l e (headSpec wsX8_be rm_X8_be).room s m args below meth c H locs 0 0 Q (F0 m 10 ls []) := by
    intro x10 hk10 n10
    induction n10 with
    | zero => intro x2_3 qK_4 qS_5 h; exact False.elim h
    | succ n10 ih10 =>
      intro x2_3 qK_4 qS_5 h H locs ls hP hD hS hl
      refine lv_iload_n hx hb dX8_be_10 rfl (lv_at hl 2 rfl) ?_
      refine lv_bipush (v := 12) hx hb dX8_be_11 (by decide) ?_
      refine lv_icmp_ge (tgt := 46) hx hb dX8_be_13 (by decide) (fun c_8 => ?_) (fun c_8 => ?_)
      · have h := h.1 c_8
        exact hk10 qK_4 qS_5 h H locs ls hP hD hS (lv_sub hl [0, 1] rfl)
      · have h := h.2 c_8
        refine lv_aload_n hx hb dX8_be_16 rfl (lv_at hl 0 rfl) ?_
        refine va_get (D := D) (ci := 8) (C := RX8) (T := TX8) (N := 5) hx hb hts inn_X8_be_8 hown hAB.1 hP 6 rfl rfl 1 (by decide) (hts (.fieldLink RX8 9 "BarnBenchModel$Book" "kinds" "[I") (by decide +kernel)) (fun _ h9 => h9) rfl dX8_be_17 ?_
        refine lv_iload_n hx hb dX8_be_20 rfl (lv_at hl 2 rfl) ?_
        refine lv_aload_n hx hb dX8_be_21 rfl (lv_at hl 1 rfl) ?_
        refine va_get (D := D) (ci := 8) (C := RX8) (T := TX8) (N := 5) hx hb hts inn_X8_be_8 hown hAB.1 hP 1 rfl rfl 1 (by decide) (hts (.fieldLink RX8 9 "BarnBenchModel$Book" "kinds" "[I") (by decide +kernel)) (fun _ h9 => h9) rfl dX8_be_22 ?_
        refine lv_iload_n hx hb dX8_be_25 rfl (lv_at hl 2 rfl) ?_
        refine va_iald hx hb hAB.1 hP 2 0 rfl rfl h.1 dX8_be_26 ?_
        have h := h.2
        refine sM_7 hx hb hAB hP hD hS h.1 dX8_be_27 (fun qK_9 H locs e_10 hP hD hS => ?_)
        have h := h.2
        have h := h qK_9 e_10
        refine lv_aload_n hx hb dX8_be_28 rfl (lv_at hl 0 rfl) ?_
        refine va_get (D := D) (ci := 8) (C := RX8) (T := TX8) (N := 5) hx hb hts inn_X8_be_8 hown hAB.1 hP 6 rfl rfl 4 (by decide) (hts (.fieldLink RX8 22 "BarnBenchModel$Book" "spans" "[I") (by decide +kernel)) (fun _ h9 => h9) rfl dX8_be_29 ?_
        refine lv_iload_n hx hb dX8_be_32 rfl (lv_at hl 2 rfl) ?_
        refine lv_aload_n hx hb dX8_be_33 rfl (lv_at hl 1 rfl) ?_
        refine va_get (D := D) (ci := 8) (C := RX8) (T := TX8) (N := 5) hx hb hts inn_X8_be_8 hown hAB.1 hP 1 rfl rfl 4 (by decide) (hts (.fieldLink RX8 22 "BarnBenchModel$Book" "spans" "[I") (by decide +kernel)) (fun _ h9 => h9) rfl dX8_be_34 ?_
        refine lv_iload_n hx hb dX8_be_37 rfl (lv_at hl 2 rfl) ?_
        refine va_iald hx hb hAB.1 hP 5 0 rfl rfl h.1 dX8_be_38 ?_
        have h := h.2
        refine sM_10 hx hb hAB hP hD hS h.1 dX8_be_39 (fun qS_11 H locs e_12 hP hD hS => ?_)
        have h := h.2
        have h := h qS_11 e_12
        obtain ⟨x2_13, e_14⟩ : ∃ y : Int32, y = x2_3 + 1 := ⟨_, rfl⟩
        have h := h x2_13 e_14
        refine lv_iinc (v := x2_13) (lv' := [(2, .int x2_13), (0, .ref (ad 6)), (1, .ref (ad 1))]) hx hb dX8_be_40 hl (k := 2) rfl (by rw [e_14]; rfl) (by decide) rfl (fun ls hl => ?_)
        refine lv_goto (tgt := 10) hx hb dX8_be_43 (by decide) ?_
        exact ih10 x2_13 qK_9 qS_11 h H locs ls hP hD hS (lv_sub hl [1, 2, 0] rfl)
  obtain ⟨n10, h⟩ := h
  refine L10 _ (fun qK_6 qS_7 h H locs ls hP hD hS hl => ?_) n10 0 qK qS h H locs ls hP hD hS (lv_sub hl [1, 2, 0] rfl)
  refine lv_iconst (v := 0) hx hb dX8_be_46 (by decide) ?_
  refine lv_istore_n (lv' := [(2, .int 0), (0, .ref (ad 6)), (1, .ref (ad 1))]) hx hb dX8_be_47 rfl hl (by decide) rfl (fun ls hl => ?_)
  have L48 : ∀ (x48 : (Nat → Int32) → Prop) (hk48 : ∀ (qN_17 : Nat → Int32), x48 qN_17 → ∀ (H : Heap) (locs : List Loc) (ls : Array Slot), va_P D vwCl (WM cI cJ cZ cK ad ud pT pK pN pF pS qT_1 qK_6 qN_17 qF qS_7 mKe mUn mFi mRi mBe mWc mAK mSh mIP mUS mWa mWi mSi mRo mSp mRw mSn mBg mLa mMo mRm mOw mGo mFr mQu mCh mPB mPS mFs ub uT uK uN uF uS) H → va_D A (WM cI cJ cZ cK ad ud pT pK pN pF pS qT_1 qK_6 qN_17 qF qS_7 mKe mUn mFi mRi mBe mWc mAK mSh mIP mUS mWa mWi mSi mRo mSp mRw mSn mBg mLa mMo mRm mOw mGo mFr mQu mCh mPB mPS mFs ub uT uK uN uF uS) → va_S A s.heap H locs → lv_has ls 3 [(0, .ref (ad 6)), (1, .ref (ad 1))] → W p l e (headSpec wsX8_be rm_X8_be).room s m args below meth c H locs 0 0 Q (F0 m 72 ls [])) (n48 : Nat) (x2_15 : Int32) (qN_16 : Nat → Int32), wp_X8_be_L48 pN x48 n48 x2_15 qN_16 → ∀ (H : Heap) (locs : List Loc) (ls : Array Slot), va_P D vwCl (WM cI cJ cZ cK ad ud pT pK pN pF pS qT_1 qK_6 qN_16 qF qS_7 mKe mUn mFi mRi mBe mWc mAK mSh mIP mUS mWa mWi mSi mRo mSp mRw mSn mBg mLa mMo mRm mOw mGo mFr mQu mCh mPB mPS mFs ub uT uK uN uF uS) H → va_D A (WM cI cJ cZ cK ad ud pT pK pN pF pS qT_1 qK_6 qN_16 qF qS_7 mKe mUn mFi mRi mBe mWc mAK mSh mIP mUS mWa mWi mSi mRo mSp mRw mSn mBg mLa mMo mRm mOw mGo mFr mQu mCh mPB mPS mFs ub uT uK uN uF uS) → va_S A s.heap H locs → lv_has ls 3 [(0, .ref (ad 6)), (1, .ref (ad 1)), (2, .int x2_15)] → W p l e (headSpec wsX8_be rm_X8_be).room s m args below meth c H locs 0 0 Q (F0 m 48 ls []) := by
    intro x48 hk48 n48
    induction n48 with
    | zero => intro x2_15 qN_16 h; exact False.elim h
    | succ n48 ih48 =>
      intro x2_15 qN_16 h H locs ls hP hD hS hl
      refine lv_iload_n hx hb dX8_be_48 rfl (lv_at hl 2 rfl) ?_
      refine lv_bipush (v := 60) hx hb dX8_be_49 (by decide) ?_
      refine lv_icmp_ge (tgt := 72) hx hb dX8_be_51 (by decide) (fun c_18 => ?_) (fun c_18 => ?_)
      · have h := h.1 c_18
        exact hk48 qN_16 h H locs ls hP hD hS (lv_sub hl [0, 1] rfl)
      · have h := h.2 c_18
        refine lv_aload_n hx hb dX8_be_54 rfl (lv_at hl 0 rfl) ?_
        refine va_get (D := D) (ci := 8) (C := RX8) (T := TX8) (N := 5) hx hb hts inn_X8_be_8 hown hAB.1 hP 6 rfl rfl 2 (by decide) (hts (.fieldLink RX8 15 "BarnBenchModel$Book" "numbers" "[I") (by decide +kernel)) (fun _ h9 => h9) rfl dX8_be_55 ?_
        refine lv_iload_n hx hb dX8_be_58 rfl (lv_at hl 2 rfl) ?_
        refine lv_aload_n hx hb dX8_be_59 rfl (lv_at hl 1 rfl) ?_
        refine va_get (D := D) (ci := 8) (C := RX8) (T := TX8) (N := 5) hx hb hts inn_X8_be_8 hown hAB.1 hP 1 rfl rfl 2 (by decide) (hts (.fieldLink RX8 15 "BarnBenchModel$Book" "numbers" "[I") (by decide +kernel)) (fun _ h9 => h9) rfl dX8_be_60 ?_
        refine lv_iload_n hx hb dX8_be_63 rfl (lv_at hl 2 rfl) ?_
        refine va_iald hx hb hAB.1 hP 3 0 rfl rfl h.1 dX8_be_64 ?_
        have h := h.2
        refine sM_8 hx hb hAB hP hD hS h.1 dX8_be_65 (fun qN_19 H locs e_20 hP hD hS => ?_)
        have h := h.2
        have h := h qN_19 e_20
        obtain ⟨x2_21, e_22⟩ : ∃ y : Int32, y = x2_15 + 1 := ⟨_, rfl⟩
        have h := h x2_21 e_22
        refine lv_iinc (v := x2_21) (lv' := [(2, .int x2_21), (0, .ref (ad 6)), (1, .ref (ad 1))]) hx hb dX8_be_66 hl (k := 2) rfl (by rw [e_22]; rfl) (by decide) rfl (fun ls hl => ?_)
        refine lv_goto (tgt := 48) hx hb dX8_be_69 (by decide) ?_
        exact ih48 x2_21 qN_19 h H locs ls hP hD hS (lv_sub hl [1, 2, 0] rfl)
  obtain ⟨n48, h⟩ := h
  refine L48 _ (fun qN_17 h H locs ls hP hD hS hl => ?_) n48 0 qN h H locs ls hP hD hS (lv_sub hl [1, 2, 0] rfl)
  refine lv_iconst (v := 0) hx hb dX8_be_72 (by decide) ?_
  refine lv_istore_n (lv' := [(2, .int 0), (0, .ref (ad 6)), (1, .ref (ad 1))]) hx hb dX8_be_73 rfl hl (by decide) rfl (fun ls hl => ?_)
  have L74 : ∀ (x74 : (Nat → Int32) → Prop) (hk74 : ∀ (qF_25 : Nat → Int32), x74 qF_25 → ∀ (H : Heap) (locs : List Loc) (ls : Array Slot), va_P D vwCl (WM cI cJ cZ cK ad ud pT pK pN pF pS qT_1 qK_6 qN_17 qF_25 qS_7 mKe mUn mFi mRi mBe mWc mAK mSh mIP mUS mWa mWi mSi mRo mSp mRw mSn mBg mLa mMo mRm mOw mGo mFr mQu mCh mPB mPS mFs ub uT uK uN uF uS) H → va_D A (WM cI cJ cZ cK ad ud pT pK pN pF pS qT_1 qK_6 qN_17 qF_25 qS_7 mKe mUn mFi mRi mBe mWc mAK mSh mIP mUS mWa mWi mSi mRo mSp mRw mSn mBg mLa mMo mRm mOw mGo mFr mQu mCh mPB mPS mFs ub uT uK uN uF uS) → va_S A s.heap H locs → lv_has ls 3 [] → W p l e (headSpec wsX8_be rm_X8_be).room s m args below meth c H locs 0 0 Q (F0 m 99 ls [])) (n74 : Nat) (x2_23 : Int32) (qF_24 : Nat → Int32), wp_X8_be_L74 pF x74 n74 x2_23 qF_24 → ∀ (H : Heap) (locs : List Loc) (ls : Array Slot), va_P D vwCl (WM cI cJ cZ cK ad ud pT pK pN pF pS qT_1 qK_6 qN_17 qF_24 qS_7 mKe mUn mFi mRi mBe mWc mAK mSh mIP mUS mWa mWi mSi mRo mSp mRw mSn mBg mLa mMo mRm mOw mGo mFr mQu mCh mPB mPS mFs ub uT uK uN uF uS) H → va_D A (WM cI cJ cZ cK ad ud pT pK pN pF pS qT_1 qK_6 qN_17 qF_24 qS_7 mKe mUn mFi mRi mBe mWc mAK mSh mIP mUS mWa mWi mSi mRo mSp mRw mSn mBg mLa mMo mRm mOw mGo mFr mQu mCh mPB mPS mFs ub uT uK uN uF uS) → va_S A s.heap H locs → lv_has ls 3 [(0, .ref (ad 6)), (1, .ref (ad 1)), (2, .int x2_23)] → W p l e (headSpec wsX8_be rm_X8_be).room s m args below meth c H locs 0 0 Q (F0 m 74 ls []) := by
    intro x74 hk74 n74
    induction n74 with
    | zero => intro x2_23 qF_24 h; exact False.elim h
    | succ n74 ih74 =>
      intro x2_23 qF_24 h H locs ls hP hD hS hl
      refine lv_iload_n hx hb dX8_be_74 rfl (lv_at hl 2 rfl) ?_
      refine lv_sipush (v := 144) hx hb dX8_be_75 (by decide) ?_
      refine lv_icmp_ge (tgt := 99) hx hb dX8_be_78 (by decide) (fun c_26 => ?_) (fun c_26 => ?_)
      · have h := h.1 c_26
        exact hk74 qF_24 h H locs ls hP hD hS (lv_sub hl [] rfl)
      · have h := h.2 c_26
        refine lv_aload_n hx hb dX8_be_81 rfl (lv_at hl 0 rfl) ?_
        refine va_get (D := D) (ci := 8) (C := RX8) (T := TX8) (N := 5) hx hb hts inn_X8_be_8 hown hAB.1 hP 6 rfl rfl 3 (by decide) (hts (.fieldLink RX8 18 "BarnBenchModel$Book" "follows" "[Z") (by decide +kernel)) (fun _ h9 => h9) rfl dX8_be_82 ?_
        refine lv_iload_n hx hb dX8_be_85 rfl (lv_at hl 2 rfl) ?_
        refine lv_aload_n hx hb dX8_be_86 rfl (lv_at hl 1 rfl) ?_
        refine va_get (D := D) (ci := 8) (C := RX8) (T := TX8) (N := 5) hx hb hts inn_X8_be_8 hown hAB.1 hP 1 rfl rfl 3 (by decide) (hts (.fieldLink RX8 18 "BarnBenchModel$Book" "follows" "[Z") (by decide +kernel)) (fun _ h9 => h9) rfl dX8_be_87 ?_
        refine lv_iload_n hx hb dX8_be_90 rfl (lv_at hl 2 rfl) ?_
        refine va_zald hx hb hAB.1 hP 4 2 rfl rfl h.1 dX8_be_91 ?_
        have h := h.2
        refine sM_9 hx hb hAB hP hD hS h.1 dX8_be_92 (fun qF_27 H locs e_28 hP hD hS => ?_)
        have h := h.2
        have h := h qF_27 e_28
        obtain ⟨x2_29, e_30⟩ : ∃ y : Int32, y = x2_23 + 1 := ⟨_, rfl⟩
        have h := h x2_29 e_30
        refine lv_iinc (v := x2_29) (lv' := [(2, .int x2_29), (0, .ref (ad 6)), (1, .ref (ad 1))]) hx hb dX8_be_93 hl (k := 2) rfl (by rw [e_30]; rfl) (by decide) rfl (fun ls hl => ?_)
        refine lv_goto (tgt := 74) hx hb dX8_be_96 (by decide) ?_
        exact ih74 x2_29 qF_27 h H locs ls hP hD hS (lv_sub hl [1, 2, 0] rfl)
  obtain ⟨n74, h⟩ := h
  refine L74 _ (fun qF_25 h H locs ls hP hD hS hl => ?_) n74 0 qF h H locs ls hP hD hS (lv_sub hl [1, 2, 0] rfl)
  exact rt_v (qT_1, qK_6, qN_17, qF_25, qS_7) hQ hx hb hr hlk hP hD hS ⟨Nat.zero_le _, Nat.zero_le _⟩ dX8_be_99 h
def wp_X8_be_2_L10 (qK : Nat → Int32) (qS : Nat → Int32) (x10 : (Nat → Int32) → (Nat → Int32) → Prop) : Nat → (Int32) → (Nat → Int32) → (Nat → Int32) → Prop
  | 0, _, _, _ => False
  | n10 + 1, x2_3, pK_4, pS_5 =>
  ((12 ≤ x2_3 → x10 pK_4 pS_5) ∧
   (¬ 12 ≤ x2_3 → vp_in x2_3 12 ∧ vp_in x2_3 12 ∧ ∀ pK_9 : Nat → Int32, pK_9 = upd pK_4 (Int32.toNatClampNeg x2_3) (qK (Int32.toNatClampNeg x2_3)) → vp_in x2_3 12 ∧ vp_in x2_3 12 ∧ ∀ pS_11 : Nat → Int32, pS_11 = upd pS_5 (Int32.toNatClampNeg x2_3) (qS (Int32.toNatClampNeg x2_3)) → ∀ x2_13 : Int32, x2_13 = x2_3 + 1 → (wp_X8_be_2_L10 qK qS x10 n10) x2_13 pK_9 pS_11))
def wp_X8_be_2_L48 (qN : Nat → Int32) (x48 : (Nat → Int32) → Prop) : Nat → (Int32) → (Nat → Int32) → Prop
  | 0, _, _ => False
  | n48 + 1, x2_15, pN_16 =>
  ((60 ≤ x2_15 → x48 pN_16) ∧
   (¬ 60 ≤ x2_15 → vp_in x2_15 60 ∧ vp_in x2_15 60 ∧ ∀ pN_19 : Nat → Int32, pN_19 = upd pN_16 (Int32.toNatClampNeg x2_15) (qN (Int32.toNatClampNeg x2_15)) → ∀ x2_21 : Int32, x2_21 = x2_15 + 1 → (wp_X8_be_2_L48 qN x48 n48) x2_21 pN_19))
def wp_X8_be_2_L74 (qF : Nat → Int32) (x74 : (Nat → Int32) → Prop) : Nat → (Int32) → (Nat → Int32) → Prop
  | 0, _, _ => False
  | n74 + 1, x2_23, pF_24 =>
  ((144 ≤ x2_23 → x74 pF_24) ∧
   (¬ 144 ≤ x2_23 → vp_in x2_23 144 ∧ vp_in x2_23 144 ∧ ∀ pF_27 : Nat → Int32, pF_27 = upd pF_24 (Int32.toNatClampNeg x2_23) (vp_nar .boolean (qF (Int32.toNatClampNeg x2_23))) → ∀ x2_29 : Int32, x2_29 = x2_23 + 1 → (wp_X8_be_2_L74 qF x74 n74) x2_29 pF_27))
def wp_X8_be_2 (pT : Int32) (pK : Nat → Int32) (pN : Nat → Int32) (pF : Nat → Int32) (pS : Nat → Int32) (qT : Int32) (qK : Nat → Int32) (qN : Nat → Int32) (qF : Nat → Int32) (qS : Nat → Int32)  (Qp : (Int32) → (Nat → Int32) → (Nat → Int32) → (Nat → Int32) → (Nat → Int32) → Prop) : Prop :=
  ∀ pT_1 : Int32, pT_1 = qT → (∃ n10 : Nat, wp_X8_be_2_L10 qK qS (fun (pK_6 : Nat → Int32) (pS_7 : Nat → Int32) => (∃ n48 : Nat, wp_X8_be_2_L48 qN (fun (pN_17 : Nat → Int32) => (∃ n74 : Nat, wp_X8_be_2_L74 qF (fun (pF_25 : Nat → Int32) => Qp pT_1 pK_6 pN_17 pF_25 pS_7) n74 0 pF)) n48 0 pN)) n10 0 pK pS)
set_option maxHeartbeats 4000000 in
set_option maxRecDepth 100000 in
theorem ct_X8_be_2 {l : Launch} {D : va_G} {cI cJ cZ cE cD cK : ClassId} {ad : Nat → Nat} {ud : Nat → Nat → Nat} {pT : Int32} {pK : Nat → Int32} {pN : Nat → Int32} {pF : Nat → Int32} {pS : Nat → Int32} {qT : Int32} {qK : Nat → Int32} {qN : Nat → Int32} {qF : Nat → Int32} {qS : Nat → Int32} {mKe : Int32} {mUn : Int32} {mFi : Int32} {mRi : Int32} {mBe : Int64} {mWc : Int32} {mAK : Int32} {mSh : Int32} {mIP : Int32} {mUS : Nat → Int32} {mWa : Nat → Int32} {mWi : Nat → Int32} {mSi : Nat → Int32} {mRo : Nat → Int64} {mSp : Nat → Int64} {mRw : Nat → Int32} {mSn : Nat → Int32} {mBg : Nat → Int32} {mLa : Nat → Int32} {mMo : Nat → Int32} {mRm : Nat → Int64} {mOw : Nat → Int64} {mGo : Nat → Int32} {mFr : Nat → Int32} {mQu : Nat → Int32} {mCh : Nat → Int64} {mPB : Nat → Int32} {mPS : Nat → Int32} {mFs : Nat → Int32} {ub : Nat → Nat} {uT : Nat → Int32} {uK : Nat → Nat → Int32} {uN : Nat → Nat → Int32} {uF : Nat → Nat → Int32} {uS : Nat → Nat → Int32}    {Qp : (Int32) → (Nat → Int32) → (Nat → Int32) → (Nat → Int32) → (Nat → Int32) → Prop}   (h : wp_X8_be_2 pT pK pN pF pS qT qK qN qF qS Qp) : CTv l yX8_be wsX8_be rm_X8_be D (tyL cI cJ cZ cE cD cK) [.ref (ad 1), .ref (ad 6)] (WM cI cJ cZ cK ad ud pT pK pN pF pS qT qK qN qF qS mKe mUn mFi mRi mBe mWc mAK mSh mIP mUS mWa mWi mSi mRo mSp mRw mSn mBg mLa mMo mRm mOw mGo mFr mQu mCh mPB mPS mFs ub uT uK uN uF uS) (fun u : (Int32) × (Nat → Int32) × (Nat → Int32) × (Nat → Int32) × (Nat → Int32) => Qp u.1 u.2.1 u.2.2.1 u.2.2.2.1 u.2.2.2.2) (fun u : (Int32) × (Nat → Int32) × (Nat → Int32) × (Nat → Int32) × (Nat → Int32) => (WM cI cJ cZ cK ad ud u.1 u.2.1 u.2.2.1 u.2.2.2.1 u.2.2.2.2 qT qK qN qF qS mKe mUn mFi mRi mBe mWc mAK mSh mIP mUS mWa mWi mSi mRo mSp mRw mSn mBg mLa mMo mRm mOw mGo mFr mQu mCh mPB mPS mFs ub uT uK uN uF uS)) 0 0 := by
  refine ent_v (cc := cX8_be) (maxL := 3) (ret := none) (by decide) rfl (Nat.le_of_ble_eq_true rfl) ?_
  intro p e s m args below meth c A Q hQ hx hb hr hml hown hts hlk hA hAB hP hD hS ls hl
  have hown : s.vm.findClass RX8 = some m.cls := hown
  have hl : lv_has ls 3 [(0, .ref (ad 1)), (1, .ref (ad 6))] := hl
  generalize hH : s.heap = H at hP ⊢
  have hS : va_S A s.heap H [] := by rw [← hH]; exact hS
  clear hH
  generalize ([] : List Loc) = locs at hS ⊢
  refine lv_aload_n hx hb dX8_be_0 rfl (lv_at hl 0 rfl) ?_
  refine lv_aload_n hx hb dX8_be_1 rfl (lv_at hl 1 rfl) ?_
  refine va_get (D := D) (ci := 8) (C := RX8) (T := TX8) (N := 5) hx hb hts inn_X8_be_8 hown hAB.1 hP 6 rfl rfl 0 (by decide) (hts (.fieldLink RX8 25 "BarnBenchModel$Book" "tasks" "I") (by decide +kernel)) (fun _ h9 => h9) rfl dX8_be_2 ?_
  refine fM_1_tasks hx hb hAB hP hD hS hts inn_X8_be_8 hown (hts (.fieldLink RX8 25 "BarnBenchModel$Book" "tasks" "I") (by decide +kernel)) dX8_be_5 (fun pT_1 H locs e_2 hP hD hS => ?_)
  have h := h pT_1 e_2
  refine lv_iconst (v := 0) hx hb dX8_be_8 (by decide) ?_
  refine lv_istore_n (lv' := [(2, .int 0), (0, .ref (ad 1)), (1, .ref (ad 6))]) hx hb dX8_be_9 rfl hl (by decide) rfl (fun ls hl => ?_)
  have L10 : ∀ (x10 : (Nat → Int32) → (Nat → Int32) → Prop) (hk10 : ∀ (pK_6 : Nat → Int32) (pS_7 : Nat → Int32), x10 pK_6 pS_7 → ∀ (H : Heap) (locs : List Loc) (ls : Array Slot), va_P D vwCl (WM cI cJ cZ cK ad ud pT_1 pK_6 pN pF pS_7 qT qK qN qF qS mKe mUn mFi mRi mBe mWc mAK mSh mIP mUS mWa mWi mSi mRo mSp mRw mSn mBg mLa mMo mRm mOw mGo mFr mQu mCh mPB mPS mFs ub uT uK uN uF uS) H → va_D A (WM cI cJ cZ cK ad ud pT_1 pK_6 pN pF pS_7 qT qK qN qF qS mKe mUn mFi mRi mBe mWc mAK mSh mIP mUS mWa mWi mSi mRo mSp mRw mSn mBg mLa mMo mRm mOw mGo mFr mQu mCh mPB mPS mFs ub uT uK uN uF uS) → va_S A s.heap H locs → lv_has ls 3 [(0, .ref (ad 1)), (1, .ref (ad 6))] → W p l e (headSpec wsX8_be rm_X8_be).room s m args below meth c H locs 0 0 Q (F0 m 46 ls [])) (n10 : Nat) (x2_3 : Int32) (pK_4 : Nat → Int32) (pS_5 : Nat → Int32), wp_X8_be_2_L10 qK qS x10 n10 x2_3 pK_4 pS_5 → ∀ (H : Heap) (locs : List Loc) (ls : Array Slot), va_P D vwCl (WM cI cJ cZ cK ad ud pT_1 pK_4 pN pF pS_5 qT qK qN qF qS mKe mUn mFi mRi mBe mWc mAK mSh mIP mUS mWa mWi mSi mRo mSp mRw mSn mBg mLa mMo mRm mOw mGo mFr mQu mCh mPB mPS mFs ub uT uK uN uF uS) H → va_D A (WM cI cJ cZ cK ad ud pT_1 pK_4 pN pF pS_5 qT qK qN qF qS mKe mUn mFi mRi mBe mWc mAK mSh mIP mUS mWa mWi mSi mRo mSp mRw mSn mBg mLa mMo mRm mOw mGo mFr mQu mCh mPB mPS mFs ub uT uK uN uF uS) → va_S A s.heap H locs → lv_has ls 3 [(0, .ref (ad 1)), (1, .ref (ad 6)), (2, .int x2_3)] → W p l e (headSpec wsX8_be rm_X8_be).room s m args below meth c H locs 0 0 Q (F0 m 10 ls []) := by
    intro x10 hk10 n10
    induction n10 with
    | zero => intro x2_3 pK_4 pS_5 h; exact False.elim h
    | succ n10 ih10 =>
      intro x2_3 pK_4 pS_5 h H locs ls hP hD hS hl
      refine lv_iload_n hx hb dX8_be_10 rfl (lv_at hl 2 rfl) ?_
      refine lv_bipush (v := 12) hx hb dX8_be_11 (by decide) ?_
      refine lv_icmp_ge (tgt := 46) hx hb dX8_be_13 (by decide) (fun c_8 => ?_) (fun c_8 => ?_)
      · have h := h.1 c_8
        exact hk10 pK_4 pS_5 h H locs ls hP hD hS (lv_sub hl [0, 1] rfl)
      · have h := h.2 c_8
        refine lv_aload_n hx hb dX8_be_16 rfl (lv_at hl 0 rfl) ?_
        refine va_get (D := D) (ci := 8) (C := RX8) (T := TX8) (N := 5) hx hb hts inn_X8_be_8 hown hAB.1 hP 1 rfl rfl 1 (by decide) (hts (.fieldLink RX8 9 "BarnBenchModel$Book" "kinds" "[I") (by decide +kernel)) (fun _ h9 => h9) rfl dX8_be_17 ?_
        refine lv_iload_n hx hb dX8_be_20 rfl (lv_at hl 2 rfl) ?_
        refine lv_aload_n hx hb dX8_be_21 rfl (lv_at hl 1 rfl) ?_
        refine va_get (D := D) (ci := 8) (C := RX8) (T := TX8) (N := 5) hx hb hts inn_X8_be_8 hown hAB.1 hP 6 rfl rfl 1 (by decide) (hts (.fieldLink RX8 9 "BarnBenchModel$Book" "kinds" "[I") (by decide +kernel)) (fun _ h9 => h9) rfl dX8_be_22 ?_
        refine lv_iload_n hx hb dX8_be_25 rfl (lv_at hl 2 rfl) ?_
        refine va_iald hx hb hAB.1 hP 7 0 rfl rfl h.1 dX8_be_26 ?_
        have h := h.2
        refine sM_2 hx hb hAB hP hD hS h.1 dX8_be_27 (fun pK_9 H locs e_10 hP hD hS => ?_)
        have h := h.2
        have h := h pK_9 e_10
        refine lv_aload_n hx hb dX8_be_28 rfl (lv_at hl 0 rfl) ?_
        refine va_get (D := D) (ci := 8) (C := RX8) (T := TX8) (N := 5) hx hb hts inn_X8_be_8 hown hAB.1 hP 1 rfl rfl 4 (by decide) (hts (.fieldLink RX8 22 "BarnBenchModel$Book" "spans" "[I") (by decide +kernel)) (fun _ h9 => h9) rfl dX8_be_29 ?_
        refine lv_iload_n hx hb dX8_be_32 rfl (lv_at hl 2 rfl) ?_
        refine lv_aload_n hx hb dX8_be_33 rfl (lv_at hl 1 rfl) ?_
        refine va_get (D := D) (ci := 8) (C := RX8) (T := TX8) (N := 5) hx hb hts inn_X8_be_8 hown hAB.1 hP 6 rfl rfl 4 (by decide) (hts (.fieldLink RX8 22 "BarnBenchModel$Book" "spans" "[I") (by decide +kernel)) (fun _ h9 => h9) rfl dX8_be_34 ?_
        refine lv_iload_n hx hb dX8_be_37 rfl (lv_at hl 2 rfl) ?_
        refine va_iald hx hb hAB.1 hP 10 0 rfl rfl h.1 dX8_be_38 ?_
        have h := h.2
        refine sM_5 hx hb hAB hP hD hS h.1 dX8_be_39 (fun pS_11 H locs e_12 hP hD hS => ?_)
        have h := h.2
        have h := h pS_11 e_12
        obtain ⟨x2_13, e_14⟩ : ∃ y : Int32, y = x2_3 + 1 := ⟨_, rfl⟩
        have h := h x2_13 e_14
        refine lv_iinc (v := x2_13) (lv' := [(2, .int x2_13), (0, .ref (ad 1)), (1, .ref (ad 6))]) hx hb dX8_be_40 hl (k := 2) rfl (by rw [e_14]; rfl) (by decide) rfl (fun ls hl => ?_)
        refine lv_goto (tgt := 10) hx hb dX8_be_43 (by decide) ?_
        exact ih10 x2_13 pK_9 pS_11 h H locs ls hP hD hS (lv_sub hl [1, 2, 0] rfl)
  obtain ⟨n10, h⟩ := h
  refine L10 _ (fun pK_6 pS_7 h H locs ls hP hD hS hl => ?_) n10 0 pK pS h H locs ls hP hD hS (lv_sub hl [1, 2, 0] rfl)
  refine lv_iconst (v := 0) hx hb dX8_be_46 (by decide) ?_
  refine lv_istore_n (lv' := [(2, .int 0), (0, .ref (ad 1)), (1, .ref (ad 6))]) hx hb dX8_be_47 rfl hl (by decide) rfl (fun ls hl => ?_)
  have L48 : ∀ (x48 : (Nat → Int32) → Prop) (hk48 : ∀ (pN_17 : Nat → Int32), x48 pN_17 → ∀ (H : Heap) (locs : List Loc) (ls : Array Slot), va_P D vwCl (WM cI cJ cZ cK ad ud pT_1 pK_6 pN_17 pF pS_7 qT qK qN qF qS mKe mUn mFi mRi mBe mWc mAK mSh mIP mUS mWa mWi mSi mRo mSp mRw mSn mBg mLa mMo mRm mOw mGo mFr mQu mCh mPB mPS mFs ub uT uK uN uF uS) H → va_D A (WM cI cJ cZ cK ad ud pT_1 pK_6 pN_17 pF pS_7 qT qK qN qF qS mKe mUn mFi mRi mBe mWc mAK mSh mIP mUS mWa mWi mSi mRo mSp mRw mSn mBg mLa mMo mRm mOw mGo mFr mQu mCh mPB mPS mFs ub uT uK uN uF uS) → va_S A s.heap H locs → lv_has ls 3 [(0, .ref (ad 1)), (1, .ref (ad 6))] → W p l e (headSpec wsX8_be rm_X8_be).room s m args below meth c H locs 0 0 Q (F0 m 72 ls [])) (n48 : Nat) (x2_15 : Int32) (pN_16 : Nat → Int32), wp_X8_be_2_L48 qN x48 n48 x2_15 pN_16 → ∀ (H : Heap) (locs : List Loc) (ls : Array Slot), va_P D vwCl (WM cI cJ cZ cK ad ud pT_1 pK_6 pN_16 pF pS_7 qT qK qN qF qS mKe mUn mFi mRi mBe mWc mAK mSh mIP mUS mWa mWi mSi mRo mSp mRw mSn mBg mLa mMo mRm mOw mGo mFr mQu mCh mPB mPS mFs ub uT uK uN uF uS) H → va_D A (WM cI cJ cZ cK ad ud pT_1 pK_6 pN_16 pF pS_7 qT qK qN qF qS mKe mUn mFi mRi mBe mWc mAK mSh mIP mUS mWa mWi mSi mRo mSp mRw mSn mBg mLa mMo mRm mOw mGo mFr mQu mCh mPB mPS mFs ub uT uK uN uF uS) → va_S A s.heap H locs → lv_has ls 3 [(0, .ref (ad 1)), (1, .ref (ad 6)), (2, .int x2_15)] → W p l e (headSpec wsX8_be rm_X8_be).room s m args below meth c H locs 0 0 Q (F0 m 48 ls []) := by
    intro x48 hk48 n48
    induction n48 with
    | zero => intro x2_15 pN_16 h; exact False.elim h
    | succ n48 ih48 =>
      intro x2_15 pN_16 h H locs ls hP hD hS hl
      refine lv_iload_n hx hb dX8_be_48 rfl (lv_at hl 2 rfl) ?_
      refine lv_bipush (v := 60) hx hb dX8_be_49 (by decide) ?_
      refine lv_icmp_ge (tgt := 72) hx hb dX8_be_51 (by decide) (fun c_18 => ?_) (fun c_18 => ?_)
      · have h := h.1 c_18
        exact hk48 pN_16 h H locs ls hP hD hS (lv_sub hl [0, 1] rfl)
      · have h := h.2 c_18
        refine lv_aload_n hx hb dX8_be_54 rfl (lv_at hl 0 rfl) ?_
        refine va_get (D := D) (ci := 8) (C := RX8) (T := TX8) (N := 5) hx hb hts inn_X8_be_8 hown hAB.1 hP 1 rfl rfl 2 (by decide) (hts (.fieldLink RX8 15 "BarnBenchModel$Book" "numbers" "[I") (by decide +kernel)) (fun _ h9 => h9) rfl dX8_be_55 ?_
        refine lv_iload_n hx hb dX8_be_58 rfl (lv_at hl 2 rfl) ?_
        refine lv_aload_n hx hb dX8_be_59 rfl (lv_at hl 1 rfl) ?_
        refine va_get (D := D) (ci := 8) (C := RX8) (T := TX8) (N := 5) hx hb hts inn_X8_be_8 hown hAB.1 hP 6 rfl rfl 2 (by decide) (hts (.fieldLink RX8 15 "BarnBenchModel$Book" "numbers" "[I") (by decide +kernel)) (fun _ h9 => h9) rfl dX8_be_60 ?_
        refine lv_iload_n hx hb dX8_be_63 rfl (lv_at hl 2 rfl) ?_
        refine va_iald hx hb hAB.1 hP 8 0 rfl rfl h.1 dX8_be_64 ?_
        have h := h.2
        refine sM_3 hx hb hAB hP hD hS h.1 dX8_be_65 (fun pN_19 H locs e_20 hP hD hS => ?_)
        have h := h.2
        have h := h pN_19 e_20
        obtain ⟨x2_21, e_22⟩ : ∃ y : Int32, y = x2_15 + 1 := ⟨_, rfl⟩
        have h := h x2_21 e_22
        refine lv_iinc (v := x2_21) (lv' := [(2, .int x2_21), (0, .ref (ad 1)), (1, .ref (ad 6))]) hx hb dX8_be_66 hl (k := 2) rfl (by rw [e_22]; rfl) (by decide) rfl (fun ls hl => ?_)
        refine lv_goto (tgt := 48) hx hb dX8_be_69 (by decide) ?_
        exact ih48 x2_21 pN_19 h H locs ls hP hD hS (lv_sub hl [1, 2, 0] rfl)
  obtain ⟨n48, h⟩ := h
  refine L48 _ (fun pN_17 h H locs ls hP hD hS hl => ?_) n48 0 pN h H locs ls hP hD hS (lv_sub hl [1, 2, 0] rfl)
  refine lv_iconst (v := 0) hx hb dX8_be_72 (by decide) ?_
  refine lv_istore_n (lv' := [(2, .int 0), (0, .ref (ad 1)), (1, .ref (ad 6))]) hx hb dX8_be_73 rfl hl (by decide) rfl (fun ls hl => ?_)
  have L74 : ∀ (x74 : (Nat → Int32) → Prop) (hk74 : ∀ (pF_25 : Nat → Int32), x74 pF_25 → ∀ (H : Heap) (locs : List Loc) (ls : Array Slot), va_P D vwCl (WM cI cJ cZ cK ad ud pT_1 pK_6 pN_17 pF_25 pS_7 qT qK qN qF qS mKe mUn mFi mRi mBe mWc mAK mSh mIP mUS mWa mWi mSi mRo mSp mRw mSn mBg mLa mMo mRm mOw mGo mFr mQu mCh mPB mPS mFs ub uT uK uN uF uS) H → va_D A (WM cI cJ cZ cK ad ud pT_1 pK_6 pN_17 pF_25 pS_7 qT qK qN qF qS mKe mUn mFi mRi mBe mWc mAK mSh mIP mUS mWa mWi mSi mRo mSp mRw mSn mBg mLa mMo mRm mOw mGo mFr mQu mCh mPB mPS mFs ub uT uK uN uF uS) → va_S A s.heap H locs → lv_has ls 3 [] → W p l e (headSpec wsX8_be rm_X8_be).room s m args below meth c H locs 0 0 Q (F0 m 99 ls [])) (n74 : Nat) (x2_23 : Int32) (pF_24 : Nat → Int32), wp_X8_be_2_L74 qF x74 n74 x2_23 pF_24 → ∀ (H : Heap) (locs : List Loc) (ls : Array Slot), va_P D vwCl (WM cI cJ cZ cK ad ud pT_1 pK_6 pN_17 pF_24 pS_7 qT qK qN qF qS mKe mUn mFi mRi mBe mWc mAK mSh mIP mUS mWa mWi mSi mRo mSp mRw mSn mBg mLa mMo mRm mOw mGo mFr mQu mCh mPB mPS mFs ub uT uK uN uF uS) H → va_D A (WM cI cJ cZ cK ad ud pT_1 pK_6 pN_17 pF_24 pS_7 qT qK qN qF qS mKe mUn mFi mRi mBe mWc mAK mSh mIP mUS mWa mWi mSi mRo mSp mRw mSn mBg mLa mMo mRm mOw mGo mFr mQu mCh mPB mPS mFs ub uT uK uN uF uS) → va_S A s.heap H locs → lv_has ls 3 [(0, .ref (ad 1)), (1, .ref (ad 6)), (2, .int x2_23)] → W p l e (headSpec wsX8_be rm_X8_be).room s m args below meth c H locs 0 0 Q (F0 m 74 ls []) := by
    intro x74 hk74 n74
    induction n74 with
    | zero => intro x2_23 pF_24 h; exact False.elim h
    | succ n74 ih74 =>
      intro x2_23 pF_24 h H locs ls hP hD hS hl
      refine lv_iload_n hx hb dX8_be_74 rfl (lv_at hl 2 rfl) ?_
      refine lv_sipush (v := 144) hx hb dX8_be_75 (by decide) ?_
      refine lv_icmp_ge (tgt := 99) hx hb dX8_be_78 (by decide) (fun c_26 => ?_) (fun c_26 => ?_)
      · have h := h.1 c_26
        exact hk74 pF_24 h H locs ls hP hD hS (lv_sub hl [] rfl)
      · have h := h.2 c_26
        refine lv_aload_n hx hb dX8_be_81 rfl (lv_at hl 0 rfl) ?_
        refine va_get (D := D) (ci := 8) (C := RX8) (T := TX8) (N := 5) hx hb hts inn_X8_be_8 hown hAB.1 hP 1 rfl rfl 3 (by decide) (hts (.fieldLink RX8 18 "BarnBenchModel$Book" "follows" "[Z") (by decide +kernel)) (fun _ h9 => h9) rfl dX8_be_82 ?_
        refine lv_iload_n hx hb dX8_be_85 rfl (lv_at hl 2 rfl) ?_
        refine lv_aload_n hx hb dX8_be_86 rfl (lv_at hl 1 rfl) ?_
        refine va_get (D := D) (ci := 8) (C := RX8) (T := TX8) (N := 5) hx hb hts inn_X8_be_8 hown hAB.1 hP 6 rfl rfl 3 (by decide) (hts (.fieldLink RX8 18 "BarnBenchModel$Book" "follows" "[Z") (by decide +kernel)) (fun _ h9 => h9) rfl dX8_be_87 ?_
        refine lv_iload_n hx hb dX8_be_90 rfl (lv_at hl 2 rfl) ?_
        refine va_zald hx hb hAB.1 hP 9 2 rfl rfl h.1 dX8_be_91 ?_
        have h := h.2
        refine sM_4 hx hb hAB hP hD hS h.1 dX8_be_92 (fun pF_27 H locs e_28 hP hD hS => ?_)
        have h := h.2
        have h := h pF_27 e_28
        obtain ⟨x2_29, e_30⟩ : ∃ y : Int32, y = x2_23 + 1 := ⟨_, rfl⟩
        have h := h x2_29 e_30
        refine lv_iinc (v := x2_29) (lv' := [(2, .int x2_29), (0, .ref (ad 1)), (1, .ref (ad 6))]) hx hb dX8_be_93 hl (k := 2) rfl (by rw [e_30]; rfl) (by decide) rfl (fun ls hl => ?_)
        refine lv_goto (tgt := 74) hx hb dX8_be_96 (by decide) ?_
        exact ih74 x2_29 pF_27 h H locs ls hP hD hS (lv_sub hl [1, 2, 0] rfl)
  obtain ⟨n74, h⟩ := h
  refine L74 _ (fun pF_25 h H locs ls hP hD hS hl => ?_) n74 0 pF h H locs ls hP hD hS (lv_sub hl [1, 2, 0] rfl)
  exact rt_v (pT_1, pK_6, pN_17, pF_25, pS_7) hQ hx hb hr hlk hP hD hS ⟨Nat.zero_le _, Nat.zero_le _⟩ dX8_be_99 h
def wp_X8_be_3_L10 (pK : Nat → Int32) (pS : Nat → Int32) (x10 : (Nat → Int32) → (Nat → Int32) → Prop) : Nat → (Int32) → (Nat → Int32) → (Nat → Int32) → Prop
  | 0, _, _, _ => False
  | n10 + 1, x2_3, f0_kinds_4, f0_spans_5 =>
  ((12 ≤ x2_3 → x10 f0_kinds_4 f0_spans_5) ∧
   (¬ 12 ≤ x2_3 → vp_in x2_3 12 ∧ vp_in x2_3 12 ∧ ∀ f0_kinds_9 : Nat → Int32, f0_kinds_9 = upd f0_kinds_4 (Int32.toNatClampNeg x2_3) (pK (Int32.toNatClampNeg x2_3)) → vp_in x2_3 12 ∧ vp_in x2_3 12 ∧ ∀ f0_spans_11 : Nat → Int32, f0_spans_11 = upd f0_spans_5 (Int32.toNatClampNeg x2_3) (pS (Int32.toNatClampNeg x2_3)) → ∀ x2_13 : Int32, x2_13 = x2_3 + 1 → (wp_X8_be_3_L10 pK pS x10 n10) x2_13 f0_kinds_9 f0_spans_11))
def wp_X8_be_3_L48 (pN : Nat → Int32) (x48 : (Nat → Int32) → Prop) : Nat → (Int32) → (Nat → Int32) → Prop
  | 0, _, _ => False
  | n48 + 1, x2_15, f0_numbers_16 =>
  ((60 ≤ x2_15 → x48 f0_numbers_16) ∧
   (¬ 60 ≤ x2_15 → vp_in x2_15 60 ∧ vp_in x2_15 60 ∧ ∀ f0_numbers_19 : Nat → Int32, f0_numbers_19 = upd f0_numbers_16 (Int32.toNatClampNeg x2_15) (pN (Int32.toNatClampNeg x2_15)) → ∀ x2_21 : Int32, x2_21 = x2_15 + 1 → (wp_X8_be_3_L48 pN x48 n48) x2_21 f0_numbers_19))
def wp_X8_be_3_L74 (pF : Nat → Int32) (x74 : (Nat → Int32) → Prop) : Nat → (Int32) → (Nat → Int32) → Prop
  | 0, _, _ => False
  | n74 + 1, x2_23, f0_follows_24 =>
  ((144 ≤ x2_23 → x74 f0_follows_24) ∧
   (¬ 144 ≤ x2_23 → vp_in x2_23 144 ∧ vp_in x2_23 144 ∧ ∀ f0_follows_27 : Nat → Int32, f0_follows_27 = upd f0_follows_24 (Int32.toNatClampNeg x2_23) (vp_nar .boolean (pF (Int32.toNatClampNeg x2_23))) → ∀ x2_29 : Int32, x2_29 = x2_23 + 1 → (wp_X8_be_3_L74 pF x74 n74) x2_29 f0_follows_27))
def wp_X8_be_3 (f0_follows : Nat → Int32) (f0_kinds : Nat → Int32) (f0_numbers : Nat → Int32) (f0_spans : Nat → Int32) (f0_tasks : Int32) (pT : Int32) (pK : Nat → Int32) (pN : Nat → Int32) (pF : Nat → Int32) (pS : Nat → Int32)  (Qp : (Nat → Int32) → (Nat → Int32) → (Nat → Int32) → (Nat → Int32) → (Int32) → Prop) : Prop :=
  ∀ f0_tasks_1 : Int32, f0_tasks_1 = pT → (∃ n10 : Nat, wp_X8_be_3_L10 pK pS (fun (f0_kinds_6 : Nat → Int32) (f0_spans_7 : Nat → Int32) => (∃ n48 : Nat, wp_X8_be_3_L48 pN (fun (f0_numbers_17 : Nat → Int32) => (∃ n74 : Nat, wp_X8_be_3_L74 pF (fun (f0_follows_25 : Nat → Int32) => Qp f0_follows_25 f0_kinds_6 f0_numbers_17 f0_spans_7 f0_tasks_1) n74 0 (f0_follows))) n48 0 (f0_numbers))) n10 0 (f0_kinds) (f0_spans))
set_option maxHeartbeats 4000000 in
set_option maxRecDepth 100000 in
theorem ct_X8_be_3 {l : Launch} {D : va_G} {cI cJ cZ cE cD cK : ClassId} {ad : Nat → Nat} {ud : Nat → Nat → Nat} {pT : Int32} {pK : Nat → Int32} {pN : Nat → Int32} {pF : Nat → Int32} {pS : Nat → Int32} {qT : Int32} {qK : Nat → Int32} {qN : Nat → Int32} {qF : Nat → Int32} {qS : Nat → Int32} {mKe : Int32} {mUn : Int32} {mFi : Int32} {mRi : Int32} {mBe : Int64} {mWc : Int32} {mAK : Int32} {mSh : Int32} {mIP : Int32} {mUS : Nat → Int32} {mWa : Nat → Int32} {mWi : Nat → Int32} {mSi : Nat → Int32} {mRo : Nat → Int64} {mSp : Nat → Int64} {mRw : Nat → Int32} {mSn : Nat → Int32} {mBg : Nat → Int32} {mLa : Nat → Int32} {mMo : Nat → Int32} {mRm : Nat → Int64} {mOw : Nat → Int64} {mGo : Nat → Int32} {mFr : Nat → Int32} {mQu : Nat → Int32} {mCh : Nat → Int64} {mPB : Nat → Int32} {mPS : Nat → Int32} {mFs : Nat → Int32} {ub : Nat → Nat} {uT : Nat → Int32} {uK : Nat → Nat → Int32} {uN : Nat → Nat → Int32} {uF : Nat → Nat → Int32} {uS : Nat → Nat → Int32} {i : Nat} {f0_follows : Nat → Int32} {f0_kinds : Nat → Int32} {f0_numbers : Nat → Int32} {f0_spans : Nat → Int32} {f0_tasks : Int32}  {Qp : (Nat → Int32) → (Nat → Int32) → (Nat → Int32) → (Nat → Int32) → (Int32) → Prop} (hi0 : i < 30)  (h : wp_X8_be_3 f0_follows f0_kinds f0_numbers f0_spans f0_tasks pT pK pN pF pS Qp) : CTv l yX8_be wsX8_be rm_X8_be D (tyL cI cJ cZ cE cD cK) [.ref (ud i 0), .ref (ad 1)] (WM cI cJ cZ cK ad ud pT pK pN pF pS qT qK qN qF qS mKe mUn mFi mRi mBe mWc mAK mSh mIP mUS mWa mWi mSi mRo mSp mRw mSn mBg mLa mMo mRm mOw mGo mFr mQu mCh mPB mPS mFs ub (va_up uT i f0_tasks) (va_up uK i f0_kinds) (va_up uN i f0_numbers) (va_up uF i f0_follows) (va_up uS i f0_spans)) (fun u : (Nat → Int32) × (Nat → Int32) × (Nat → Int32) × (Nat → Int32) × (Int32) => Qp u.1 u.2.1 u.2.2.1 u.2.2.2.1 u.2.2.2.2) (fun u : (Nat → Int32) × (Nat → Int32) × (Nat → Int32) × (Nat → Int32) × (Int32) => (WM cI cJ cZ cK ad ud pT pK pN pF pS qT qK qN qF qS mKe mUn mFi mRi mBe mWc mAK mSh mIP mUS mWa mWi mSi mRo mSp mRw mSn mBg mLa mMo mRm mOw mGo mFr mQu mCh mPB mPS mFs ub (va_up uT i u.2.2.2.2) (va_up uK i u.2.1) (va_up uN i u.2.2.1) (va_up uF i u.1) (va_up uS i u.2.2.2.1))) 0 0 := by
  refine ent_v (cc := cX8_be) (maxL := 3) (ret := none) (by decide) rfl (Nat.le_of_ble_eq_true rfl) ?_
  intro p e s m args below meth c A Q hQ hx hb hr hml hown hts hlk hA hAB hP hD hS ls hl
  have hown : s.vm.findClass RX8 = some m.cls := hown
  have hl : lv_has ls 3 [(0, .ref (ud i 0)), (1, .ref (ad 1))] := hl
  generalize hH : s.heap = H at hP ⊢
  have hS : va_S A s.heap H [] := by rw [← hH]; exact hS
  clear hH
  generalize ([] : List Loc) = locs at hS ⊢
  refine lv_aload_n hx hb dX8_be_0 rfl (lv_at hl 0 rfl) ?_
  refine lv_aload_n hx hb dX8_be_1 rfl (lv_at hl 1 rfl) ?_
  refine va_get (D := D) (ci := 8) (C := RX8) (T := TX8) (N := 5) hx hb hts inn_X8_be_8 hown hAB.1 hP 1 rfl rfl 0 (by decide) (hts (.fieldLink RX8 25 "BarnBenchModel$Book" "tasks" "I") (by decide +kernel)) (fun _ h9 => h9) rfl dX8_be_2 ?_
  refine fU_tasks hx hb hAB hP hD hS hi0 hts inn_X8_be_8 hown (hts (.fieldLink RX8 25 "BarnBenchModel$Book" "tasks" "I") (by decide +kernel)) dX8_be_5 (fun f0_tasks_1_w H locs e_2 hP hD hS => ?_)
  rw [va_up_up] at e_2
  subst e_2
  obtain ⟨f0_tasks_1, e_2⟩ : ∃ z, z = pT := ⟨_, rfl⟩
  have h := h f0_tasks_1 e_2
  have hP : va_P D vwCl (WM cI cJ cZ cK ad ud pT pK pN pF pS qT qK qN qF qS mKe mUn mFi mRi mBe mWc mAK mSh mIP mUS mWa mWi mSi mRo mSp mRw mSn mBg mLa mMo mRm mOw mGo mFr mQu mCh mPB mPS mFs ub (va_up uT i f0_tasks_1) (va_up uK i f0_kinds) (va_up uN i f0_numbers) (va_up uF i f0_follows) (va_up uS i f0_spans)) H := by rw [e_2]; exact hP
  have hD : va_D A (WM cI cJ cZ cK ad ud pT pK pN pF pS qT qK qN qF qS mKe mUn mFi mRi mBe mWc mAK mSh mIP mUS mWa mWi mSi mRo mSp mRw mSn mBg mLa mMo mRm mOw mGo mFr mQu mCh mPB mPS mFs ub (va_up uT i f0_tasks_1) (va_up uK i f0_kinds) (va_up uN i f0_numbers) (va_up uF i f0_follows) (va_up uS i f0_spans)) := by rw [e_2]; exact hD
  refine lv_iconst (v := 0) hx hb dX8_be_8 (by decide) ?_
  refine lv_istore_n (lv' := [(2, .int 0), (0, .ref (ud i 0)), (1, .ref (ad 1))]) hx hb dX8_be_9 rfl hl (by decide) rfl (fun ls hl => ?_)
  have L10 : ∀ (x10 : (Nat → Int32) → (Nat → Int32) → Prop) (hk10 : ∀ (f0_kinds_6 : Nat → Int32) (f0_spans_7 : Nat → Int32), x10 f0_kinds_6 f0_spans_7 → ∀ (H : Heap) (locs : List Loc) (ls : Array Slot), va_P D vwCl (WM cI cJ cZ cK ad ud pT pK pN pF pS qT qK qN qF qS mKe mUn mFi mRi mBe mWc mAK mSh mIP mUS mWa mWi mSi mRo mSp mRw mSn mBg mLa mMo mRm mOw mGo mFr mQu mCh mPB mPS mFs ub (va_up uT i f0_tasks_1) (va_up uK i f0_kinds_6) (va_up uN i f0_numbers) (va_up uF i f0_follows) (va_up uS i f0_spans_7)) H → va_D A (WM cI cJ cZ cK ad ud pT pK pN pF pS qT qK qN qF qS mKe mUn mFi mRi mBe mWc mAK mSh mIP mUS mWa mWi mSi mRo mSp mRw mSn mBg mLa mMo mRm mOw mGo mFr mQu mCh mPB mPS mFs ub (va_up uT i f0_tasks_1) (va_up uK i f0_kinds_6) (va_up uN i f0_numbers) (va_up uF i f0_follows) (va_up uS i f0_spans_7)) → va_S A s.heap H locs → lv_has ls 3 [(0, .ref (ud i 0)), (1, .ref (ad 1))] → W p l e (headSpec wsX8_be rm_X8_be).room s m args below meth c H locs 0 0 Q (F0 m 46 ls [])) (n10 : Nat) (x2_3 : Int32) (f0_kinds_4 : Nat → Int32) (f0_spans_5 : Nat → Int32), wp_X8_be_3_L10 pK pS x10 n10 x2_3 f0_kinds_4 f0_spans_5 → ∀ (H : Heap) (locs : List Loc) (ls : Array Slot), va_P D vwCl (WM cI cJ cZ cK ad ud pT pK pN pF pS qT qK qN qF qS mKe mUn mFi mRi mBe mWc mAK mSh mIP mUS mWa mWi mSi mRo mSp mRw mSn mBg mLa mMo mRm mOw mGo mFr mQu mCh mPB mPS mFs ub (va_up uT i f0_tasks_1) (va_up uK i f0_kinds_4) (va_up uN i f0_numbers) (va_up uF i f0_follows) (va_up uS i f0_spans_5)) H → va_D A (WM cI cJ cZ cK ad ud pT pK pN pF pS qT qK qN qF qS mKe mUn mFi mRi mBe mWc mAK mSh mIP mUS mWa mWi mSi mRo mSp mRw mSn mBg mLa mMo mRm mOw mGo mFr mQu mCh mPB mPS mFs ub (va_up uT i f0_tasks_1) (va_up uK i f0_kinds_4) (va_up uN i f0_numbers) (va_up uF i f0_follows) (va_up uS i f0_spans_5)) → va_S A s.heap H locs → lv_has ls 3 [(0, .ref (ud i 0)), (1, .ref (ad 1)), (2, .int x2_3)] → W p l e (headSpec wsX8_be rm_X8_be).room s m args below meth c H locs 0 0 Q (F0 m 10 ls []) := by
    intro x10 hk10 n10
    induction n10 with
    | zero => intro x2_3 f0_kinds_4 f0_spans_5 h; exact False.elim h
    | succ n10 ih10 =>
      intro x2_3 f0_kinds_4 f0_spans_5 h H locs ls hP hD hS hl
      refine lv_iload_n hx hb dX8_be_10 rfl (lv_at hl 2 rfl) ?_
      refine lv_bipush (v := 12) hx hb dX8_be_11 (by decide) ?_
      refine lv_icmp_ge (tgt := 46) hx hb dX8_be_13 (by decide) (fun c_8 => ?_) (fun c_8 => ?_)
      · have h := h.1 c_8
        exact hk10 f0_kinds_4 f0_spans_5 h H locs ls hP hD hS (lv_sub hl [0, 1] rfl)
      · have h := h.2 c_8
        refine lv_aload_n hx hb dX8_be_16 rfl (lv_at hl 0 rfl) ?_
        refine va_get (D := D) (ci := 8) (C := RX8) (T := TX8) (N := 5) hx hb hts inn_X8_be_8 hown hAB.1 hP (32 + (i * 5 + 0)) (gU_0 hi0) rfl 1 (by decide) (hts (.fieldLink RX8 9 "BarnBenchModel$Book" "kinds" "[I") (by decide +kernel)) (fun _ h9 => h9) rfl dX8_be_17 ?_
        refine lv_iload_n hx hb dX8_be_20 rfl (lv_at hl 2 rfl) ?_
        refine lv_aload_n hx hb dX8_be_21 rfl (lv_at hl 1 rfl) ?_
        refine va_get (D := D) (ci := 8) (C := RX8) (T := TX8) (N := 5) hx hb hts inn_X8_be_8 hown hAB.1 hP 1 rfl rfl 1 (by decide) (hts (.fieldLink RX8 9 "BarnBenchModel$Book" "kinds" "[I") (by decide +kernel)) (fun _ h9 => h9) rfl dX8_be_22 ?_
        refine lv_iload_n hx hb dX8_be_25 rfl (lv_at hl 2 rfl) ?_
        refine va_iald hx hb hAB.1 hP 2 0 rfl rfl h.1 dX8_be_26 ?_
        have h := h.2
        refine sU_1 hx hb hAB hP hD hS hi0 h.1 dX8_be_27 (fun f0_kinds_9 H locs e_10 hP hD hS => ?_)
        have h := h.2
        have h := h f0_kinds_9 e_10
        refine lv_aload_n hx hb dX8_be_28 rfl (lv_at hl 0 rfl) ?_
        refine va_get (D := D) (ci := 8) (C := RX8) (T := TX8) (N := 5) hx hb hts inn_X8_be_8 hown hAB.1 hP (32 + (i * 5 + 0)) (gU_0 hi0) rfl 4 (by decide) (hts (.fieldLink RX8 22 "BarnBenchModel$Book" "spans" "[I") (by decide +kernel)) (fun _ h9 => h9) rfl dX8_be_29 ?_
        refine lv_iload_n hx hb dX8_be_32 rfl (lv_at hl 2 rfl) ?_
        refine lv_aload_n hx hb dX8_be_33 rfl (lv_at hl 1 rfl) ?_
        refine va_get (D := D) (ci := 8) (C := RX8) (T := TX8) (N := 5) hx hb hts inn_X8_be_8 hown hAB.1 hP 1 rfl rfl 4 (by decide) (hts (.fieldLink RX8 22 "BarnBenchModel$Book" "spans" "[I") (by decide +kernel)) (fun _ h9 => h9) rfl dX8_be_34 ?_
        refine lv_iload_n hx hb dX8_be_37 rfl (lv_at hl 2 rfl) ?_
        refine va_iald hx hb hAB.1 hP 5 0 rfl rfl h.1 dX8_be_38 ?_
        have h := h.2
        refine sU_4 hx hb hAB hP hD hS hi0 h.1 dX8_be_39 (fun f0_spans_11 H locs e_12 hP hD hS => ?_)
        have h := h.2
        have h := h f0_spans_11 e_12
        obtain ⟨x2_13, e_14⟩ : ∃ y : Int32, y = x2_3 + 1 := ⟨_, rfl⟩
        have h := h x2_13 e_14
        refine lv_iinc (v := x2_13) (lv' := [(2, .int x2_13), (0, .ref (ud i 0)), (1, .ref (ad 1))]) hx hb dX8_be_40 hl (k := 2) rfl (by rw [e_14]; rfl) (by decide) rfl (fun ls hl => ?_)
        refine lv_goto (tgt := 10) hx hb dX8_be_43 (by decide) ?_
        exact ih10 x2_13 f0_kinds_9 f0_spans_11 h H locs ls hP hD hS (lv_sub hl [1, 2, 0] rfl)
  obtain ⟨n10, h⟩ := h
  refine L10 _ (fun f0_kinds_6 f0_spans_7 h H locs ls hP hD hS hl => ?_) n10 0 f0_kinds f0_spans h H locs ls hP hD hS (lv_sub hl [1, 2, 0] rfl)
  refine lv_iconst (v := 0) hx hb dX8_be_46 (by decide) ?_
  refine lv_istore_n (lv' := [(2, .int 0), (0, .ref (ud i 0)), (1, .ref (ad 1))]) hx hb dX8_be_47 rfl hl (by decide) rfl (fun ls hl => ?_)
  have L48 : ∀ (x48 : (Nat → Int32) → Prop) (hk48 : ∀ (f0_numbers_17 : Nat → Int32), x48 f0_numbers_17 → ∀ (H : Heap) (locs : List Loc) (ls : Array Slot), va_P D vwCl (WM cI cJ cZ cK ad ud pT pK pN pF pS qT qK qN qF qS mKe mUn mFi mRi mBe mWc mAK mSh mIP mUS mWa mWi mSi mRo mSp mRw mSn mBg mLa mMo mRm mOw mGo mFr mQu mCh mPB mPS mFs ub (va_up uT i f0_tasks_1) (va_up uK i f0_kinds_6) (va_up uN i f0_numbers_17) (va_up uF i f0_follows) (va_up uS i f0_spans_7)) H → va_D A (WM cI cJ cZ cK ad ud pT pK pN pF pS qT qK qN qF qS mKe mUn mFi mRi mBe mWc mAK mSh mIP mUS mWa mWi mSi mRo mSp mRw mSn mBg mLa mMo mRm mOw mGo mFr mQu mCh mPB mPS mFs ub (va_up uT i f0_tasks_1) (va_up uK i f0_kinds_6) (va_up uN i f0_numbers_17) (va_up uF i f0_follows) (va_up uS i f0_spans_7)) → va_S A s.heap H locs → lv_has ls 3 [(0, .ref (ud i 0)), (1, .ref (ad 1))] → W p l e (headSpec wsX8_be rm_X8_be).room s m args below meth c H locs 0 0 Q (F0 m 72 ls [])) (n48 : Nat) (x2_15 : Int32) (f0_numbers_16 : Nat → Int32), wp_X8_be_3_L48 pN x48 n48 x2_15 f0_numbers_16 → ∀ (H : Heap) (locs : List Loc) (ls : Array Slot), va_P D vwCl (WM cI cJ cZ cK ad ud pT pK pN pF pS qT qK qN qF qS mKe mUn mFi mRi mBe mWc mAK mSh mIP mUS mWa mWi mSi mRo mSp mRw mSn mBg mLa mMo mRm mOw mGo mFr mQu mCh mPB mPS mFs ub (va_up uT i f0_tasks_1) (va_up uK i f0_kinds_6) (va_up uN i f0_numbers_16) (va_up uF i f0_follows) (va_up uS i f0_spans_7)) H → va_D A (WM cI cJ cZ cK ad ud pT pK pN pF pS qT qK qN qF qS mKe mUn mFi mRi mBe mWc mAK mSh mIP mUS mWa mWi mSi mRo mSp mRw mSn mBg mLa mMo mRm mOw mGo mFr mQu mCh mPB mPS mFs ub (va_up uT i f0_tasks_1) (va_up uK i f0_kinds_6) (va_up uN i f0_numbers_16) (va_up uF i f0_follows) (va_up uS i f0_spans_7)) → va_S A s.heap H locs → lv_has ls 3 [(0, .ref (ud i 0)), (1, .ref (ad 1)), (2, .int x2_15)] → W p l e (headSpec wsX8_be rm_X8_be).room s m args below meth c H locs 0 0 Q (F0 m 48 ls []) := by
    intro x48 hk48 n48
    induction n48 with
    | zero => intro x2_15 f0_numbers_16 h; exact False.elim h
    | succ n48 ih48 =>
      intro x2_15 f0_numbers_16 h H locs ls hP hD hS hl
      refine lv_iload_n hx hb dX8_be_48 rfl (lv_at hl 2 rfl) ?_
      refine lv_bipush (v := 60) hx hb dX8_be_49 (by decide) ?_
      refine lv_icmp_ge (tgt := 72) hx hb dX8_be_51 (by decide) (fun c_18 => ?_) (fun c_18 => ?_)
      · have h := h.1 c_18
        exact hk48 f0_numbers_16 h H locs ls hP hD hS (lv_sub hl [0, 1] rfl)
      · have h := h.2 c_18
        refine lv_aload_n hx hb dX8_be_54 rfl (lv_at hl 0 rfl) ?_
        refine va_get (D := D) (ci := 8) (C := RX8) (T := TX8) (N := 5) hx hb hts inn_X8_be_8 hown hAB.1 hP (32 + (i * 5 + 0)) (gU_0 hi0) rfl 2 (by decide) (hts (.fieldLink RX8 15 "BarnBenchModel$Book" "numbers" "[I") (by decide +kernel)) (fun _ h9 => h9) rfl dX8_be_55 ?_
        refine lv_iload_n hx hb dX8_be_58 rfl (lv_at hl 2 rfl) ?_
        refine lv_aload_n hx hb dX8_be_59 rfl (lv_at hl 1 rfl) ?_
        refine va_get (D := D) (ci := 8) (C := RX8) (T := TX8) (N := 5) hx hb hts inn_X8_be_8 hown hAB.1 hP 1 rfl rfl 2 (by decide) (hts (.fieldLink RX8 15 "BarnBenchModel$Book" "numbers" "[I") (by decide +kernel)) (fun _ h9 => h9) rfl dX8_be_60 ?_
        refine lv_iload_n hx hb dX8_be_63 rfl (lv_at hl 2 rfl) ?_
        refine va_iald hx hb hAB.1 hP 3 0 rfl rfl h.1 dX8_be_64 ?_
        have h := h.2
        refine sU_2 hx hb hAB hP hD hS hi0 h.1 dX8_be_65 (fun f0_numbers_19 H locs e_20 hP hD hS => ?_)
        have h := h.2
        have h := h f0_numbers_19 e_20
        obtain ⟨x2_21, e_22⟩ : ∃ y : Int32, y = x2_15 + 1 := ⟨_, rfl⟩
        have h := h x2_21 e_22
        refine lv_iinc (v := x2_21) (lv' := [(2, .int x2_21), (0, .ref (ud i 0)), (1, .ref (ad 1))]) hx hb dX8_be_66 hl (k := 2) rfl (by rw [e_22]; rfl) (by decide) rfl (fun ls hl => ?_)
        refine lv_goto (tgt := 48) hx hb dX8_be_69 (by decide) ?_
        exact ih48 x2_21 f0_numbers_19 h H locs ls hP hD hS (lv_sub hl [1, 2, 0] rfl)
  obtain ⟨n48, h⟩ := h
  refine L48 _ (fun f0_numbers_17 h H locs ls hP hD hS hl => ?_) n48 0 f0_numbers h H locs ls hP hD hS (lv_sub hl [1, 2, 0] rfl)
  refine lv_iconst (v := 0) hx hb dX8_be_72 (by decide) ?_
  refine lv_istore_n (lv' := [(2, .int 0), (0, .ref (ud i 0)), (1, .ref (ad 1))]) hx hb dX8_be_73 rfl hl (by decide) rfl (fun ls hl => ?_)
  have L74 : ∀ (x74 : (Nat → Int32) → Prop) (hk74 : ∀ (f0_follows_25 : Nat → Int32), x74 f0_follows_25 → ∀ (H : Heap) (locs : List Loc) (ls : Array Slot), va_P D vwCl (WM cI cJ cZ cK ad ud pT pK pN pF pS qT qK qN qF qS mKe mUn mFi mRi mBe mWc mAK mSh mIP mUS mWa mWi mSi mRo mSp mRw mSn mBg mLa mMo mRm mOw mGo mFr mQu mCh mPB mPS mFs ub (va_up uT i f0_tasks_1) (va_up uK i f0_kinds_6) (va_up uN i f0_numbers_17) (va_up uF i f0_follows_25) (va_up uS i f0_spans_7)) H → va_D A (WM cI cJ cZ cK ad ud pT pK pN pF pS qT qK qN qF qS mKe mUn mFi mRi mBe mWc mAK mSh mIP mUS mWa mWi mSi mRo mSp mRw mSn mBg mLa mMo mRm mOw mGo mFr mQu mCh mPB mPS mFs ub (va_up uT i f0_tasks_1) (va_up uK i f0_kinds_6) (va_up uN i f0_numbers_17) (va_up uF i f0_follows_25) (va_up uS i f0_spans_7)) → va_S A s.heap H locs → lv_has ls 3 [] → W p l e (headSpec wsX8_be rm_X8_be).room s m args below meth c H locs 0 0 Q (F0 m 99 ls [])) (n74 : Nat) (x2_23 : Int32) (f0_follows_24 : Nat → Int32), wp_X8_be_3_L74 pF x74 n74 x2_23 f0_follows_24 → ∀ (H : Heap) (locs : List Loc) (ls : Array Slot), va_P D vwCl (WM cI cJ cZ cK ad ud pT pK pN pF pS qT qK qN qF qS mKe mUn mFi mRi mBe mWc mAK mSh mIP mUS mWa mWi mSi mRo mSp mRw mSn mBg mLa mMo mRm mOw mGo mFr mQu mCh mPB mPS mFs ub (va_up uT i f0_tasks_1) (va_up uK i f0_kinds_6) (va_up uN i f0_numbers_17) (va_up uF i f0_follows_24) (va_up uS i f0_spans_7)) H → va_D A (WM cI cJ cZ cK ad ud pT pK pN pF pS qT qK qN qF qS mKe mUn mFi mRi mBe mWc mAK mSh mIP mUS mWa mWi mSi mRo mSp mRw mSn mBg mLa mMo mRm mOw mGo mFr mQu mCh mPB mPS mFs ub (va_up uT i f0_tasks_1) (va_up uK i f0_kinds_6) (va_up uN i f0_numbers_17) (va_up uF i f0_follows_24) (va_up uS i f0_spans_7)) → va_S A s.heap H locs → lv_has ls 3 [(0, .ref (ud i 0)), (1, .ref (ad 1)), (2, .int x2_23)] → W p l e (headSpec wsX8_be rm_X8_be).room s m args below meth c H locs 0 0 Q (F0 m 74 ls []) := by
    intro x74 hk74 n74
    induction n74 with
    | zero => intro x2_23 f0_follows_24 h; exact False.elim h
    | succ n74 ih74 =>
      intro x2_23 f0_follows_24 h H locs ls hP hD hS hl
      refine lv_iload_n hx hb dX8_be_74 rfl (lv_at hl 2 rfl) ?_
      refine lv_sipush (v := 144) hx hb dX8_be_75 (by decide) ?_
      refine lv_icmp_ge (tgt := 99) hx hb dX8_be_78 (by decide) (fun c_26 => ?_) (fun c_26 => ?_)
      · have h := h.1 c_26
        exact hk74 f0_follows_24 h H locs ls hP hD hS (lv_sub hl [] rfl)
      · have h := h.2 c_26
        refine lv_aload_n hx hb dX8_be_81 rfl (lv_at hl 0 rfl) ?_
        refine va_get (D := D) (ci := 8) (C := RX8) (T := TX8) (N := 5) hx hb hts inn_X8_be_8 hown hAB.1 hP (32 + (i * 5 + 0)) (gU_0 hi0) rfl 3 (by decide) (hts (.fieldLink RX8 18 "BarnBenchModel$Book" "follows" "[Z") (by decide +kernel)) (fun _ h9 => h9) rfl dX8_be_82 ?_
        refine lv_iload_n hx hb dX8_be_85 rfl (lv_at hl 2 rfl) ?_
        refine lv_aload_n hx hb dX8_be_86 rfl (lv_at hl 1 rfl) ?_
        refine va_get (D := D) (ci := 8) (C := RX8) (T := TX8) (N := 5) hx hb hts inn_X8_be_8 hown hAB.1 hP 1 rfl rfl 3 (by decide) (hts (.fieldLink RX8 18 "BarnBenchModel$Book" "follows" "[Z") (by decide +kernel)) (fun _ h9 => h9) rfl dX8_be_87 ?_
        refine lv_iload_n hx hb dX8_be_90 rfl (lv_at hl 2 rfl) ?_
        refine va_zald hx hb hAB.1 hP 4 2 rfl rfl h.1 dX8_be_91 ?_
        have h := h.2
        refine sU_3 hx hb hAB hP hD hS hi0 h.1 dX8_be_92 (fun f0_follows_27 H locs e_28 hP hD hS => ?_)
        have h := h.2
        have h := h f0_follows_27 e_28
        obtain ⟨x2_29, e_30⟩ : ∃ y : Int32, y = x2_23 + 1 := ⟨_, rfl⟩
        have h := h x2_29 e_30
        refine lv_iinc (v := x2_29) (lv' := [(2, .int x2_29), (0, .ref (ud i 0)), (1, .ref (ad 1))]) hx hb dX8_be_93 hl (k := 2) rfl (by rw [e_30]; rfl) (by decide) rfl (fun ls hl => ?_)
        refine lv_goto (tgt := 74) hx hb dX8_be_96 (by decide) ?_
        exact ih74 x2_29 f0_follows_27 h H locs ls hP hD hS (lv_sub hl [1, 2, 0] rfl)
  obtain ⟨n74, h⟩ := h
  refine L74 _ (fun f0_follows_25 h H locs ls hP hD hS hl => ?_) n74 0 f0_follows h H locs ls hP hD hS (lv_sub hl [1, 2, 0] rfl)
  exact rt_v (f0_follows_25, f0_kinds_6, f0_numbers_17, f0_spans_7, f0_tasks_1) hQ hx hb hr hlk hP hD hS ⟨Nat.zero_le _, Nat.zero_le _⟩ dX8_be_99 h
def wp_X8_be_4_L10 (f1_kinds : Nat → Int32) (f1_spans : Nat → Int32) (x10 : (Nat → Int32) → (Nat → Int32) → Prop) : Nat → (Int32) → (Nat → Int32) → (Nat → Int32) → Prop
  | 0, _, _, _ => False
  | n10 + 1, x2_3, pK_4, pS_5 =>
  ((12 ≤ x2_3 → x10 pK_4 pS_5) ∧
   (¬ 12 ≤ x2_3 → vp_in x2_3 12 ∧ vp_in x2_3 12 ∧ ∀ pK_9 : Nat → Int32, pK_9 = upd pK_4 (Int32.toNatClampNeg x2_3) (f1_kinds (Int32.toNatClampNeg x2_3)) → vp_in x2_3 12 ∧ vp_in x2_3 12 ∧ ∀ pS_11 : Nat → Int32, pS_11 = upd pS_5 (Int32.toNatClampNeg x2_3) (f1_spans (Int32.toNatClampNeg x2_3)) → ∀ x2_13 : Int32, x2_13 = x2_3 + 1 → (wp_X8_be_4_L10 f1_kinds f1_spans x10 n10) x2_13 pK_9 pS_11))
def wp_X8_be_4_L48 (f1_numbers : Nat → Int32) (x48 : (Nat → Int32) → Prop) : Nat → (Int32) → (Nat → Int32) → Prop
  | 0, _, _ => False
  | n48 + 1, x2_15, pN_16 =>
  ((60 ≤ x2_15 → x48 pN_16) ∧
   (¬ 60 ≤ x2_15 → vp_in x2_15 60 ∧ vp_in x2_15 60 ∧ ∀ pN_19 : Nat → Int32, pN_19 = upd pN_16 (Int32.toNatClampNeg x2_15) (f1_numbers (Int32.toNatClampNeg x2_15)) → ∀ x2_21 : Int32, x2_21 = x2_15 + 1 → (wp_X8_be_4_L48 f1_numbers x48 n48) x2_21 pN_19))
def wp_X8_be_4_L74 (f1_follows : Nat → Int32) (x74 : (Nat → Int32) → Prop) : Nat → (Int32) → (Nat → Int32) → Prop
  | 0, _, _ => False
  | n74 + 1, x2_23, pF_24 =>
  ((144 ≤ x2_23 → x74 pF_24) ∧
   (¬ 144 ≤ x2_23 → vp_in x2_23 144 ∧ vp_in x2_23 144 ∧ ∀ pF_27 : Nat → Int32, pF_27 = upd pF_24 (Int32.toNatClampNeg x2_23) (vp_nar .boolean (f1_follows (Int32.toNatClampNeg x2_23))) → ∀ x2_29 : Int32, x2_29 = x2_23 + 1 → (wp_X8_be_4_L74 f1_follows x74 n74) x2_29 pF_27))
def wp_X8_be_4 (f1_follows : Nat → Int32) (f1_kinds : Nat → Int32) (f1_numbers : Nat → Int32) (f1_spans : Nat → Int32) (f1_tasks : Int32) (pT : Int32) (pK : Nat → Int32) (pN : Nat → Int32) (pF : Nat → Int32) (pS : Nat → Int32)  (Qp : (Int32) → (Nat → Int32) → (Nat → Int32) → (Nat → Int32) → (Nat → Int32) → Prop) : Prop :=
  ∀ pT_1 : Int32, pT_1 = f1_tasks → (∃ n10 : Nat, wp_X8_be_4_L10 f1_kinds f1_spans (fun (pK_6 : Nat → Int32) (pS_7 : Nat → Int32) => (∃ n48 : Nat, wp_X8_be_4_L48 f1_numbers (fun (pN_17 : Nat → Int32) => (∃ n74 : Nat, wp_X8_be_4_L74 f1_follows (fun (pF_25 : Nat → Int32) => Qp pT_1 pK_6 pN_17 pF_25 pS_7) n74 0 pF)) n48 0 pN)) n10 0 pK pS)
set_option maxHeartbeats 4000000 in
set_option maxRecDepth 100000 in
theorem ct_X8_be_4 {l : Launch} {D : va_G} {cI cJ cZ cE cD cK : ClassId} {ad : Nat → Nat} {ud : Nat → Nat → Nat} {pT : Int32} {pK : Nat → Int32} {pN : Nat → Int32} {pF : Nat → Int32} {pS : Nat → Int32} {qT : Int32} {qK : Nat → Int32} {qN : Nat → Int32} {qF : Nat → Int32} {qS : Nat → Int32} {mKe : Int32} {mUn : Int32} {mFi : Int32} {mRi : Int32} {mBe : Int64} {mWc : Int32} {mAK : Int32} {mSh : Int32} {mIP : Int32} {mUS : Nat → Int32} {mWa : Nat → Int32} {mWi : Nat → Int32} {mSi : Nat → Int32} {mRo : Nat → Int64} {mSp : Nat → Int64} {mRw : Nat → Int32} {mSn : Nat → Int32} {mBg : Nat → Int32} {mLa : Nat → Int32} {mMo : Nat → Int32} {mRm : Nat → Int64} {mOw : Nat → Int64} {mGo : Nat → Int32} {mFr : Nat → Int32} {mQu : Nat → Int32} {mCh : Nat → Int64} {mPB : Nat → Int32} {mPS : Nat → Int32} {mFs : Nat → Int32} {ub : Nat → Nat} {uT : Nat → Int32} {uK : Nat → Nat → Int32} {uN : Nat → Nat → Int32} {uF : Nat → Nat → Int32} {uS : Nat → Nat → Int32} {i : Nat} {f1_follows : Nat → Int32} {f1_kinds : Nat → Int32} {f1_numbers : Nat → Int32} {f1_spans : Nat → Int32} {f1_tasks : Int32}  {Qp : (Int32) → (Nat → Int32) → (Nat → Int32) → (Nat → Int32) → (Nat → Int32) → Prop} (hi1 : i < 30) (q_f1_follows : uF i = f1_follows) (q_f1_kinds : uK i = f1_kinds) (q_f1_numbers : uN i = f1_numbers) (q_f1_spans : uS i = f1_spans) (q_f1_tasks : uT i = f1_tasks) (h : wp_X8_be_4 f1_follows f1_kinds f1_numbers f1_spans f1_tasks pT pK pN pF pS Qp) : CTv l yX8_be wsX8_be rm_X8_be D (tyL cI cJ cZ cE cD cK) [.ref (ad 1), .ref (ud i 0)] (WM cI cJ cZ cK ad ud pT pK pN pF pS qT qK qN qF qS mKe mUn mFi mRi mBe mWc mAK mSh mIP mUS mWa mWi mSi mRo mSp mRw mSn mBg mLa mMo mRm mOw mGo mFr mQu mCh mPB mPS mFs ub uT uK uN uF uS) (fun u : (Int32) × (Nat → Int32) × (Nat → Int32) × (Nat → Int32) × (Nat → Int32) => Qp u.1 u.2.1 u.2.2.1 u.2.2.2.1 u.2.2.2.2) (fun u : (Int32) × (Nat → Int32) × (Nat → Int32) × (Nat → Int32) × (Nat → Int32) => (WM cI cJ cZ cK ad ud u.1 u.2.1 u.2.2.1 u.2.2.2.1 u.2.2.2.2 qT qK qN qF qS mKe mUn mFi mRi mBe mWc mAK mSh mIP mUS mWa mWi mSi mRo mSp mRw mSn mBg mLa mMo mRm mOw mGo mFr mQu mCh mPB mPS mFs ub uT uK uN uF uS)) 0 0 := by
  subst q_f1_follows
  subst q_f1_kinds
  subst q_f1_numbers
  subst q_f1_spans
  subst q_f1_tasks
  refine ent_v (cc := cX8_be) (maxL := 3) (ret := none) (by decide) rfl (Nat.le_of_ble_eq_true rfl) ?_
  intro p e s m args below meth c A Q hQ hx hb hr hml hown hts hlk hA hAB hP hD hS ls hl
  have hown : s.vm.findClass RX8 = some m.cls := hown
  have hl : lv_has ls 3 [(0, .ref (ad 1)), (1, .ref (ud i 0))] := hl
  generalize hH : s.heap = H at hP ⊢
  have hS : va_S A s.heap H [] := by rw [← hH]; exact hS
  clear hH
  generalize ([] : List Loc) = locs at hS ⊢
  refine lv_aload_n hx hb dX8_be_0 rfl (lv_at hl 0 rfl) ?_
  refine lv_aload_n hx hb dX8_be_1 rfl (lv_at hl 1 rfl) ?_
  refine va_get (D := D) (ci := 8) (C := RX8) (T := TX8) (N := 5) hx hb hts inn_X8_be_8 hown hAB.1 hP (32 + (i * 5 + 0)) (gU_0 hi1) rfl 0 (by decide) (hts (.fieldLink RX8 25 "BarnBenchModel$Book" "tasks" "I") (by decide +kernel)) (fun _ h9 => h9) rfl dX8_be_2 ?_
  refine fM_1_tasks hx hb hAB hP hD hS hts inn_X8_be_8 hown (hts (.fieldLink RX8 25 "BarnBenchModel$Book" "tasks" "I") (by decide +kernel)) dX8_be_5 (fun pT_1 H locs e_2 hP hD hS => ?_)
  have h := h pT_1 e_2
  refine lv_iconst (v := 0) hx hb dX8_be_8 (by decide) ?_
  refine lv_istore_n (lv' := [(2, .int 0), (0, .ref (ad 1)), (1, .ref (ud i 0))]) hx hb dX8_be_9 rfl hl (by decide) rfl (fun ls hl => ?_)
  have L10 : ∀ (x10 : (Nat → Int32) → (Nat → Int32) → Prop) (hk10 : ∀ (pK_6 : Nat → Int32) (pS_7 : Nat → Int32), x10 pK_6 pS_7 → ∀ (H : Heap) (locs : List Loc) (ls : Array Slot), va_P D vwCl (WM cI cJ cZ cK ad ud pT_1 pK_6 pN pF pS_7 qT qK qN qF qS mKe mUn mFi mRi mBe mWc mAK mSh mIP mUS mWa mWi mSi mRo mSp mRw mSn mBg mLa mMo mRm mOw mGo mFr mQu mCh mPB mPS mFs ub uT uK uN uF uS) H → va_D A (WM cI cJ cZ cK ad ud pT_1 pK_6 pN pF pS_7 qT qK qN qF qS mKe mUn mFi mRi mBe mWc mAK mSh mIP mUS mWa mWi mSi mRo mSp mRw mSn mBg mLa mMo mRm mOw mGo mFr mQu mCh mPB mPS mFs ub uT uK uN uF uS) → va_S A s.heap H locs → lv_has ls 3 [(0, .ref (ad 1)), (1, .ref (ud i 0))] → W p l e (headSpec wsX8_be rm_X8_be).room s m args below meth c H locs 0 0 Q (F0 m 46 ls [])) (n10 : Nat) (x2_3 : Int32) (pK_4 : Nat → Int32) (pS_5 : Nat → Int32), wp_X8_be_4_L10 (uK i) (uS i) x10 n10 x2_3 pK_4 pS_5 → ∀ (H : Heap) (locs : List Loc) (ls : Array Slot), va_P D vwCl (WM cI cJ cZ cK ad ud pT_1 pK_4 pN pF pS_5 qT qK qN qF qS mKe mUn mFi mRi mBe mWc mAK mSh mIP mUS mWa mWi mSi mRo mSp mRw mSn mBg mLa mMo mRm mOw mGo mFr mQu mCh mPB mPS mFs ub uT uK uN uF uS) H → va_D A (WM cI cJ cZ cK ad ud pT_1 pK_4 pN pF pS_5 qT qK qN qF qS mKe mUn mFi mRi mBe mWc mAK mSh mIP mUS mWa mWi mSi mRo mSp mRw mSn mBg mLa mMo mRm mOw mGo mFr mQu mCh mPB mPS mFs ub uT uK uN uF uS) → va_S A s.heap H locs → lv_has ls 3 [(0, .ref (ad 1)), (1, .ref (ud i 0)), (2, .int x2_3)] → W p l e (headSpec wsX8_be rm_X8_be).room s m args below meth c H locs 0 0 Q (F0 m 10 ls []) := by
    intro x10 hk10 n10
    induction n10 with
    | zero => intro x2_3 pK_4 pS_5 h; exact False.elim h
    | succ n10 ih10 =>
      intro x2_3 pK_4 pS_5 h H locs ls hP hD hS hl
      refine lv_iload_n hx hb dX8_be_10 rfl (lv_at hl 2 rfl) ?_
      refine lv_bipush (v := 12) hx hb dX8_be_11 (by decide) ?_
      refine lv_icmp_ge (tgt := 46) hx hb dX8_be_13 (by decide) (fun c_8 => ?_) (fun c_8 => ?_)
      · have h := h.1 c_8
        exact hk10 pK_4 pS_5 h H locs ls hP hD hS (lv_sub hl [0, 1] rfl)
      · have h := h.2 c_8
        refine lv_aload_n hx hb dX8_be_16 rfl (lv_at hl 0 rfl) ?_
        refine va_get (D := D) (ci := 8) (C := RX8) (T := TX8) (N := 5) hx hb hts inn_X8_be_8 hown hAB.1 hP 1 rfl rfl 1 (by decide) (hts (.fieldLink RX8 9 "BarnBenchModel$Book" "kinds" "[I") (by decide +kernel)) (fun _ h9 => h9) rfl dX8_be_17 ?_
        refine lv_iload_n hx hb dX8_be_20 rfl (lv_at hl 2 rfl) ?_
        refine lv_aload_n hx hb dX8_be_21 rfl (lv_at hl 1 rfl) ?_
        refine va_get (D := D) (ci := 8) (C := RX8) (T := TX8) (N := 5) hx hb hts inn_X8_be_8 hown hAB.1 hP (32 + (i * 5 + 0)) (gU_0 hi1) rfl 1 (by decide) (hts (.fieldLink RX8 9 "BarnBenchModel$Book" "kinds" "[I") (by decide +kernel)) (fun _ h9 => h9) rfl dX8_be_22 ?_
        refine lv_iload_n hx hb dX8_be_25 rfl (lv_at hl 2 rfl) ?_
        refine va_iald hx hb hAB.1 hP (32 + (i * 5 + 1)) 0 (gU_1 hi1) rfl h.1 dX8_be_26 ?_
        have h := h.2
        refine sM_2 hx hb hAB hP hD hS h.1 dX8_be_27 (fun pK_9 H locs e_10 hP hD hS => ?_)
        have h := h.2
        have h := h pK_9 e_10
        refine lv_aload_n hx hb dX8_be_28 rfl (lv_at hl 0 rfl) ?_
        refine va_get (D := D) (ci := 8) (C := RX8) (T := TX8) (N := 5) hx hb hts inn_X8_be_8 hown hAB.1 hP 1 rfl rfl 4 (by decide) (hts (.fieldLink RX8 22 "BarnBenchModel$Book" "spans" "[I") (by decide +kernel)) (fun _ h9 => h9) rfl dX8_be_29 ?_
        refine lv_iload_n hx hb dX8_be_32 rfl (lv_at hl 2 rfl) ?_
        refine lv_aload_n hx hb dX8_be_33 rfl (lv_at hl 1 rfl) ?_
        refine va_get (D := D) (ci := 8) (C := RX8) (T := TX8) (N := 5) hx hb hts inn_X8_be_8 hown hAB.1 hP (32 + (i * 5 + 0)) (gU_0 hi1) rfl 4 (by decide) (hts (.fieldLink RX8 22 "BarnBenchModel$Book" "spans" "[I") (by decide +kernel)) (fun _ h9 => h9) rfl dX8_be_34 ?_
        refine lv_iload_n hx hb dX8_be_37 rfl (lv_at hl 2 rfl) ?_
        refine va_iald hx hb hAB.1 hP (32 + (i * 5 + 4)) 0 (gU_4 hi1) rfl h.1 dX8_be_38 ?_
        have h := h.2
        refine sM_5 hx hb hAB hP hD hS h.1 dX8_be_39 (fun pS_11 H locs e_12 hP hD hS => ?_)
        have h := h.2
        have h := h pS_11 e_12
        obtain ⟨x2_13, e_14⟩ : ∃ y : Int32, y = x2_3 + 1 := ⟨_, rfl⟩
        have h := h x2_13 e_14
        refine lv_iinc (v := x2_13) (lv' := [(2, .int x2_13), (0, .ref (ad 1)), (1, .ref (ud i 0))]) hx hb dX8_be_40 hl (k := 2) rfl (by rw [e_14]; rfl) (by decide) rfl (fun ls hl => ?_)
        refine lv_goto (tgt := 10) hx hb dX8_be_43 (by decide) ?_
        exact ih10 x2_13 pK_9 pS_11 h H locs ls hP hD hS (lv_sub hl [1, 2, 0] rfl)
  obtain ⟨n10, h⟩ := h
  refine L10 _ (fun pK_6 pS_7 h H locs ls hP hD hS hl => ?_) n10 0 pK pS h H locs ls hP hD hS (lv_sub hl [1, 2, 0] rfl)
  refine lv_iconst (v := 0) hx hb dX8_be_46 (by decide) ?_
  refine lv_istore_n (lv' := [(2, .int 0), (0, .ref (ad 1)), (1, .ref (ud i 0))]) hx hb dX8_be_47 rfl hl (by decide) rfl (fun ls hl => ?_)
  have L48 : ∀ (x48 : (Nat → Int32) → Prop) (hk48 : ∀ (pN_17 : Nat → Int32), x48 pN_17 → ∀ (H : Heap) (locs : List Loc) (ls : Array Slot), va_P D vwCl (WM cI cJ cZ cK ad ud pT_1 pK_6 pN_17 pF pS_7 qT qK qN qF qS mKe mUn mFi mRi mBe mWc mAK mSh mIP mUS mWa mWi mSi mRo mSp mRw mSn mBg mLa mMo mRm mOw mGo mFr mQu mCh mPB mPS mFs ub uT uK uN uF uS) H → va_D A (WM cI cJ cZ cK ad ud pT_1 pK_6 pN_17 pF pS_7 qT qK qN qF qS mKe mUn mFi mRi mBe mWc mAK mSh mIP mUS mWa mWi mSi mRo mSp mRw mSn mBg mLa mMo mRm mOw mGo mFr mQu mCh mPB mPS mFs ub uT uK uN uF uS) → va_S A s.heap H locs → lv_has ls 3 [(0, .ref (ad 1)), (1, .ref (ud i 0))] → W p l e (headSpec wsX8_be rm_X8_be).room s m args below meth c H locs 0 0 Q (F0 m 72 ls [])) (n48 : Nat) (x2_15 : Int32) (pN_16 : Nat → Int32), wp_X8_be_4_L48 (uN i) x48 n48 x2_15 pN_16 → ∀ (H : Heap) (locs : List Loc) (ls : Array Slot), va_P D vwCl (WM cI cJ cZ cK ad ud pT_1 pK_6 pN_16 pF pS_7 qT qK qN qF qS mKe mUn mFi mRi mBe mWc mAK mSh mIP mUS mWa mWi mSi mRo mSp mRw mSn mBg mLa mMo mRm mOw mGo mFr mQu mCh mPB mPS mFs ub uT uK uN uF uS) H → va_D A (WM cI cJ cZ cK ad ud pT_1 pK_6 pN_16 pF pS_7 qT qK qN qF qS mKe mUn mFi mRi mBe mWc mAK mSh mIP mUS mWa mWi mSi mRo mSp mRw mSn mBg mLa mMo mRm mOw mGo mFr mQu mCh mPB mPS mFs ub uT uK uN uF uS) → va_S A s.heap H locs → lv_has ls 3 [(0, .ref (ad 1)), (1, .ref (ud i 0)), (2, .int x2_15)] → W p l e (headSpec wsX8_be rm_X8_be).room s m args below meth c H locs 0 0 Q (F0 m 48 ls []) := by
    intro x48 hk48 n48
    induction n48 with
    | zero => intro x2_15 pN_16 h; exact False.elim h
    | succ n48 ih48 =>
      intro x2_15 pN_16 h H locs ls hP hD hS hl
      refine lv_iload_n hx hb dX8_be_48 rfl (lv_at hl 2 rfl) ?_
      refine lv_bipush (v := 60) hx hb dX8_be_49 (by decide) ?_
      refine lv_icmp_ge (tgt := 72) hx hb dX8_be_51 (by decide) (fun c_18 => ?_) (fun c_18 => ?_)
      · have h := h.1 c_18
        exact hk48 pN_16 h H locs ls hP hD hS (lv_sub hl [0, 1] rfl)
      · have h := h.2 c_18
        refine lv_aload_n hx hb dX8_be_54 rfl (lv_at hl 0 rfl) ?_
        refine va_get (D := D) (ci := 8) (C := RX8) (T := TX8) (N := 5) hx hb hts inn_X8_be_8 hown hAB.1 hP 1 rfl rfl 2 (by decide) (hts (.fieldLink RX8 15 "BarnBenchModel$Book" "numbers" "[I") (by decide +kernel)) (fun _ h9 => h9) rfl dX8_be_55 ?_
        refine lv_iload_n hx hb dX8_be_58 rfl (lv_at hl 2 rfl) ?_
        refine lv_aload_n hx hb dX8_be_59 rfl (lv_at hl 1 rfl) ?_
        refine va_get (D := D) (ci := 8) (C := RX8) (T := TX8) (N := 5) hx hb hts inn_X8_be_8 hown hAB.1 hP (32 + (i * 5 + 0)) (gU_0 hi1) rfl 2 (by decide) (hts (.fieldLink RX8 15 "BarnBenchModel$Book" "numbers" "[I") (by decide +kernel)) (fun _ h9 => h9) rfl dX8_be_60 ?_
        refine lv_iload_n hx hb dX8_be_63 rfl (lv_at hl 2 rfl) ?_
        refine va_iald hx hb hAB.1 hP (32 + (i * 5 + 2)) 0 (gU_2 hi1) rfl h.1 dX8_be_64 ?_
        have h := h.2
        refine sM_3 hx hb hAB hP hD hS h.1 dX8_be_65 (fun pN_19 H locs e_20 hP hD hS => ?_)
        have h := h.2
        have h := h pN_19 e_20
        obtain ⟨x2_21, e_22⟩ : ∃ y : Int32, y = x2_15 + 1 := ⟨_, rfl⟩
        have h := h x2_21 e_22
        refine lv_iinc (v := x2_21) (lv' := [(2, .int x2_21), (0, .ref (ad 1)), (1, .ref (ud i 0))]) hx hb dX8_be_66 hl (k := 2) rfl (by rw [e_22]; rfl) (by decide) rfl (fun ls hl => ?_)
        refine lv_goto (tgt := 48) hx hb dX8_be_69 (by decide) ?_
        exact ih48 x2_21 pN_19 h H locs ls hP hD hS (lv_sub hl [1, 2, 0] rfl)
  obtain ⟨n48, h⟩ := h
  refine L48 _ (fun pN_17 h H locs ls hP hD hS hl => ?_) n48 0 pN h H locs ls hP hD hS (lv_sub hl [1, 2, 0] rfl)
  refine lv_iconst (v := 0) hx hb dX8_be_72 (by decide) ?_
  refine lv_istore_n (lv' := [(2, .int 0), (0, .ref (ad 1)), (1, .ref (ud i 0))]) hx hb dX8_be_73 rfl hl (by decide) rfl (fun ls hl => ?_)
  have L74 : ∀ (x74 : (Nat → Int32) → Prop) (hk74 : ∀ (pF_25 : Nat → Int32), x74 pF_25 → ∀ (H : Heap) (locs : List Loc) (ls : Array Slot), va_P D vwCl (WM cI cJ cZ cK ad ud pT_1 pK_6 pN_17 pF_25 pS_7 qT qK qN qF qS mKe mUn mFi mRi mBe mWc mAK mSh mIP mUS mWa mWi mSi mRo mSp mRw mSn mBg mLa mMo mRm mOw mGo mFr mQu mCh mPB mPS mFs ub uT uK uN uF uS) H → va_D A (WM cI cJ cZ cK ad ud pT_1 pK_6 pN_17 pF_25 pS_7 qT qK qN qF qS mKe mUn mFi mRi mBe mWc mAK mSh mIP mUS mWa mWi mSi mRo mSp mRw mSn mBg mLa mMo mRm mOw mGo mFr mQu mCh mPB mPS mFs ub uT uK uN uF uS) → va_S A s.heap H locs → lv_has ls 3 [] → W p l e (headSpec wsX8_be rm_X8_be).room s m args below meth c H locs 0 0 Q (F0 m 99 ls [])) (n74 : Nat) (x2_23 : Int32) (pF_24 : Nat → Int32), wp_X8_be_4_L74 (uF i) x74 n74 x2_23 pF_24 → ∀ (H : Heap) (locs : List Loc) (ls : Array Slot), va_P D vwCl (WM cI cJ cZ cK ad ud pT_1 pK_6 pN_17 pF_24 pS_7 qT qK qN qF qS mKe mUn mFi mRi mBe mWc mAK mSh mIP mUS mWa mWi mSi mRo mSp mRw mSn mBg mLa mMo mRm mOw mGo mFr mQu mCh mPB mPS mFs ub uT uK uN uF uS) H → va_D A (WM cI cJ cZ cK ad ud pT_1 pK_6 pN_17 pF_24 pS_7 qT qK qN qF qS mKe mUn mFi mRi mBe mWc mAK mSh mIP mUS mWa mWi mSi mRo mSp mRw mSn mBg mLa mMo mRm mOw mGo mFr mQu mCh mPB mPS mFs ub uT uK uN uF uS) → va_S A s.heap H locs → lv_has ls 3 [(0, .ref (ad 1)), (1, .ref (ud i 0)), (2, .int x2_23)] → W p l e (headSpec wsX8_be rm_X8_be).room s m args below meth c H locs 0 0 Q (F0 m 74 ls []) := by
    intro x74 hk74 n74
    induction n74 with
    | zero => intro x2_23 pF_24 h; exact False.elim h
    | succ n74 ih74 =>
      intro x2_23 pF_24 h H locs ls hP hD hS hl
      refine lv_iload_n hx hb dX8_be_74 rfl (lv_at hl 2 rfl) ?_
      refine lv_sipush (v := 144) hx hb dX8_be_75 (by decide) ?_
      refine lv_icmp_ge (tgt := 99) hx hb dX8_be_78 (by decide) (fun c_26 => ?_) (fun c_26 => ?_)
      · have h := h.1 c_26
        exact hk74 pF_24 h H locs ls hP hD hS (lv_sub hl [] rfl)
      · have h := h.2 c_26
        refine lv_aload_n hx hb dX8_be_81 rfl (lv_at hl 0 rfl) ?_
        refine va_get (D := D) (ci := 8) (C := RX8) (T := TX8) (N := 5) hx hb hts inn_X8_be_8 hown hAB.1 hP 1 rfl rfl 3 (by decide) (hts (.fieldLink RX8 18 "BarnBenchModel$Book" "follows" "[Z") (by decide +kernel)) (fun _ h9 => h9) rfl dX8_be_82 ?_
        refine lv_iload_n hx hb dX8_be_85 rfl (lv_at hl 2 rfl) ?_
        refine lv_aload_n hx hb dX8_be_86 rfl (lv_at hl 1 rfl) ?_
        refine va_get (D := D) (ci := 8) (C := RX8) (T := TX8) (N := 5) hx hb hts inn_X8_be_8 hown hAB.1 hP (32 + (i * 5 + 0)) (gU_0 hi1) rfl 3 (by decide) (hts (.fieldLink RX8 18 "BarnBenchModel$Book" "follows" "[Z") (by decide +kernel)) (fun _ h9 => h9) rfl dX8_be_87 ?_
        refine lv_iload_n hx hb dX8_be_90 rfl (lv_at hl 2 rfl) ?_
        refine va_zald hx hb hAB.1 hP (32 + (i * 5 + 3)) 2 (gU_3 hi1) rfl h.1 dX8_be_91 ?_
        have h := h.2
        refine sM_4 hx hb hAB hP hD hS h.1 dX8_be_92 (fun pF_27 H locs e_28 hP hD hS => ?_)
        have h := h.2
        have h := h pF_27 e_28
        obtain ⟨x2_29, e_30⟩ : ∃ y : Int32, y = x2_23 + 1 := ⟨_, rfl⟩
        have h := h x2_29 e_30
        refine lv_iinc (v := x2_29) (lv' := [(2, .int x2_29), (0, .ref (ad 1)), (1, .ref (ud i 0))]) hx hb dX8_be_93 hl (k := 2) rfl (by rw [e_30]; rfl) (by decide) rfl (fun ls hl => ?_)
        refine lv_goto (tgt := 74) hx hb dX8_be_96 (by decide) ?_
        exact ih74 x2_29 pF_27 h H locs ls hP hD hS (lv_sub hl [1, 2, 0] rfl)
  obtain ⟨n74, h⟩ := h
  refine L74 _ (fun pF_25 h H locs ls hP hD hS hl => ?_) n74 0 pF h H locs ls hP hD hS (lv_sub hl [1, 2, 0] rfl)
  exact rt_v (pT_1, pK_6, pN_17, pF_25, pS_7) hQ hx hb hr hlk hP hD hS ⟨Nat.zero_le _, Nat.zero_le _⟩ dX8_be_99 h
