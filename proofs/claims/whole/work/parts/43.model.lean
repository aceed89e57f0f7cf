def wp_X9_isReady_b54 (k5 : (Int32) → (Int32) → Prop) (y_5 : Int32) (x4_4 : Int32) : Prop :=
  ∀ x4_6 : Int32, x4_6 = x4_4 + 1 → k5 y_5 x4_6
def wp_X9_isReady_b53 (k5 : (Int32) → (Int32) → Prop) (x4_8 : Int32) : Prop :=
  wp_X9_isReady_b54 k5 0 x4_8
def wp_X9_isReady_b49 (k5 : (Int32) → (Int32) → Prop) (x4_9 : Int32) : Prop :=
  wp_X9_isReady_b54 k5 1 x4_9
def wp_X9_isReady_L5 (a1 : Int32) (a2 : Int32) (pF : Nat → Int32) (pT : Int32) (x5 : (Int32) → Prop) : Nat → (Int32) → (Int32) → Prop
  | 0, _, _ => False
  | n5 + 1, x3_1, x4_2 =>
  ((pT ≤ x4_2 → x5 x3_1) ∧
   (¬ pT ≤ x4_2 → ((x3_1 = 0 → wp_X9_isReady_b53 (wp_X9_isReady_L5 a1 a2 pF pT x5 n5) x4_2) ∧
   (¬ x3_1 = 0 → vp_in ((12 * a1) + x4_2) 144 ∧ (((pF (Int32.toNatClampNeg ((12 * a1) + x4_2))) = 0 → wp_X9_isReady_b49 (wp_X9_isReady_L5 a1 a2 pF pT x5 n5) x4_2) ∧
   (¬ (pF (Int32.toNatClampNeg ((12 * a1) + x4_2))) = 0 → ((¬ ((a2 >>> (x4_2 &&& 31)) &&& 1) = 1 → wp_X9_isReady_b53 (wp_X9_isReady_L5 a1 a2 pF pT x5 n5) x4_2) ∧
   (((a2 >>> (x4_2 &&& 31)) &&& 1) = 1 → wp_X9_isReady_b49 (wp_X9_isReady_L5 a1 a2 pF pT x5 n5) x4_2))))))))
def wp_X9_isReady (pT : Int32) (pF : Nat → Int32) (a1 : Int32) (a2 : Int32) (Qp : Int32 → Prop) : Prop :=
  (∃ n5 : Nat, wp_X9_isReady_L5 a1 a2 pF pT (fun (x3_3 : Int32) => (x3_3 = 0 ∨ x3_3 = 1) ∧ Qp x3_3) n5 1 0)
theorem inn_X9_isReady_8 : ∀ w ∈ u_ws RX8 TX8 5, w ∈ wsX9_isReady := fun _ h => List.mem_cons_of_mem _ (List.mem_append_right _ h)
theorem inn_X9_isReady_9 : ∀ w ∈ u_ws RX9 TX9 32, w ∈ wsX9_isReady := fun _ h => List.mem_cons_of_mem _ (List.mem_append_left _ (List.mem_append_right _ h))
def rm_X9_isReady : Room := { frames := 0, cells := 0, slots := 0, locals := 0 }
set_option maxHeartbeats 4000000 in
set_option maxRecDepth 100000 in
theorem ct_X9_isReady {l : Launch} {D : va_G} {cI cJ cZ cE cD cK : ClassId} {ad : Nat → Nat} {ud : Nat → Nat → Nat} {pT : Int32} {pK : Nat → Int32} {pN : Nat → Int32} {pF : Nat → Int32} {pS : Nat → Int32} {qT : Int32} {qK : Nat → Int32} {qN : Nat → Int32} {qF : Nat → Int32} {qS : Nat → Int32} {mKe : Int32} {mUn : Int32} {mFi : Int32} {mRi : Int32} {mBe : Int64} {mWc : Int32} {mAK : Int32} {mSh : Int32} {mIP : Int32} {mUS : Nat → Int32} {mWa : Nat → Int32} {mWi : Nat → Int32} {mSi : Nat → Int32} {mRo : Nat → Int64} {mSp : Nat → Int64} {mRw : Nat → Int32} {mSn : Nat → Int32} {mBg : Nat → Int32} {mLa : Nat → Int32} {mMo : Nat → Int32} {mRm : Nat → Int64} {mOw : Nat → Int64} {mGo : Nat → Int32} {mFr : Nat → Int32} {mQu : Nat → Int32} {mCh : Nat → Int64} {mPB : Nat → Int32} {mPS : Nat → Int32} {mFs : Nat → Int32} {ub : Nat → Nat} {uT : Nat → Int32} {uK : Nat → Nat → Int32} {uN : Nat → Nat → Int32} {uF : Nat → Nat → Int32} {uS : Nat → Nat → Int32}   {a1 : Int32} {a2 : Int32} {Qp : Int32 → Prop}   (h : wp_X9_isReady pT pF a1 a2 Qp) : CTi l yX9_isReady wsX9_isReady rm_X9_isReady D (tyL cI cJ cZ cE cD cK) [.ref (ad 0), .int a1, .int a2] (WM cI cJ cZ cK ad ud pT pK pN pF pS qT qK qN qF qS mKe mUn mFi mRi mBe mWc mAK mSh mIP mUS mWa mWi mSi mRo mSp mRw mSn mBg mLa mMo mRm mOw mGo mFr mQu mCh mPB mPS mFs ub uT uK uN uF uS) (fun (r : Int32) (u : Unit) => Qp r ) (fun u : Unit => (WM cI cJ cZ cK ad ud pT pK pN pF pS qT qK qN qF qS mKe mUn mFi mRi mBe mWc mAK mSh mIP mUS mWa mWi mSi mRo mSp mRw mSn mBg mLa mMo mRm mOw mGo mFr mQu mCh mPB mPS mFs ub uT uK uN uF uS)) 0 0 := by
  refine ent_i (cc := cX9_isReady) (maxL := 5) (ret := (some .boolean)) (by decide) rfl (Nat.le_of_ble_eq_true rfl) ?_
  intro p e s m args below meth c A Q hQ hx hb hr hml hown hts hlk hA hAB hP hD hS ls hl
  have hown : s.vm.findClass RX9 = some m.cls := hown
  have hl : lv_has ls 5 [(0, .ref (ad 0)), (1, .int a1), (2, .int a2)] := hl
  generalize hH : s.heap = H at hP ⊢
  have hS : va_S A s.heap H [] := by rw [← hH]; exact hS
  clear hH
  generalize ([] : List Loc) = locs at hS ⊢
  refine lv_iconst (v := 1) hx hb dX9_isReady_0 (by decide) ?_
  refine lv_istore_n (lv' := [(3, .int 1), (0, .ref (ad 0)), (1, .int a1), (2, .int a2)]) hx hb dX9_isReady_1 rfl hl (by decide) rfl (fun ls hl => ?_)
  refine lv_iconst (v := 0) hx hb dX9_isReady_2 (by decide) ?_
  refine lv_istore (lv' := [(4, .int 0), (3, .int 1), (0, .ref (ad 0)), (1, .int a1), (2, .int a2)]) hx hb dX9_isReady_3 hl (by decide) rfl (fun ls hl => ?_)
  have L5 : ∀ (x5 : (Int32) → Prop) (hk5 : ∀ (x3_3 : Int32), x5 x3_3 → ∀ (H : Heap) (locs : List Loc) (ls : Array Slot), va_P D vwCl (WM cI cJ cZ cK ad ud pT pK pN pF pS qT qK qN qF qS mKe mUn mFi mRi mBe mWc mAK mSh mIP mUS mWa mWi mSi mRo mSp mRw mSn mBg mLa mMo mRm mOw mGo mFr mQu mCh mPB mPS mFs ub uT uK uN uF uS) H → va_D A (WM cI cJ cZ cK ad ud pT pK pN pF pS qT qK qN qF qS mKe mUn mFi mRi mBe mWc mAK mSh mIP mUS mWa mWi mSi mRo mSp mRw mSn mBg mLa mMo mRm mOw mGo mFr mQu mCh mPB mPS mFs ub uT uK uN uF uS) → va_S A s.heap H locs → lv_has ls 5 [(3, .int x3_3)] → W p l e (headSpec wsX9_isReady rm_X9_isReady).room s m args below meth c H locs 0 0 Q (F0 m 61 ls [])) (n5 : Nat) (x3_1 : Int32) (x4_2 : Int32), wp_X9_isReady_L5 a1 a2 pF pT x5 n5 x3_1 x4_2 → ∀ (H : Heap) (locs : List Loc) (ls : Array Slot), va_P D vwCl (WM cI cJ cZ cK ad ud pT pK pN pF pS qT qK qN qF qS mKe mUn mFi mRi mBe mWc mAK mSh mIP mUS mWa mWi mSi mRo mSp mRw mSn mBg mLa mMo mRm mOw mGo mFr mQu mCh mPB mPS mFs ub uT uK uN uF uS) H → va_D A (WM cI cJ cZ cK ad ud pT pK pN pF pS qT qK qN qF qS mKe mUn mFi mRi mBe mWc mAK mSh mIP mUS mWa mWi mSi mRo mSp mRw mSn mBg mLa mMo mRm mOw mGo mFr mQu mCh mPB mPS mFs ub uT uK uN uF uS) → va_S A s.heap H locs → lv_has ls 5 [(0, .ref (ad 0)), (1, .int a1), (2, .int a2), (3, .int x3_1), (4, .int x4_2)] → W p l e (headSpec wsX9_isReady rm_X9_isReady).room s m args below meth c H locs 0 0 Q (F0 m 5 ls []) := by
    intro x5 hk5 n5
    induction n5 with
    | zero => intro x3_1 x4_2 h; exact False.elim h
    | succ n5 ih5 =>
      intro x3_1 x4_2 h H locs ls hP hD hS hl
      have B54 : ∀ (y_5 : Int32) (x4_4 : Int32), wp_X9_isReady_b54 (wp_X9_isReady_L5 a1 a2 pF pT x5 n5) y_5 x4_4 → ∀ (H : Heap) (locs : List Loc) (ls : Array Slot), va_P D vwCl (WM cI cJ cZ cK ad ud pT pK pN pF pS qT qK qN qF qS mKe mUn mFi mRi mBe mWc mAK mSh mIP mUS mWa mWi mSi mRo mSp mRw mSn mBg mLa mMo mRm mOw mGo mFr mQu mCh mPB mPS mFs ub uT uK uN uF uS) H → va_D A (WM cI cJ cZ cK ad ud pT pK pN pF pS qT qK qN qF qS mKe mUn mFi mRi mBe mWc mAK mSh mIP mUS mWa mWi mSi mRo mSp mRw mSn mBg mLa mMo mRm mOw mGo mFr mQu mCh mPB mPS mFs ub uT uK uN uF uS) → va_S A s.heap H locs → lv_has ls 5 [(0, .ref (ad 0)), (1, .int a1), (2, .int a2), (4, .int x4_4)] → W p l e (headSpec wsX9_isReady rm_X9_isReady).room s m args below meth c H locs 0 0 Q (F0 m 54 ls [.int y_5]) := by
        intro y_5 x4_4 h H locs ls hP hD hS hl
        refine lv_istore_n (lv' := [(3, .int y_5), (0, .ref (ad 0)), (1, .int a1), (2, .int a2), (4, .int x4_4)]) hx hb dX9_isReady_54 rfl hl (by decide) rfl (fun ls hl => ?_)
        obtain ⟨x4_6, e_7⟩ : ∃ y : Int32, y = x4_4 + 1 := ⟨_, rfl⟩
        have h := h x4_6 e_7
        refine lv_iinc (v := x4_6) (lv' := [(4, .int x4_6), (3, .int y_5), (0, .ref (ad 0)), (1, .int a1), (2, .int a2)]) hx hb dX9_isReady_55 hl (k := 4) rfl (by rw [e_7]; rfl) (by decide) rfl (fun ls hl => ?_)
        refine lv_goto (tgt := 5) hx hb dX9_isReady_58 (by decide) ?_
        exact ih5 y_5 x4_6 h H locs ls hP hD hS (lv_sub hl [2, 3, 4, 1, 0] rfl)
      have B53 : ∀ (x4_8 : Int32), wp_X9_isReady_b53 (wp_X9_isReady_L5 a1 a2 pF pT x5 n5) x4_8 → ∀ (H : Heap) (locs : List Loc) (ls : Array Slot), va_P D vwCl (WM cI cJ cZ cK ad ud pT pK pN pF pS qT qK qN qF qS mKe mUn mFi mRi mBe mWc mAK mSh mIP mUS mWa mWi mSi mRo mSp mRw mSn mBg mLa mMo mRm mOw mGo mFr mQu mCh mPB mPS mFs ub uT uK uN uF uS) H → va_D A (WM cI cJ cZ cK ad ud pT pK pN pF pS qT qK qN qF qS mKe mUn mFi mRi mBe mWc mAK mSh mIP mUS mWa mWi mSi mRo mSp mRw mSn mBg mLa mMo mRm mOw mGo mFr mQu mCh mPB mPS mFs ub uT uK uN uF uS) → va_S A s.heap H locs → lv_has ls 5 [(0, .ref (ad 0)), (1, .int a1), (2, .int a2), (4, .int x4_8)] → W p l e (headSpec wsX9_isReady rm_X9_isReady).room s m args below meth c H locs 0 0 Q (F0 m 53 ls []) := by
        intro x4_8 h H locs ls hP hD hS hl
        refine lv_iconst (v := 0) hx hb dX9_isReady_53 (by decide) ?_
        exact B54 0 x4_8 h H locs ls hP hD hS (lv_sub hl [0, 1, 2, 3] rfl)
      have B49 : ∀ (x4_9 : Int32), wp_X9_isReady_b49 (wp_X9_isReady_L5 a1 a2 pF pT x5 n5) x4_9 → ∀ (H : Heap) (locs : List Loc) (ls : Array Slot), va_P D vwCl (WM cI cJ cZ cK ad ud pT pK pN pF pS qT qK qN qF qS mKe mUn mFi mRi mBe mWc mAK mSh mIP mUS mWa mWi mSi mRo mSp mRw mSn mBg mLa mMo mRm mOw mGo mFr mQu mCh mPB mPS mFs ub uT uK uN uF uS) H → va_D A (WM cI cJ cZ cK ad ud pT pK pN pF pS qT qK qN qF qS mKe mUn mFi mRi mBe mWc mAK mSh mIP mUS mWa mWi mSi mRo mSp mRw mSn mBg mLa mMo mRm mOw mGo mFr mQu mCh mPB mPS mFs ub uT uK uN uF uS) → va_S A s.heap H locs → lv_has ls 5 [(0, .ref (ad 0)), (1, .int a1), (2, .int a2), (4, .int x4_9)] → W p l e (headSpec wsX9_isReady rm_X9_isReady).room s m args below meth c H locs 0 0 Q (F0 m 49 ls []) := by
        intro x4_9 h H locs ls hP hD hS hl
        refine lv_iconst (v := 1) hx hb dX9_isReady_49 (by decide) ?_
        refine lv_goto (tgt := 54) hx hb dX9_isReady_50 (by decide) ?_
        exact B54 1 x4_9 h H locs ls hP hD hS (lv_sub hl [0, 1, 2, 3] rfl)
      refine lv_iload hx hb dX9_isReady_5 (lv_at hl 4 rfl) ?_
      refine lv_aload_n hx hb dX9_isReady_7 rfl (lv_at hl 0 rfl) ?_
      refine va_get (D := D) (ci := 9) (C := RX9) (T := TX9) (N := 32) hx hb hts inn_X9_isReady_9 hown hAB.1 hP 0 rfl rfl 0 (by decide) (hts (.fieldLink RX9 10 "BarnBenchModel" "b" "LBarnBenchModel$Book;") (by decide +kernel)) (fun _ h9 => h9) rfl dX9_isReady_8 ?_
      refine va_get (D := D) (ci := 8) (C := RX8) (T := TX8) (N := 5) hx hb hts inn_X9_isReady_8 hown hAB.1 hP 1 rfl rfl 0 (by decide) (hts (.fieldLink RX9 94 "BarnBenchModel$Book" "tasks" "I") (by decide +kernel)) (fun _ h9 => h9) rfl dX9_isReady_11 ?_
      refine lv_icmp_ge (tgt := 61) hx hb dX9_isReady_14 (by decide) (fun c_10 => ?_) (fun c_10 => ?_)
      · have h := h.1 c_10
        exact hk5 x3_1 h H locs ls hP hD hS (lv_sub hl [3] rfl)
      · have h := h.2 c_10
        refine lv_iload_n hx hb dX9_isReady_17 rfl (lv_at hl 3 rfl) ?_
        refine lv_if_eq (tgt := 53) hx hb dX9_isReady_18 (by decide) (fun c_11 => ?_) (fun c_11 => ?_)
        · have h := h.1 c_11
          exact B53 x4_2 h H locs ls hP hD hS (lv_sub hl [0, 1, 2, 4] rfl)
        · have h := h.2 c_11
          refine lv_aload_n hx hb dX9_isReady_21 rfl (lv_at hl 0 rfl) ?_
          refine va_get (D := D) (ci := 9) (C := RX9) (T := TX9) (N := 32) hx hb hts inn_X9_isReady_9 hown hAB.1 hP 0 rfl rfl 0 (by decide) (hts (.fieldLink RX9 10 "BarnBenchModel" "b" "LBarnBenchModel$Book;") (by decide +kernel)) (fun _ h9 => h9) rfl dX9_isReady_22 ?_
          refine va_get (D := D) (ci := 8) (C := RX8) (T := TX8) (N := 5) hx hb hts inn_X9_isReady_8 hown hAB.1 hP 1 rfl rfl 3 (by decide) (hts (.fieldLink RX9 147 "BarnBenchModel$Book" "follows" "[Z") (by decide +kernel)) (fun _ h9 => h9) rfl dX9_isReady_25 ?_
          refine lv_bipush (v := 12) hx hb dX9_isReady_28 (by decide) ?_
          refine lv_iload_n hx hb dX9_isReady_30 rfl (lv_at hl 1 rfl) ?_
          refine lv_imul hx hb dX9_isReady_31 ?_
          refine lv_iload hx hb dX9_isReady_32 (lv_at hl 4 rfl) ?_
          refine lv_iadd hx hb dX9_isReady_34 ?_
          refine va_zald hx hb hAB.1 hP 4 2 rfl rfl h.1 dX9_isReady_35 ?_
          have h := h.2
          refine lv_if_eq (tgt := 49) hx hb dX9_isReady_36 (by decide) (fun c_12 => ?_) (fun c_12 => ?_)
          · have h := h.1 c_12
            exact B49 x4_2 h H locs ls hP hD hS (lv_sub hl [0, 1, 2, 4] rfl)
          · have h := h.2 c_12
            refine lv_iload_n hx hb dX9_isReady_39 rfl (lv_at hl 2 rfl) ?_
            refine lv_iload hx hb dX9_isReady_40 (lv_at hl 4 rfl) ?_
            refine lv_ishr hx hb dX9_isReady_42 ?_
            refine lv_iconst (v := 1) hx hb dX9_isReady_43 (by decide) ?_
            refine lv_iand hx hb dX9_isReady_44 ?_
            refine lv_iconst (v := 1) hx hb dX9_isReady_45 (by decide) ?_
            refine lv_icmp_ne (tgt := 53) hx hb dX9_isReady_46 (by decide) (fun c_13 => ?_) (fun c_13 => ?_)
            · have h := h.1 c_13
              exact B53 x4_2 h H locs ls hP hD hS (lv_sub hl [0, 1, 2, 4] rfl)
            · have h := h.2 c_13
              exact B49 x4_2 h H locs ls hP hD hS (lv_sub hl [0, 1, 2, 4] rfl)
  obtain ⟨n5, h⟩ := h
  refine L5 _ (fun x3_3 h H locs ls hP hD hS hl => ?_) n5 1 0 h H locs ls hP hD hS (lv_sub hl [2, 3, 4, 1, 0] rfl)
  refine lv_iload_n hx hb dX9_isReady_61 rfl (lv_at hl 0 rfl) ?_
  exact rt_z () hQ hx hb hr hlk hP hD hS ⟨Nat.zero_le _, Nat.zero_le _⟩ h.1 dX9_isReady_62 h.2
def wp_X9_sort_b35 (k17 : (Int32) → Prop) (x3_8 : Int32) : Prop :=
  ∀ x3_9 : Int32, x3_9 = x3_8 + 1 → k17 x3_9
def wp_X9_sort_L17 (pF : Nat → Int32) (pT : Int32) (x1_1 : Int32) (x17 : (Int32) → Prop) : Nat → (Int32) → Prop
  | 0, _ => False
  | n17 + 1, x3_6 =>
  ((((x1_1 >>> (x3_6 &&& 31)) &&& 1) = 1 → wp_X9_sort_b35 (wp_X9_sort_L17 pF pT x1_1 x17 n17) x3_6) ∧
   (¬ ((x1_1 >>> (x3_6 &&& 31)) &&& 1) = 1 → wp_X9_isReady pT pF x3_6 x1_1 (fun (r_12 : Int32) => ((¬ r_12 = 0 → x17 x3_6) ∧
   (r_12 = 0 → wp_X9_sort_b35 (wp_X9_sort_L17 pF pT x1_1 x17 n17) x3_6)))))
def wp_X9_sort_L4 (pF : Nat → Int32) (pT : Int32) (x4 : (Nat → Int32) → Prop) : Nat → (Int32) → (Int32) → (Nat → Int32) → Prop
  | 0, _, _, _ => False
  | n4 + 1, x1_1, x2_2, mRw_3 =>
  ((pT ≤ x2_2 → x4 mRw_3) ∧
   (¬ pT ≤ x2_2 → (∃ n17 : Nat, wp_X9_sort_L17 pF pT x1_1 (fun (x3_7 : Int32) => vp_in x2_2 12 ∧ ∀ mRw_14 : Nat → Int32, mRw_14 = upd mRw_3 (Int32.toNatClampNeg x2_2) x3_7 → ∀ x1_16 : Int32, x1_16 = (x1_1 ||| (1 <<< (x3_7 &&& 31))) → ∀ x2_18 : Int32, x2_18 = x2_2 + 1 → (wp_X9_sort_L4 pF pT x4 n4) x1_16 x2_18 mRw_14) n17 0)))
def wp_X9_sort (pT : Int32) (pF : Nat → Int32) (mRw : Nat → Int32)  (Qp : (Nat → Int32) → Prop) : Prop :=
  (∃ n4 : Nat, wp_X9_sort_L4 pF pT (fun (mRw_4 : Nat → Int32) => Qp mRw_4) n4 0 0 mRw)
theorem inn_X9_sort_8 : ∀ w ∈ u_ws RX8 TX8 5, w ∈ wsX9_sort := fun _ h => List.mem_cons_of_mem _ (List.mem_append_right _ h)
theorem inn_X9_sort_9 : ∀ w ∈ u_ws RX9 TX9 32, w ∈ wsX9_sort := fun _ h => List.mem_cons_of_mem _ (List.mem_append_left _ (List.mem_append_right _ h))
def rm_X9_sort : Room := { frames := 1, cells := 0, slots := 0, locals := 24 }
set_option maxHeartbeats 4000000 in
set_option maxRecDepth 100000 in
theorem ct_X9_sort {l : Launch} {D : va_G} {cI cJ cZ cE cD cK : ClassId} {ad : Nat → Nat} {ud : Nat → Nat → Nat} {pT : Int32} {pK : Nat → Int32} {pN : Nat → Int32} {pF : Nat → Int32} {pS : Nat → Int32} {qT : Int32} {qK : Nat → Int32} {qN : Nat → Int32} {qF : Nat → Int32} {qS : Nat → Int32} {mKe : Int32} {mUn : Int32} {mFi : Int32} {mRi : Int32} {mBe : Int64} {mWc : Int32} {mAK : Int32} {mSh : Int32} {mIP : Int32} {mUS : Nat → Int32} {mWa : Nat → Int32} {mWi : Nat → Int32} {mSi : Nat → Int32} {mRo : Nat → Int64} {mSp : Nat → Int64} {mRw : Nat → Int32} {mSn : Nat → Int32} {mBg : Nat → Int32} {mLa : Nat → Int32} {mMo : Nat → Int32} {mRm : Nat → Int64} {mOw : Nat → Int64} {mGo : Nat → Int32} {mFr : Nat → Int32} {mQu : Nat → Int32} {mCh : Nat → Int64} {mPB : Nat → Int32} {mPS : Nat → Int32} {mFs : Nat → Int32} {ub : Nat → Nat} {uT : Nat → Int32} {uK : Nat → Nat → Int32} {uN : Nat → Nat → Int32} {uF : Nat → Nat → Int32} {uS : Nat → Nat → Int32}    {Qp : (Nat → Int32) → Prop}   (h : wp_X9_sort pT pF mRw Qp) : CTv l yX9_sort wsX9_sort rm_X9_sort D (tyL cI cJ cZ cE cD cK) [.ref (ad 0)] (WM cI cJ cZ cK ad ud pT pK pN pF pS qT qK qN qF qS mKe mUn mFi mRi mBe mWc mAK mSh mIP mUS mWa mWi mSi mRo mSp mRw mSn mBg mLa mMo mRm mOw mGo mFr mQu mCh mPB mPS mFs ub uT uK uN uF uS) (fun u : (Nat → Int32) => Qp u) (fun u : (Nat → Int32) => (WM cI cJ cZ cK ad ud pT pK pN pF pS qT qK qN qF qS mKe mUn mFi mRi mBe mWc mAK mSh mIP mUS mWa mWi mSi mRo mSp u mSn mBg mLa mMo mRm mOw mGo mFr mQu mCh mPB mPS mFs ub uT uK uN uF uS)) 0 0 := by
  refine ent_v (cc := cX9_sort) (maxL := 4) (ret := none) (by decide) rfl (Nat.le_of_ble_eq_true rfl) ?_
  intro p e s m args below meth c A Q hQ hx hb hr hml hown hts hlk hA hAB hP hD hS ls hl
  have hown : s.vm.findClass RX9 = some m.cls := hown
  have hl : lv_has ls 4 [(0, .ref (ad 0))] := hl
  generalize hH : s.heap = H at hP ⊢
  have hS : va_S A s.heap H [] := by rw [← hH]; exact hS
  clear hH
  generalize ([] : List Loc) = locs at hS ⊢
  refine lv_iconst (v := 0) hx hb dX9_sort_0 (by decide) ?_
  refine lv_istore_n (lv' := [(1, .int 0), (0, .ref (ad 0))]) hx hb dX9_sort_1 rfl hl (by decide) rfl (fun ls hl => ?_)
  refine lv_iconst (v := 0) hx hb dX9_sort_2 (by decide) ?_
  refine lv_istore_n (lv' := [(2, .int 0), (1, .int 0), (0, .ref (ad 0))]) hx hb dX9_sort_3 rfl hl (by decide) rfl (fun ls hl => ?_)
  have L4 : ∀ (x4 : (Nat → Int32) → Prop) (hk4 : ∀ (mRw_4 : Nat → Int32), x4 mRw_4 → ∀ (H : Heap) (locs : List Loc) (ls : Array Slot), va_P D vwCl (WM cI cJ cZ cK ad ud pT pK pN pF pS qT qK qN qF qS mKe mUn mFi mRi mBe mWc mAK mSh mIP mUS mWa mWi mSi mRo mSp mRw_4 mSn mBg mLa mMo mRm mOw mGo mFr mQu mCh mPB mPS mFs ub uT uK uN uF uS) H → va_D A (WM cI cJ cZ cK ad ud pT pK pN pF pS qT qK qN qF qS mKe mUn mFi mRi mBe mWc mAK mSh mIP mUS mWa mWi mSi mRo mSp mRw_4 mSn mBg mLa mMo mRm mOw mGo mFr mQu mCh mPB mPS mFs ub uT uK uN uF uS) → va_S A s.heap H locs → lv_has ls 4 [] → W p l e (headSpec wsX9_sort rm_X9_sort).room s m args below meth c H locs 0 0 Q (F0 m 60 ls [])) (n4 : Nat) (x1_1 : Int32) (x2_2 : Int32) (mRw_3 : Nat → Int32), wp_X9_sort_L4 pF pT x4 n4 x1_1 x2_2 mRw_3 → ∀ (H : Heap) (locs : List Loc) (ls : Array Slot), va_P D vwCl (WM cI cJ cZ cK ad ud pT pK pN pF pS qT qK qN qF qS mKe mUn mFi mRi mBe mWc mAK mSh mIP mUS mWa mWi mSi mRo mSp mRw_3 mSn mBg mLa mMo mRm mOw mGo mFr mQu mCh mPB mPS mFs ub uT uK uN uF uS) H → va_D A (WM cI cJ cZ cK ad ud pT pK pN pF pS qT qK qN qF qS mKe mUn mFi mRi mBe mWc mAK mSh mIP mUS mWa mWi mSi mRo mSp mRw_3 mSn mBg mLa mMo mRm mOw mGo mFr mQu mCh mPB mPS mFs ub uT uK uN uF uS) → va_S A s.heap H locs → lv_has ls 4 [(0, .ref (ad 0)), (1, .int x1_1), (2, .int x2_2)] → W p l e (headSpec wsX9_sort rm_X9_sort).room s m args below meth c H locs 0 0 Q (F0 m 4 ls []) := by
    intro x4 hk4 n4
    induction n4 with
    | zero => intro x1_1 x2_2 mRw_3 h; exact False.elim h
    | succ n4 ih4 =>
      intro x1_1 x2_2 mRw_3 h H locs ls hP hD hS hl
      refine lv_iload_n hx hb dX9_sort_4 rfl (lv_at hl 2 rfl) ?_
      refine lv_aload_n hx hb dX9_sort_5 rfl (lv_at hl 0 rfl) ?_
      refine va_get (D := D) (ci := 9) (C := RX9) (T := TX9) (N := 32) hx hb hts inn_X9_sort_9 hown hAB.1 hP 0 rfl rfl 0 (by decide) (hts (.fieldLink RX9 10 "BarnBenchModel" "b" "LBarnBenchModel$Book;") (by decide +kernel)) (fun _ h9 => h9) rfl dX9_sort_6 ?_
      refine va_get (D := D) (ci := 8) (C := RX8) (T := TX8) (N := 5) hx hb hts inn_X9_sort_8 hown hAB.1 hP 1 rfl rfl 0 (by decide) (hts (.fieldLink RX9 94 "BarnBenchModel$Book" "tasks" "I") (by decide +kernel)) (fun _ h9 => h9) rfl dX9_sort_9 ?_
      refine lv_icmp_ge (tgt := 60) hx hb dX9_sort_12 (by decide) (fun c_5 => ?_) (fun c_5 => ?_)
      · have h := h.1 c_5
        exact hk4 mRw_3 h H locs ls hP hD hS (lv_sub hl [] rfl)
      · have h := h.2 c_5
        refine lv_iconst (v := 0) hx hb dX9_sort_15 (by decide) ?_
        refine lv_istore_n (lv' := [(3, .int 0), (0, .ref (ad 0)), (1, .int x1_1), (2, .int x2_2)]) hx hb dX9_sort_16 rfl hl (by decide) rfl (fun ls hl => ?_)
        have L17 : ∀ (x17 : (Int32) → Prop) (hk17 : ∀ (x3_7 : Int32), x17 x3_7 → ∀ (H : Heap) (locs : List Loc) (ls : Array Slot), va_P D vwCl (WM cI cJ cZ cK ad ud pT pK pN pF pS qT qK qN qF qS mKe mUn mFi mRi mBe mWc mAK mSh mIP mUS mWa mWi mSi mRo mSp mRw_3 mSn mBg mLa mMo mRm mOw mGo mFr mQu mCh mPB mPS mFs ub uT uK uN uF uS) H → va_D A (WM cI cJ cZ cK ad ud pT pK pN pF pS qT qK qN qF qS mKe mUn mFi mRi mBe mWc mAK mSh mIP mUS mWa mWi mSi mRo mSp mRw_3 mSn mBg mLa mMo mRm mOw mGo mFr mQu mCh mPB mPS mFs ub uT uK uN uF uS) → va_S A s.heap H locs → lv_has ls 4 [(0, .ref (ad 0)), (1, .int x1_1), (2, .int x2_2), (3, .int x3_7)] → W p l e (headSpec wsX9_sort rm_X9_sort).room s m args below meth c H locs 0 0 Q (F0 m 41 ls [])) (n17 : Nat) (x3_6 : Int32), wp_X9_sort_L17 pF pT x1_1 x17 n17 x3_6 → ∀ (H : Heap) (locs : List Loc) (ls : Array Slot), va_P D vwCl (WM cI cJ cZ cK ad ud pT pK pN pF pS qT qK qN qF qS mKe mUn mFi mRi mBe mWc mAK mSh mIP mUS mWa mWi mSi mRo mSp mRw_3 mSn mBg mLa mMo mRm mOw mGo mFr mQu mCh mPB mPS mFs ub uT uK uN uF uS) H → va_D A (WM cI cJ cZ cK ad ud pT pK pN pF pS qT qK qN qF qS mKe mUn mFi mRi mBe mWc mAK mSh mIP mUS mWa mWi mSi mRo mSp mRw_3 mSn mBg mLa mMo mRm mOw mGo mFr mQu mCh mPB mPS mFs ub uT uK uN uF uS) → va_S A s.heap H locs → lv_has ls 4 [(0, .ref (ad 0)), (1, .int x1_1), (2, .int x2_2), (3, .int x3_6)] → W p l e (headSpec wsX9_sort rm_X9_sort).room s m args below meth c H locs 0 0 Q (F0 m 17 ls []) := by
          intro x17 hk17 n17
          induction n17 with
          | zero => intro x3_6 h; exact False.elim h
          | succ n17 ih17 =>
            intro x3_6 h H locs ls hP hD hS hl
            have B35 : ∀ (x3_8 : Int32), wp_X9_sort_b35 (wp_X9_sort_L17 pF pT x1_1 x17 n17) x3_8 → ∀ (H : Heap) (locs : List Loc) (ls : Array Slot), va_P D vwCl (WM cI cJ cZ cK ad ud pT pK pN pF pS qT qK qN qF qS mKe mUn mFi mRi mBe mWc mAK mSh mIP mUS mWa mWi mSi mRo mSp mRw_3 mSn mBg mLa mMo mRm mOw mGo mFr mQu mCh mPB mPS mFs ub uT uK uN uF uS) H → va_D A (WM cI cJ cZ cK ad ud pT pK pN pF pS qT qK qN qF qS mKe mUn mFi mRi mBe mWc mAK mSh mIP mUS mWa mWi mSi mRo mSp mRw_3 mSn mBg mLa mMo mRm mOw mGo mFr mQu mCh mPB mPS mFs ub uT uK uN uF uS) → va_S A s.heap H locs → lv_has ls 4 [(0, .ref (ad 0)), (1, .int x1_1), (2, .int x2_2), (3, .int x3_8)] → W p l e (headSpec wsX9_sort rm_X9_sort).room s m args below meth c H locs 0 0 Q (F0 m 35 ls []) := by
              intro x3_8 h H locs ls hP hD hS hl
              obtain ⟨x3_9, e_10⟩ : ∃ y : Int32, y = x3_8 + 1 := ⟨_, rfl⟩
              have h := h x3_9 e_10
              refine lv_iinc (v := x3_9) (lv' := [(3, .int x3_9), (0, .ref (ad 0)), (1, .int x1_1), (2, .int x2_2)]) hx hb dX9_sort_35 hl (k := 3) rfl (by rw [e_10]; rfl) (by decide) rfl (fun ls hl => ?_)
              refine lv_goto (tgt := 17) hx hb dX9_sort_38 (by decide) ?_
              exact ih17 x3_9 h H locs ls hP hD hS (lv_sub hl [1, 2, 3, 0] rfl)
            refine lv_iload_n hx hb dX9_sort_17 rfl (lv_at hl 1 rfl) ?_
            refine lv_iload_n hx hb dX9_sort_18 rfl (lv_at hl 3 rfl) ?_
            refine lv_ishr hx hb dX9_sort_19 ?_
            refine lv_iconst (v := 1) hx hb dX9_sort_20 (by decide) ?_
            refine lv_iand hx hb dX9_sort_21 ?_
            refine lv_iconst (v := 1) hx hb dX9_sort_22 (by decide) ?_
            refine lv_icmp_eq (tgt := 35) hx hb dX9_sort_23 (by decide) (fun c_11 => ?_) (fun c_11 => ?_)
            · have h := h.1 c_11
              exact B35 x3_6 h H locs ls hP hD hS (lv_sub hl [0, 1, 2, 3] rfl)
            · have h := h.2 c_11
              refine lv_aload_n hx hb dX9_sort_26 rfl (lv_at hl 0 rfl) ?_
              refine lv_iload_n hx hb dX9_sort_27 rfl (lv_at hl 3 rfl) ?_
              refine lv_iload_n hx hb dX9_sort_28 rfl (lv_at hl 1 rfl) ?_
              refine cl_i hD hS hA (va_runV (As := [.int x3_6, .int x1_1]) (rest := []) ⟨hx, hb, hml, hown, hts⟩ (ct_X9_isReady h H.size) (cwV 2 hts gX9_sort_X9_isReady rfl rfl rfl (by decide +kernel) ⟨Nat.le_of_ble_eq_true rfl, Nat.le_of_ble_eq_true rfl⟩) ⟨CPre.blind, va_recv hAB.1 hP (ci := 9) (q0 := 0) rfl rfl, wd_pre hAB hP hD hS hA⟩ rfl rfl hl.1 rfl (lv_room (Nat.le_of_ble_eq_true rfl)) dX9_sort_29 ⟨Nat.zero_le _, Nat.zero_le _⟩) (fun r_12 u H locs h hP hD hS => ?_)
              refine lv_if_ne (tgt := 41) hx hb dX9_sort_32 (by decide) (fun c_13 => ?_) (fun c_13 => ?_)
              · have h := h.1 c_13
                exact hk17 x3_6 h H locs ls hP hD hS (lv_sub hl [0, 1, 2, 3] rfl)
              · have h := h.2 c_13
                exact B35 x3_6 h H locs ls hP hD hS (lv_sub hl [0, 1, 2, 3] rfl)
        obtain ⟨n17, h⟩ := h
        refine L17 _ (fun x3_7 h H locs ls hP hD hS hl => ?_) n17 0 h H locs ls hP hD hS (lv_sub hl [1, 2, 3, 0] rfl)
        refine lv_aload_n hx hb dX9_sort_41 rfl (lv_at hl 0 rfl) ?_
        refine va_get (D := D) (ci := 9) (C := RX9) (T := TX9) (N := 32) hx hb hts inn_X9_sort_9 hown hAB.1 hP 0 rfl rfl 15 (by decide) (hts (.fieldLink RX9 48 "BarnBenchModel" "row" "[I") (by decide +kernel)) (fun _ h9 => h9) rfl dX9_sort_42 ?_
        refine lv_iload_n hx hb dX9_sort_45 rfl (lv_at hl 2 rfl) ?_
        refine lv_iload_n hx hb dX9_sort_46 rfl (lv_at hl 3 rfl) ?_
        refine sM_18 hx hb hAB hP hD hS h.1 dX9_sort_47 (fun mRw_14 H locs e_15 hP hD hS => ?_)
        have h := h.2
        have h := h mRw_14 e_15
        refine lv_iload_n hx hb dX9_sort_48 rfl (lv_at hl 1 rfl) ?_
        refine lv_iconst (v := 1) hx hb dX9_sort_49 (by decide) ?_
        refine lv_iload_n hx hb dX9_sort_50 rfl (lv_at hl 3 rfl) ?_
        refine lv_ishl hx hb dX9_sort_51 ?_
        refine lv_ior hx hb dX9_sort_52 ?_
        refine lv_topi (fun x1_16 e_17 => ?_)
        have h := h x1_16 e_17
        refine lv_istore_n (lv' := [(1, .int x1_16), (0, .ref (ad 0)), (2, .int x2_2), (3, .int x3_7)]) hx hb dX9_sort_53 rfl hl (by decide) rfl (fun ls hl => ?_)
        obtain ⟨x2_18, e_19⟩ : ∃ y : Int32, y = x2_2 + 1 := ⟨_, rfl⟩
        have h := h x2_18 e_19
        refine lv_iinc (v := x2_18) (lv' := [(2, .int x2_18), (1, .int x1_16), (0, .ref (ad 0)), (3, .int x3_7)]) hx hb dX9_sort_54 hl (k := 2) rfl (by rw [e_19]; rfl) (by decide) rfl (fun ls hl => ?_)
        refine lv_goto (tgt := 4) hx hb dX9_sort_57 (by decide) ?_
        exact ih4 x1_16 x2_18 mRw_14 h H locs ls hP hD hS (lv_sub hl [2, 1, 0] rfl)
  obtain ⟨n4, h⟩ := h
  refine L4 _ (fun mRw_4 h H locs ls hP hD hS hl => ?_) n4 0 0 mRw h H locs ls hP hD hS (lv_sub hl [2, 1, 0] rfl)
  exact rt_v (mRw_4) hQ hx hb hr hlk hP hD hS ⟨Nat.zero_le _, Nat.zero_le _⟩ dX9_sort_60 h
def wp_X9_order (pT : Int32) (pF : Nat → Int32) (mFi : Int32) (mRw : Nat → Int32) (a1 : Int32) (Qp : Int32 → (Int32) → (Nat → Int32) → Prop) : Prop :=
  wp_X9_in (Int32.toInt64 a1) 0 (Int32.toInt64 (pT - 1)) (fun (r_1 : Int32) => ((¬ r_1 = 0 → wp_X9_sort pT pF mRw (fun (mRw_3 : Nat → Int32) => vp_in a1 12 ∧ Qp (mRw_3 (Int32.toNatClampNeg a1)) mFi mRw_3)) ∧
   (r_1 = 0 → wp_X9_found mFi (-7) (fun (r_4 : Int32) (mFi_5 : Int32) => Qp r_4 mFi_5 mRw))))
theorem inn_X9_order_8 : ∀ w ∈ u_ws RX8 TX8 5, w ∈ wsX9_order := fun _ h => List.mem_cons_of_mem _ (List.mem_append_right _ h)
theorem inn_X9_order_9 : ∀ w ∈ u_ws RX9 TX9 32, w ∈ wsX9_order := fun _ h => List.mem_cons_of_mem _ (List.mem_append_left _ (List.mem_append_right _ h))
def rm_X9_order : Room := { frames := 2, cells := 0, slots := 0, locals := 47 }
set_option maxHeartbeats 4000000 in
set_option maxRecDepth 100000 in
theorem ct_X9_order {l : Launch} {D : va_G} {cI cJ cZ cE cD cK : ClassId} {ad : Nat → Nat} {ud : Nat → Nat → Nat} {pT : Int32} {pK : Nat → Int32} {pN : Nat → Int32} {pF : Nat → Int32} {pS : Nat → Int32} {qT : Int32} {qK : Nat → Int32} {qN : Nat → Int32} {qF : Nat → Int32} {qS : Nat → Int32} {mKe : Int32} {mUn : Int32} {mFi : Int32} {mRi : Int32} {mBe : Int64} {mWc : Int32} {mAK : Int32} {mSh : Int32} {mIP : Int32} {mUS : Nat → Int32} {mWa : Nat → Int32} {mWi : Nat → Int32} {mSi : Nat → Int32} {mRo : Nat → Int64} {mSp : Nat → Int64} {mRw : Nat → Int32} {mSn : Nat → Int32} {mBg : Nat → Int32} {mLa : Nat → Int32} {mMo : Nat → Int32} {mRm : Nat → Int64} {mOw : Nat → Int64} {mGo : Nat → Int32} {mFr : Nat → Int32} {mQu : Nat → Int32} {mCh : Nat → Int64} {mPB : Nat → Int32} {mPS : Nat → Int32} {mFs : Nat → Int32} {ub : Nat → Nat} {uT : Nat → Int32} {uK : Nat → Nat → Int32} {uN : Nat → Nat → Int32} {uF : Nat → Nat → Int32} {uS : Nat → Nat → Int32}   {a1 : Int32} {Qp : Int32 → (Int32) → (Nat → Int32) → Prop}   (h : wp_X9_order pT pF mFi mRw a1 Qp) : CTi l yX9_order wsX9_order rm_X9_order D (tyL cI cJ cZ cE cD cK) [.ref (ad 0), .int a1] (WM cI cJ cZ cK ad ud pT pK pN pF pS qT qK qN qF qS mKe mUn mFi mRi mBe mWc mAK mSh mIP mUS mWa mWi mSi mRo mSp mRw mSn mBg mLa mMo mRm mOw mGo mFr mQu mCh mPB mPS mFs ub uT uK uN uF uS) (fun (r : Int32) (u : (Int32) × (Nat → Int32)) => Qp r u.1 u.2) (fun u : (Int32) × (Nat → Int32) => (WM cI cJ cZ cK ad ud pT pK pN pF pS qT qK qN qF qS mKe mUn u.1 mRi mBe mWc mAK mSh mIP mUS mWa mWi mSi mRo mSp u.2 mSn mBg mLa mMo mRm mOw mGo mFr mQu mCh mPB mPS mFs ub uT uK uN uF uS)) 0 0 := by
  refine ent_i (cc := cX9_order) (maxL := 2) (ret := (some .int)) (by decide) rfl (Nat.le_of_ble_eq_true rfl) ?_
  intro p e s m args below meth c A Q hQ hx hb hr hml hown hts hlk hA hAB hP hD hS ls hl
  have hown : s.vm.findClass RX9 = some m.cls := hown
  have hl : lv_has ls 2 [(0, .ref (ad 0)), (1, .int a1)] := hl
  generalize hH : s.heap = H at hP ⊢
  have hS : va_S A s.heap H [] := by rw [← hH]; exact hS
  clear hH
  generalize ([] : List Loc) = locs at hS ⊢
  refine lv_iload_n hx hb dX9_order_0 rfl (lv_at hl 1 rfl) ?_
  refine lv_i2l hx hb dX9_order_1 rfl ?_
  refine lv_lconst (v := 0) hx hb dX9_order_2 (by decide) ?_
  refine lv_aload_n hx hb dX9_order_3 rfl (lv_at hl 0 rfl) ?_
  refine va_get (D := D) (ci := 9) (C := RX9) (T := TX9) (N := 32) hx hb hts inn_X9_order_9 hown hAB.1 hP 0 rfl rfl 0 (by decide) (hts (.fieldLink RX9 10 "BarnBenchModel" "b" "LBarnBenchModel$Book;") (by decide +kernel)) (fun _ h9 => h9) rfl dX9_order_4 ?_
  refine va_get (D := D) (ci := 8) (C := RX8) (T := TX8) (N := 5) hx hb hts inn_X9_order_8 hown hAB.1 hP 1 rfl rfl 0 (by decide) (hts (.fieldLink RX9 94 "BarnBenchModel$Book" "tasks" "I") (by decide +kernel)) (fun _ h9 => h9) rfl dX9_order_7 ?_
  refine lv_iconst (v := 1) hx hb dX9_order_10 (by decide) ?_
  refine lv_isub hx hb dX9_order_11 ?_
  refine lv_i2l hx hb dX9_order_12 rfl ?_
  refine cl_i hD hS hA (va_runS (As := [.long (Int32.toInt64 a1), .long 0, .long (Int32.toInt64 (pT - 1))]) (rest := []) ⟨hx, hb, hml, hown, hts⟩ (ct_X9_in h H.size) (va_cwS 3 hts gX9_order_X9_in rfl rfl rfl (by decide +kernel) ⟨Nat.le_of_ble_eq_true rfl, Nat.le_of_ble_eq_true rfl⟩) ⟨CPre.blind, wd_pre hAB hP hD hS hA⟩ rfl rfl hl.1 rfl (lv_room (Nat.le_of_ble_eq_true rfl)) dX9_order_13 ⟨Nat.zero_le _, Nat.zero_le _⟩) (fun r_1 u H locs h hP hD hS => ?_)
  refine lv_if_ne (tgt := 26) hx hb dX9_order_16 (by decide) (fun c_2 => ?_) (fun c_2 => ?_)
  · have h := h.1 c_2
    refine lv_aload_n hx hb dX9_order_26 rfl (lv_at hl 0 rfl) ?_
    refine cl_v hD hS hA (va_runV (As := []) (rest := []) ⟨hx, hb, hml, hown, hts⟩ (ct_X9_sort h H.size) (cwV 0 hts gX9_order_X9_sort rfl rfl rfl (by decide +kernel) ⟨Nat.le_of_ble_eq_true rfl, Nat.le_of_ble_eq_true rfl⟩) ⟨CPre.blind, va_recv hAB.1 hP (ci := 9) (q0 := 0) rfl rfl, wd_pre hAB hP hD hS hA⟩ rfl rfl hl.1 rfl (lv_room (Nat.le_of_ble_eq_true rfl)) dX9_order_27 ⟨Nat.zero_le _, Nat.zero_le _⟩) (fun mRw_3 H locs h hP hD hS => ?_)
    have hP : va_P D vwCl (WM cI cJ cZ cK ad ud pT pK pN pF pS qT qK qN qF qS mKe mUn mFi mRi mBe mWc mAK mSh mIP mUS mWa mWi mSi mRo mSp mRw_3 mSn mBg mLa mMo mRm mOw mGo mFr mQu mCh mPB mPS mFs ub uT uK uN uF uS) H := hP
    have hD : va_D A (WM cI cJ cZ cK ad ud pT pK pN pF pS qT qK qN qF qS mKe mUn mFi mRi mBe mWc mAK mSh mIP mUS mWa mWi mSi mRo mSp mRw_3 mSn mBg mLa mMo mRm mOw mGo mFr mQu mCh mPB mPS mFs ub uT uK uN uF uS) := hD
    refine lv_aload_n hx hb dX9_order_30 rfl (lv_at hl 0 rfl) ?_
    refine va_get (D := D) (ci := 9) (C := RX9) (T := TX9) (N := 32) hx hb hts inn_X9_order_9 hown hAB.1 hP 0 rfl rfl 15 (by decide) (hts (.fieldLink RX9 48 "BarnBenchModel" "row" "[I") (by decide +kernel)) (fun _ h9 => h9) rfl dX9_order_31 ?_
    refine lv_iload_n hx hb dX9_order_34 rfl (lv_at hl 1 rfl) ?_
    refine va_iald hx hb hAB.1 hP 18 0 rfl rfl h.1 dX9_order_35 ?_
    have h := h.2
    exact rt_i (mFi, mRw_3) hQ hx hb hr hlk hP hD hS ⟨Nat.zero_le _, Nat.zero_le _⟩ dX9_order_36 h
  · have h := h.2 c_2
    refine lv_aload_n hx hb dX9_order_19 rfl (lv_at hl 0 rfl) ?_
    refine lv_bipush (v := (-7)) hx hb dX9_order_20 (by decide) ?_
    refine cl_i hD hS hA (va_runV (As := [.int (-7)]) (rest := []) ⟨hx, hb, hml, hown, hts⟩ (ct_X9_found h H.size) (cwV 1 hts gX9_order_X9_found rfl rfl rfl (by decide +kernel) ⟨Nat.le_of_ble_eq_true rfl, Nat.le_of_ble_eq_true rfl⟩) ⟨CPre.blind, va_recv hAB.1 hP (ci := 9) (q0 := 0) rfl rfl, wd_pre hAB hP hD hS hA⟩ rfl rfl hl.1 rfl (lv_room (Nat.le_of_ble_eq_true rfl)) dX9_order_22 ⟨Nat.zero_le _, Nat.zero_le _⟩) (fun r_4 mFi_5 H locs h hP hD hS => ?_)
    have hP : va_P D vwCl (WM cI cJ cZ cK ad ud pT pK pN pF pS qT qK qN qF qS mKe mUn mFi_5 mRi mBe mWc mAK mSh mIP mUS mWa mWi mSi mRo mSp mRw mSn mBg mLa mMo mRm mOw mGo mFr mQu mCh mPB mPS mFs ub uT uK uN uF uS) H := hP
    have hD : va_D A (WM cI cJ cZ cK ad ud pT pK pN pF pS qT qK qN qF qS mKe mUn mFi_5 mRi mBe mWc mAK mSh mIP mUS mWa mWi mSi mRo mSp mRw mSn mBg mLa mMo mRm mOw mGo mFr mQu mCh mPB mPS mFs ub uT uK uN uF uS) := hD
    exact rt_i (mFi_5, mRw) hQ hx hb hr hlk hP hD hS ⟨Nat.zero_le _, Nat.zero_le _⟩ dX9_order_25 h
def wp_X9_span_b30 (Qp : Int32 → (Nat → Int32) → (Int32) → (Int32) → (Int32) → (Int32) → (Nat → Int32) → (Nat → Nat) → (Nat → Int32) → (Nat → Nat → Int32) → (Nat → Nat → Int32) → (Nat → Nat → Int32) → (Nat → Nat → Int32) → Prop) (pS_1 : Nat → Int32) (mUn_2 : Int32) (mFi_3 : Int32) (mAK_4 : Int32) (mIP_5 : Int32) (mUS_6 : Nat → Int32) (ub_7 : Nat → Nat) (uT_8 : Nat → Int32) (uK_9 : Nat → Nat → Int32) (uN_10 : Nat → Nat → Int32) (uF_11 : Nat → Nat → Int32) (uS_12 : Nat → Nat → Int32) : Prop :=
  wp_X9_found mFi_3 (-1) (fun (r_13 : Int32) (mFi_14 : Int32) => Qp r_13 pS_1 mUn_2 mFi_14 mAK_4 mIP_5 mUS_6 ub_7 uT_8 uK_9 uN_10 uF_11 uS_12)
def wp_X9_span (pT : Int32) (pK : Nat → Int32) (pN : Nat → Int32) (pF : Nat → Int32) (pS : Nat → Int32) (mUn : Int32) (mFi : Int32) (mAK : Int32) (mIP : Int32) (mUS : Nat → Int32) (ub : Nat → Nat) (uT : Nat → Int32) (uK : Nat → Nat → Int32) (uN : Nat → Nat → Int32) (uF : Nat → Nat → Int32) (uS : Nat → Nat → Int32) (a1 : Int32) (a2 : Int32) (Qp : Int32 → (Nat → Int32) → (Int32) → (Int32) → (Int32) → (Int32) → (Nat → Int32) → (Nat → Nat) → (Nat → Int32) → (Nat → Nat → Int32) → (Nat → Nat → Int32) → (Nat → Nat → Int32) → (Nat → Nat → Int32) → Prop) : Prop :=
  wp_X9_isTask pT a1 (fun (r_15 : Int32) => ((r_15 = 0 → wp_X9_span_b30 Qp pS mUn mFi mAK mIP mUS ub uT uK uN uF uS) ∧
   (¬ r_15 = 0 → wp_X9_number pN a1 1 (fun (r_17 : Int32) => wp_X9_number pN a1 0 (fun (r_18 : Int32) => wp_X9_in (Int32.toInt64 a2) (Int32.toInt64 r_17) (Int32.toInt64 r_18) (fun (r_19 : Int32) => ((¬ r_19 = 0 → wp_X9_remember pT pK pN pF pS mUn mAK mIP mUS ub uT uK uN uF uS 1 (fun (mUn_21 : Int32) (mAK_22 : Int32) (mIP_23 : Int32) (mUS_24 : Nat → Int32) (ub_25 : Nat → Nat) (uT_26 : Nat → Int32) (uK_27 : Nat → Nat → Int32) (uN_28 : Nat → Nat → Int32) (uF_29 : Nat → Nat → Int32) (uS_30 : Nat → Nat → Int32) => vp_in a1 12 ∧ ∀ x3_31 : Int32, x3_31 = (pS (Int32.toNatClampNeg a1)) → vp_in a1 12 ∧ ∀ pS_33 : Nat → Int32, pS_33 = upd pS (Int32.toNatClampNeg a1) a2 → Qp x3_31 pS_33 mUn_21 mFi mAK_22 mIP_23 mUS_24 ub_25 uT_26 uK_27 uN_28 uF_29 uS_30)) ∧
   (r_19 = 0 → wp_X9_span_b30 Qp pS mUn mFi mAK mIP mUS ub uT uK uN uF uS))))))))
theorem inn_X9_span_8 : ∀ w ∈ u_ws RX8 TX8 5, w ∈ wsX9_span := fun _ h => List.mem_cons_of_mem _ (List.mem_append_right _ h)
theorem inn_X9_span_9 : ∀ w ∈ u_ws RX9 TX9 32, w ∈ wsX9_span := fun _ h => List.mem_cons_of_mem _ (List.mem_append_left _ (List.mem_append_right _ h))
def rm_X9_span : Room := { frames := 2, cells := 0, slots := 0, locals := 46 }
set_option maxHeartbeats 4000000 in
set_option maxRecDepth 100000 in
theorem ct_X9_span {l : Launch} {D : va_G} {cI cJ cZ cE cD cK : ClassId} {ad : Nat → Nat} {ud : Nat → Nat → Nat} {pT : Int32} {pK : Nat → Int32} {pN : Nat → Int32} {pF : Nat → Int32} {pS : Nat → Int32} {qT : Int32} {qK : Nat → Int32} {qN : Nat → Int32} {qF : Nat → Int32} {qS : Nat → Int32} {mKe : Int32} {mUn : Int32} {mFi : Int32} {mRi : Int32} {mBe : Int64} {mWc : Int32} {mAK : Int32} {mSh : Int32} {mIP : Int32} {mUS : Nat → Int32} {mWa : Nat → Int32} {mWi : Nat → Int32} {mSi : Nat → Int32} {mRo : Nat → Int64} {mSp : Nat → Int64} {mRw : Nat → Int32} {mSn : Nat → Int32} {mBg : Nat → Int32} {mLa : Nat → Int32} {mMo : Nat → Int32} {mRm : Nat → Int64} {mOw : Nat → Int64} {mGo : Nat → Int32} {mFr : Nat → Int32} {mQu : Nat → Int32} {mCh : Nat → Int64} {mPB : Nat → Int32} {mPS : Nat → Int32} {mFs : Nat → Int32} {ub : Nat → Nat} {uT : Nat → Int32} {uK : Nat → Nat → Int32} {uN : Nat → Nat → Int32} {uF : Nat → Nat → Int32} {uS : Nat → Nat → Int32}   {a1 : Int32} {a2 : Int32} {Qp : Int32 → (Nat → Int32) → (Int32) → (Int32) → (Int32) → (Int32) → (Nat → Int32) → (Nat → Nat) → (Nat → Int32) → (Nat → Nat → Int32) → (Nat → Nat → Int32) → (Nat → Nat → Int32) → (Nat → Nat → Int32) → Prop}   (h : wp_X9_span pT pK pN pF pS mUn mFi mAK mIP mUS ub uT uK uN uF uS a1 a2 Qp) : CTi l yX9_span wsX9_span rm_X9_span D (tyL cI cJ cZ cE cD cK) [.ref (ad 0), .int a1, .int a2] (WM cI cJ cZ cK ad ud pT pK pN pF pS qT qK qN qF qS mKe mUn mFi mRi mBe mWc mAK mSh mIP mUS mWa mWi mSi mRo mSp mRw mSn mBg mLa mMo mRm mOw mGo mFr mQu mCh mPB mPS mFs ub uT uK uN uF uS) (fun (r : Int32) (u : (Nat → Int32) × (Int32) × (Int32) × (Int32) × (Int32) × (Nat → Int32) × (Nat → Nat) × (Nat → Int32) × (Nat → Nat → Int32) × (Nat → Nat → Int32) × (Nat → Nat → Int32) × (Nat → Nat → Int32)) => Qp r u.1 u.2.1 u.2.2.1 u.2.2.2.1 u.2.2.2.2.1 u.2.2.2.2.2.1 u.2.2.2.2.2.2.1 u.2.2.2.2.2.2.2.1 u.2.2.2.2.2.2.2.2.1 u.2.2.2.2.2.2.2.2.2.1 u.2.2.2.2.2.2.2.2.2.2.1 u.2.2.2.2.2.2.2.2.2.2.2) (fun u : (Nat → Int32) × (Int32) × (Int32) × (Int32) × (Int32) × (Nat → Int32) × (Nat → Nat) × (Nat → Int32) × (Nat → Nat → Int32) × (Nat → Nat → Int32) × (Nat → Nat → Int32) × (Nat → Nat → Int32) => (WM cI cJ cZ cK ad ud pT pK pN pF u.1 qT qK qN qF qS mKe u.2.1 u.2.2.1 mRi mBe mWc u.2.2.2.1 mSh u.2.2.2.2.1 u.2.2.2.2.2.1 mWa mWi mSi mRo mSp mRw mSn mBg mLa mMo mRm mOw mGo mFr mQu mCh mPB mPS mFs u.2.2.2.2.2.2.1 u.2.2.2.2.2.2.2.1 u.2.2.2.2.2.2.2.2.1 u.2.2.2.2.2.2.2.2.2.1 u.2.2.2.2.2.2.2.2.2.2.1 u.2.2.2.2.2.2.2.2.2.2.2)) 0 0 := by
  refine ent_i (cc := cX9_span) (maxL := 4) (ret := (some .int)) (by decide) rfl (Nat.le_of_ble_eq_true rfl) ?_
  intro p e s m args below meth c A Q hQ hx hb hr hml hown hts hlk hA hAB hP hD hS ls hl
  have hown : s.vm.findClass RX9 = some m.cls := hown
  have hl : lv_has ls 4 [(0, .ref (ad 0)), (1, .int a1), (2, .int a2)] := hl
  generalize hH : s.heap = H at hP ⊢
  have hS : va_S A s.heap H [] := by rw [← hH]; exact hS
  clear hH
  generalize ([] : List Loc) = locs at hS ⊢
  have B30 : ∀ (pS_1 : Nat → Int32) (mUn_2 : Int32) (mFi_3 : Int32) (mAK_4 : Int32) (mIP_5 : Int32) (mUS_6 : Nat → Int32) (ub_7 : Nat → Nat) (uT_8 : Nat → Int32) (uK_9 : Nat → Nat → Int32) (uN_10 : Nat → Nat → Int32) (uF_11 : Nat → Nat → Int32) (uS_12 : Nat → Nat → Int32), wp_X9_span_b30 Qp pS_1 mUn_2 mFi_3 mAK_4 mIP_5 mUS_6 ub_7 uT_8 uK_9 uN_10 uF_11 uS_12 → ∀ (H : Heap) (locs : List Loc) (ls : Array Slot), va_P D vwCl (WM cI cJ cZ cK ad ud pT pK pN pF pS_1 qT qK qN qF qS mKe mUn_2 mFi_3 mRi mBe mWc mAK_4 mSh mIP_5 mUS_6 mWa mWi mSi mRo mSp mRw mSn mBg mLa mMo mRm mOw mGo mFr mQu mCh mPB mPS mFs ub_7 uT_8 uK_9 uN_10 uF_11 uS_12) H → va_D A (WM cI cJ cZ cK ad ud pT pK pN pF pS_1 qT qK qN qF qS mKe mUn_2 mFi_3 mRi mBe mWc mAK_4 mSh mIP_5 mUS_6 mWa mWi mSi mRo mSp mRw mSn mBg mLa mMo mRm mOw mGo mFr mQu mCh mPB mPS mFs ub_7 uT_8 uK_9 uN_10 uF_11 uS_12) → va_S A s.heap H locs → lv_has ls 4 [(0, .ref (ad 0))] → W p l e (headSpec wsX9_span rm_X9_span).room s m args below meth c H locs 0 0 Q (F0 m 30 ls []) := by
    intro pS_1 mUn_2 mFi_3 mAK_4 mIP_5 mUS_6 ub_7 uT_8 uK_9 uN_10 uF_11 uS_12 h H locs ls hP hD hS hl
    refine lv_aload_n hx hb dX9_span_30 rfl (lv_at hl 0 rfl) ?_
    refine lv_iconst (v := (-1)) hx hb dX9_span_31 (by decide) ?_
    refine cl_i hD hS hA (va_runV (As := [.int (-1)]) (rest := []) ⟨hx, hb, hml, hown, hts⟩ (ct_X9_found h H.size) (cwV 1 hts gX9_span_X9_found rfl rfl rfl (by decide +kernel) ⟨Nat.le_of_ble_eq_true rfl, Nat.le_of_ble_eq_true rfl⟩) ⟨CPre.blind, va_recv hAB.1 hP (ci := 9) (q0 := 0) rfl rfl, wd_pre hAB hP hD hS hA⟩ rfl rfl hl.1 rfl (lv_room (Nat.le_of_ble_eq_true rfl)) dX9_span_32 ⟨Nat.zero_le _, Nat.zero_le _⟩) (fun r_13 mFi_14 H locs h hP hD hS => ?_)
    have hP : va_P D vwCl (WM cI cJ cZ cK ad ud pT pK pN pF pS_1 qT qK qN qF qS mKe mUn_2 mFi_14 mRi mBe mWc mAK_4 mSh mIP_5 mUS_6 mWa mWi mSi mRo mSp mRw mSn mBg mLa mMo mRm mOw mGo mFr mQu mCh mPB mPS mFs ub_7 uT_8 uK_9 uN_10 uF_11 uS_12) H := hP
    have hD : va_D A (WM cI cJ cZ cK ad ud pT pK pN pF pS_1 qT qK qN qF qS mKe mUn_2 mFi_14 mRi mBe mWc mAK_4 mSh mIP_5 mUS_6 mWa mWi mSi mRo mSp mRw mSn mBg mLa mMo mRm mOw mGo mFr mQu mCh mPB mPS mFs ub_7 uT_8 uK_9 uN_10 uF_11 uS_12) := hD
    exact rt_i (pS_1, mUn_2, mFi_14, mAK_4, mIP_5, mUS_6, ub_7, uT_8, uK_9, uN_10, uF_11, uS_12) hQ hx hb hr hlk hP hD hS ⟨Nat.zero_le _, Nat.zero_le _⟩ dX9_span_35 h
  refine lv_aload_n hx hb dX9_span_0 rfl (lv_at hl 0 rfl) ?_
  refine lv_iload_n hx hb dX9_span_1 rfl (lv_at hl 1 rfl) ?_
  refine cl_i hD hS hA (va_runV (As := [.int a1]) (rest := []) ⟨hx, hb, hml, hown, hts⟩ (ct_X9_isTask h H.size) (cwV 1 hts gX9_span_X9_isTask rfl rfl rfl (by decide +kernel) ⟨Nat.le_of_ble_eq_true rfl, Nat.le_of_ble_eq_true rfl⟩) ⟨CPre.blind, va_recv hAB.1 hP (ci := 9) (q0 := 0) rfl rfl, wd_pre hAB hP hD hS hA⟩ rfl rfl hl.1 rfl (lv_room (Nat.le_of_ble_eq_true rfl)) dX9_span_2 ⟨Nat.zero_le _, Nat.zero_le _⟩) (fun r_15 u H locs h hP hD hS => ?_)
  refine lv_if_eq (tgt := 30) hx hb dX9_span_5 (by decide) (fun c_16 => ?_) (fun c_16 => ?_)
  · have h := h.1 c_16
    exact B30 pS mUn mFi mAK mIP mUS ub uT uK uN uF uS h H locs ls hP hD hS (lv_sub hl [0] rfl)
  · have h := h.2 c_16
    refine lv_iload_n hx hb dX9_span_8 rfl (lv_at hl 2 rfl) ?_
    refine lv_i2l hx hb dX9_span_9 rfl ?_
    refine lv_aload_n hx hb dX9_span_10 rfl (lv_at hl 0 rfl) ?_
    refine lv_iload_n hx hb dX9_span_11 rfl (lv_at hl 1 rfl) ?_
    refine lv_iconst (v := 1) hx hb dX9_span_12 (by decide) ?_
    refine cl_i hD hS hA (va_runV (As := [.int a1, .int 1]) (rest := [.long (Int32.toInt64 a2)]) ⟨hx, hb, hml, hown, hts⟩ (ct_X9_number h H.size) (cwV 2 hts gX9_span_X9_number rfl rfl rfl (by decide +kernel) ⟨Nat.le_of_ble_eq_true rfl, Nat.le_of_ble_eq_true rfl⟩) ⟨CPre.blind, va_recv hAB.1 hP (ci := 9) (q0 := 0) rfl rfl, wd_pre hAB hP hD hS hA⟩ rfl rfl hl.1 rfl (lv_room (Nat.le_of_ble_eq_true rfl)) dX9_span_13 ⟨Nat.zero_le _, Nat.zero_le _⟩) (fun r_17 u H locs h hP hD hS => ?_)
    refine lv_i2l hx hb dX9_span_16 rfl ?_
    refine lv_aload_n hx hb dX9_span_17 rfl (lv_at hl 0 rfl) ?_
    refine lv_iload_n hx hb dX9_span_18 rfl (lv_at hl 1 rfl) ?_
    refine lv_iconst (v := 0) hx hb dX9_span_19 (by decide) ?_
    refine cl_i hD hS hA (va_runV (As := [.int a1, .int 0]) (rest := [.long (Int32.toInt64 r_17), .long (Int32.toInt64 a2)]) ⟨hx, hb, hml, hown, hts⟩ (ct_X9_number h H.size) (cwV 2 hts gX9_span_X9_number rfl rfl rfl (by decide +kernel) ⟨Nat.le_of_ble_eq_true rfl, Nat.le_of_ble_eq_true rfl⟩) ⟨CPre.blind, va_recv hAB.1 hP (ci := 9) (q0 := 0) rfl rfl, wd_pre hAB hP hD hS hA⟩ rfl rfl hl.1 rfl (lv_room (Nat.le_of_ble_eq_true rfl)) dX9_span_20 ⟨Nat.zero_le _, Nat.zero_le _⟩) (fun r_18 u H locs h hP hD hS => ?_)
    refine lv_i2l hx hb dX9_span_23 rfl ?_
    refine cl_i hD hS hA (va_runS (As := [.long (Int32.toInt64 a2), .long (Int32.toInt64 r_17), .long (Int32.toInt64 r_18)]) (rest := []) ⟨hx, hb, hml, hown, hts⟩ (ct_X9_in h H.size) (va_cwS 3 hts gX9_span_X9_in rfl rfl rfl (by decide +kernel) ⟨Nat.le_of_ble_eq_true rfl, Nat.le_of_ble_eq_true rfl⟩) ⟨CPre.blind, wd_pre hAB hP hD hS hA⟩ rfl rfl hl.1 rfl (lv_room (Nat.le_of_ble_eq_true rfl)) dX9_span_24 ⟨Nat.zero_le _, Nat.zero_le _⟩) (fun r_19 u H locs h hP hD hS => ?_)
    refine lv_if_ne (tgt := 36) hx hb dX9_span_27 (by decide) (fun c_20 => ?_) (fun c_20 => ?_)
    · have h := h.1 c_20
      refine lv_aload_n hx hb dX9_span_36 rfl (lv_at hl 0 rfl) ?_
      refine lv_iconst (v := 1) hx hb dX9_span_37 (by decide) ?_
      refine cl_v hD hS hA (va_runV (As := [.int 1]) (rest := []) ⟨hx, hb, hml, hown, hts⟩ (ct_X9_remember h H.size) (cwV 1 hts gX9_span_X9_remember rfl rfl rfl (by decide +kernel) ⟨Nat.le_of_ble_eq_true rfl, Nat.le_of_ble_eq_true rfl⟩) ⟨CPre.blind, va_recv hAB.1 hP (ci := 9) (q0 := 0) rfl rfl, wd_pre hAB hP hD hS hA⟩ rfl rfl hl.1 rfl (lv_room (Nat.le_of_ble_eq_true rfl)) dX9_span_38 ⟨Nat.zero_le _, Nat.zero_le _⟩) (fun u H locs h hP hD hS => ?_)
      obtain ⟨mUn_21, mAK_22, mIP_23, mUS_24, ub_25, uT_26, uK_27, uN_28, uF_29, uS_30⟩ := u
      have hP : va_P D vwCl (WM cI cJ cZ cK ad ud pT pK pN pF pS qT qK qN qF qS mKe mUn_21 mFi mRi mBe mWc mAK_22 mSh mIP_23 mUS_24 mWa mWi mSi mRo mSp mRw mSn mBg mLa mMo mRm mOw mGo mFr mQu mCh mPB mPS mFs ub_25 uT_26 uK_27 uN_28 uF_29 uS_30) H := hP
      have hD : va_D A (WM cI cJ cZ cK ad ud pT pK pN pF pS qT qK qN qF qS mKe mUn_21 mFi mRi mBe mWc mAK_22 mSh mIP_23 mUS_24 mWa mWi mSi mRo mSp mRw mSn mBg mLa mMo mRm mOw mGo mFr mQu mCh mPB mPS mFs ub_25 uT_26 uK_27 uN_28 uF_29 uS_30) := hD
      refine lv_aload_n hx hb dX9_span_41 rfl (lv_at hl 0 rfl) ?_
      refine va_get (D := D) (ci := 9) (C := RX9) (T := TX9) (N := 32) hx hb hts inn_X9_span_9 hown hAB.1 hP 0 rfl rfl 0 (by decide) (hts (.fieldLink RX9 10 "BarnBenchModel" "b" "LBarnBenchModel$Book;") (by decide +kernel)) (fun _ h9 => h9) rfl dX9_span_42 ?_
      refine va_get (D := D) (ci := 8) (C := RX8) (T := TX8) (N := 5) hx hb hts inn_X9_span_8 hown hAB.1 hP 1 rfl rfl 4 (by decide) (hts (.fieldLink RX9 150 "BarnBenchModel$Book" "spans" "[I") (by decide +kernel)) (fun _ h9 => h9) rfl dX9_span_45 ?_
      refine lv_iload_n hx hb dX9_span_48 rfl (lv_at hl 1 rfl) ?_
      refine va_iald hx hb hAB.1 hP 5 0 rfl rfl h.1 dX9_span_49 ?_
      have h := h.2
      refine lv_topi (fun x3_31 e_32 => ?_)
      have h := h x3_31 e_32
      refine lv_istore_n (lv' := [(3, .int x3_31), (0, .ref (ad 0)), (1, .int a1), (2, .int a2)]) hx hb dX9_span_50 rfl hl (by decide) rfl (fun ls hl => ?_)
      refine lv_aload_n hx hb dX9_span_51 rfl (lv_at hl 1 rfl) ?_
      refine va_get (D := D) (ci := 9) (C := RX9) (T := TX9) (N := 32) hx hb hts inn_X9_span_9 hown hAB.1 hP 0 rfl rfl 0 (by decide) (hts (.fieldLink RX9 10 "BarnBenchModel" "b" "LBarnBenchModel$Book;") (by decide +kernel)) (fun _ h9 => h9) rfl dX9_span_52 ?_
      refine va_get (D := D) (ci := 8) (C := RX8) (T := TX8) (N := 5) hx hb hts inn_X9_span_8 hown hAB.1 hP 1 rfl rfl 4 (by decide) (hts (.fieldLink RX9 150 "BarnBenchModel$Book" "spans" "[I") (by decide +kernel)) (fun _ h9 => h9) rfl dX9_span_55 ?_
      refine lv_iload_n hx hb dX9_span_58 rfl (lv_at hl 2 rfl) ?_
      refine lv_iload_n hx hb dX9_span_59 rfl (lv_at hl 3 rfl) ?_
      refine sM_5 hx hb hAB hP hD hS h.1 dX9_span_60 (fun pS_33 H locs e_34 hP hD hS => ?_)
      have h := h.2
      have h := h pS_33 e_34
      refine lv_iload_n hx hb dX9_span_61 rfl (lv_at hl 0 rfl) ?_
      exact rt_i (pS_33, mUn_21, mFi, mAK_22, mIP_23, mUS_24, ub_25, uT_26, uK_27, uN_28, uF_29, uS_30) hQ hx hb hr hlk hP hD hS ⟨Nat.zero_le _, Nat.zero_le _⟩ dX9_span_62 h
    · have h := h.2 c_20
      exact B30 pS mUn mFi mAK mIP mUS ub uT uK uN uF uS h H locs ls hP hD hS (lv_sub hl [0] rfl)
def wp_X9_early_b96 (k36 : (Int32) → (Nat → Int32) → Prop) (x4_15 : Int32) (mBg_16 : Nat → Int32) : Prop :=
  ∀ x4_17 : Int32, x4_17 = x4_15 + 1 → k36 x4_17 mBg_16
def wp_X9_early_L36 (mSn : Nat → Int32) (pF : Nat → Int32) (pT : Int32) (x3_8 : Int32) (x36 : (Nat → Int32) → Prop) : Nat → (Int32) → (Nat → Int32) → Prop
  | 0, _, _ => False
  | n36 + 1, x4_12, mBg_13 =>
  ((pT ≤ x4_12 → x36 mBg_13) ∧
   (¬ pT ≤ x4_12 → vp_in ((12 * x3_8) + x4_12) 144 ∧ (((pF (Int32.toNatClampNeg ((12 * x3_8) + x4_12))) = 0 → wp_X9_early_b96 (wp_X9_early_L36 mSn pF pT x3_8 x36 n36) x4_12 mBg_13) ∧
   (¬ (pF (Int32.toNatClampNeg ((12 * x3_8) + x4_12))) = 0 → vp_in x3_8 12 ∧ vp_in x4_12 12 ∧ vp_in x4_12 12 ∧ vp_in x3_8 12 ∧ ∀ mBg_21 : Nat → Int32, mBg_21 = upd mBg_13 (Int32.toNatClampNeg x3_8) (if (mBg_13 (Int32.toNatClampNeg x3_8)) < ((mBg_13 (Int32.toNatClampNeg x4_12)) + (mSn (Int32.toNatClampNeg x4_12))) then ((mBg_13 (Int32.toNatClampNeg x4_12)) + (mSn (Int32.toNatClampNeg x4_12))) else (mBg_13 (Int32.toNatClampNeg x3_8))) → wp_X9_early_b96 (wp_X9_early_L36 mSn pF pT x3_8 x36 n36) x4_12 mBg_21))))
def wp_X9_early_L8 (mSn : Nat → Int32) (pF : Nat → Int32) (pT : Int32) (mRw_1 : Nat → Int32) (x8 : (Int32) → (Nat → Int32) → Prop) : Nat → (Int32) → (Int32) → (Nat → Int32) → Prop
  | 0, _, _, _ => False
  | n8 + 1, x1_2, x2_3, mBg_4 =>
  ((pT ≤ x2_3 → x8 x1_2 mBg_4) ∧
   (¬ pT ≤ x2_3 → vp_in x2_3 12 ∧ ∀ x3_8 : Int32, x3_8 = (mRw_1 (Int32.toNatClampNeg x2_3)) → vp_in x3_8 12 ∧ ∀ mBg_10 : Nat → Int32, mBg_10 = upd mBg_4 (Int32.toNatClampNeg x3_8) 0 → (∃ n36 : Nat, wp_X9_early_L36 mSn pF pT x3_8 (fun (mBg_14 : Nat → Int32) => vp_in x3_8 12 ∧ vp_in x3_8 12 ∧ ∀ x1_23 : Int32, x1_23 = (if x1_2 < ((mBg_14 (Int32.toNatClampNeg x3_8)) + (mSn (Int32.toNatClampNeg x3_8))) then ((mBg_14 (Int32.toNatClampNeg x3_8)) + (mSn (Int32.toNatClampNeg x3_8))) else x1_2) → ∀ x2_25 : Int32, x2_25 = x2_3 + 1 → (wp_X9_early_L8 mSn pF pT mRw_1 x8 n8) x1_23 x2_25 mBg_14) n36 0 mBg_10)))
def wp_X9_early (pT : Int32) (pF : Nat → Int32) (mRw : Nat → Int32) (mSn : Nat → Int32) (mBg : Nat → Int32)  (Qp : Int32 → (Nat → Int32) → (Nat → Int32) → Prop) : Prop :=
  wp_X9_sort pT pF mRw (fun (mRw_1 : Nat → Int32) => (∃ n8 : Nat, wp_X9_early_L8 mSn pF pT mRw_1 (fun (x1_5 : Int32) (mBg_6 : Nat → Int32) => Qp x1_5 mRw_1 mBg_6) n8 0 0 mBg))
theorem inn_X9_early_8 : ∀ w ∈ u_ws RX8 TX8 5, w ∈ wsX9_early := fun _ h => List.mem_cons_of_mem _ (List.mem_append_right _ h)
theorem inn_X9_early_9 : ∀ w ∈ u_ws RX9 TX9 32, w ∈ wsX9_early := fun _ h => List.mem_cons_of_mem _ (List.mem_append_left _ (List.mem_append_right _ h))
def rm_X9_early : Room := { frames := 2, cells := 0, slots := 0, locals := 47 }
set_option maxHeartbeats 4000000 in
set_option maxRecDepth 100000 in
theorem ct_X9_early {l : Launch} {D : va_G} {cI cJ cZ cE cD cK : ClassId} {ad : Nat → Nat} {ud : Nat → Nat → Nat} {pT : Int32} {pK : Nat → Int32} {pN : Nat → Int32} {pF : Nat → Int32} {pS : Nat → Int32} {qT : Int32} {qK : Nat → Int32} {qN : Nat → Int32} {qF : Nat → Int32} {qS : Nat → Int32} {mKe : Int32} {mUn : Int32} {mFi : Int32} {mRi : Int32} {mBe : Int64} {mWc : Int32} {mAK : Int32} {mSh : Int32} {mIP : Int32} {mUS : Nat → Int32} {mWa : Nat → Int32} {mWi : Nat → Int32} {mSi : Nat → Int32} {mRo : Nat → Int64} {mSp : Nat → Int64} {mRw : Nat → Int32} {mSn : Nat → Int32} {mBg : Nat → Int32} {mLa : Nat → Int32} {mMo : Nat → Int32} {mRm : Nat → Int64} {mOw : Nat → Int64} {mGo : Nat → Int32} {mFr : Nat → Int32} {mQu : Nat → Int32} {mCh : Nat → Int64} {mPB : Nat → Int32} {mPS : Nat → Int32} {mFs : Nat → Int32} {ub : Nat → Nat} {uT : Nat → Int32} {uK : Nat → Nat → Int32} {uN : Nat → Nat → Int32} {uF : Nat → Nat → Int32} {uS : Nat → Nat → Int32}    {Qp : Int32 → (Nat → Int32) → (Nat → Int32) → Prop}   (h : wp_X9_early pT pF mRw mSn mBg Qp) : CTi l yX9_early wsX9_early rm_X9_early D (tyL cI cJ cZ cE cD cK) [.ref (ad 0)] (WM cI cJ cZ cK ad ud pT pK pN pF pS qT qK qN qF qS mKe mUn mFi mRi mBe mWc mAK mSh mIP mUS mWa mWi mSi mRo mSp mRw mSn mBg mLa mMo mRm mOw mGo mFr mQu mCh mPB mPS mFs ub uT uK uN uF uS) (fun (r : Int32) (u : (Nat → Int32) × (Nat → Int32)) => Qp r u.1 u.2) (fun u : (Nat → Int32) × (Nat → Int32) => (WM cI cJ cZ cK ad ud pT pK pN pF pS qT qK qN qF qS mKe mUn mFi mRi mBe mWc mAK mSh mIP mUS mWa mWi mSi mRo mSp u.1 mSn u.2 mLa mMo mRm mOw mGo mFr mQu mCh mPB mPS mFs ub uT uK uN uF uS)) 0 0 := by
  refine ent_i (cc := cX9_early) (maxL := 5) (ret := (some .int)) (by decide) rfl (Nat.le_of_ble_eq_true rfl) ?_
  intro p e s m args below meth c A Q hQ hx hb hr hml hown hts hlk hA hAB hP hD hS ls hl
  have hown : s.vm.findClass RX9 = some m.cls := hown
  have hl : lv_has ls 5 [(0, .ref (ad 0))] := hl
  generalize hH : s.heap = H at hP ⊢
  have hS : va_S A s.heap H [] := by rw [← hH]; exact hS
  clear hH
  generalize ([] : List Loc) = locs at hS ⊢
  refine lv_aload_n hx hb dX9_early_0 rfl (lv_at hl 0 rfl) ?_
  refine cl_v hD hS hA (va_runV (As := []) (rest := []) ⟨hx, hb, hml, hown, hts⟩ (ct_X9_sort h H.size) (cwV 0 hts gX9_early_X9_sort rfl rfl rfl (by decide +kernel) ⟨Nat.le_of_ble_eq_true rfl, Nat.le_of_ble_eq_true rfl⟩) ⟨CPre.blind, va_recv hAB.1 hP (ci := 9) (q0 := 0) rfl rfl, wd_pre hAB hP hD hS hA⟩ rfl rfl hl.1 rfl (lv_room (Nat.le_of_ble_eq_true rfl)) dX9_early_1 ⟨Nat.zero_le _, Nat.zero_le _⟩) (fun mRw_1 H locs h hP hD hS => ?_)
  have hP : va_P D vwCl (WM cI cJ cZ cK ad ud pT pK pN pF pS qT qK qN qF qS mKe mUn mFi mRi mBe mWc mAK mSh mIP mUS mWa mWi mSi mRo mSp mRw_1 mSn mBg mLa mMo mRm mOw mGo mFr mQu mCh mPB mPS mFs ub uT uK uN uF uS) H := hP
  have hD : va_D A (WM cI cJ cZ cK ad ud pT pK pN pF pS qT qK qN qF qS mKe mUn mFi mRi mBe mWc mAK mSh mIP mUS mWa mWi mSi mRo mSp mRw_1 mSn mBg mLa mMo mRm mOw mGo mFr mQu mCh mPB mPS mFs ub uT uK uN uF uS) := hD
  refine lv_iconst (v := 0) hx hb dX9_early_4 (by decide) ?_
  refine lv_istore_n (lv' := [(1, .int 0), (0, .ref (ad 0))]) hx hb dX9_early_5 rfl hl (by decide) rfl (fun ls hl => ?_)
  refine lv_iconst (v := 0) hx hb dX9_early_6 (by decide) ?_
  refine lv_istore_n (lv' := [(2, .int 0), (1, .int 0), (0, .ref (ad 0))]) hx hb dX9_early_7 rfl hl (by decide) rfl (fun ls hl => ?_)
  have L8 : ∀ (x8 : (Int32) → (Nat → Int32) → Prop) (hk8 : ∀ (x1_5 : Int32) (mBg_6 : Nat → Int32), x8 x1_5 mBg_6 → ∀ (H : Heap) (locs : List Loc) (ls : Array Slot), va_P D vwCl (WM cI cJ cZ cK ad ud pT pK pN pF pS qT qK qN qF qS mKe mUn mFi mRi mBe mWc mAK mSh mIP mUS mWa mWi mSi mRo mSp mRw_1 mSn mBg_6 mLa mMo mRm mOw mGo mFr mQu mCh mPB mPS mFs ub uT uK uN uF uS) H → va_D A (WM cI cJ cZ cK ad ud pT pK pN pF pS qT qK qN qF qS mKe mUn mFi mRi mBe mWc mAK mSh mIP mUS mWa mWi mSi mRo mSp mRw_1 mSn mBg_6 mLa mMo mRm mOw mGo mFr mQu mCh mPB mPS mFs ub uT uK uN uF uS) → va_S A s.heap H locs → lv_has ls 5 [(1, .int x1_5)] → W p l e (headSpec wsX9_early rm_X9_early).room s m args below meth c H locs 0 0 Q (F0 m 126 ls [])) (n8 : Nat) (x1_2 : Int32) (x2_3 : Int32) (mBg_4 : Nat → Int32), wp_X9_early_L8 mSn pF pT mRw_1 x8 n8 x1_2 x2_3 mBg_4 → ∀ (H : Heap) (locs : List Loc) (ls : Array Slot), va_P D vwCl (WM cI cJ cZ cK ad ud pT pK pN pF pS qT qK qN qF qS mKe mUn mFi mRi mBe mWc mAK mSh mIP mUS mWa mWi mSi mRo mSp mRw_1 mSn mBg_4 mLa mMo mRm mOw mGo mFr mQu mCh mPB mPS mFs ub uT uK uN uF uS) H → va_D A (WM cI cJ cZ cK ad ud pT pK pN pF pS qT qK qN qF qS mKe mUn mFi mRi mBe mWc mAK mSh mIP mUS mWa mWi mSi mRo mSp mRw_1 mSn mBg_4 mLa mMo mRm mOw mGo mFr mQu mCh mPB mPS mFs ub uT uK uN uF uS) → va_S A s.heap H locs → lv_has ls 5 [(0, .ref (ad 0)), (1, .int x1_2), (2, .int x2_3)] → W p l e (headSpec wsX9_early rm_X9_early).room s m args below meth c H locs 0 0 Q (F0 m 8 ls []) := by
    intro x8 hk8 n8
    induction n8 with
    | zero => intro x1_2 x2_3 mBg_4 h; exact False.elim h
    | succ n8 ih8 =>
      intro x1_2 x2_3 mBg_4 h H locs ls hP hD hS hl
      refine lv_iload_n hx hb dX9_early_8 rfl (lv_at hl 2 rfl) ?_
      refine lv_aload_n hx hb dX9_early_9 rfl (lv_at hl 0 rfl) ?_
      refine va_get (D := D) (ci := 9) (C := RX9) (T := TX9) (N := 32) hx hb hts inn_X9_early_9 hown hAB.1 hP 0 rfl rfl 0 (by decide) (hts (.fieldLink RX9 10 "BarnBenchModel" "b" "LBarnBenchModel$Book;") (by decide +kernel)) (fun _ h9 => h9) rfl dX9_early_10 ?_
      refine va_get (D := D) (ci := 8) (C := RX8) (T := TX8) (N := 5) hx hb hts inn_X9_early_8 hown hAB.1 hP 1 rfl rfl 0 (by decide) (hts (.fieldLink RX9 94 "BarnBenchModel$Book" "tasks" "I") (by decide +kernel)) (fun _ h9 => h9) rfl dX9_early_13 ?_
      refine lv_icmp_ge (tgt := 126) hx hb dX9_early_16 (by decide) (fun c_7 => ?_) (fun c_7 => ?_)
      · have h := h.1 c_7
        exact hk8 x1_2 mBg_4 h H locs ls hP hD hS (lv_sub hl [1] rfl)
      · have h := h.2 c_7
        refine lv_aload_n hx hb dX9_early_19 rfl (lv_at hl 0 rfl) ?_
        refine va_get (D := D) (ci := 9) (C := RX9) (T := TX9) (N := 32) hx hb hts inn_X9_early_9 hown hAB.1 hP 0 rfl rfl 15 (by decide) (hts (.fieldLink RX9 48 "BarnBenchModel" "row" "[I") (by decide +kernel)) (fun _ h9 => h9) rfl dX9_early_20 ?_
        refine lv_iload_n hx hb dX9_early_23 rfl (lv_at hl 2 rfl) ?_
        refine va_iald hx hb hAB.1 hP 18 0 rfl rfl h.1 dX9_early_24 ?_
        have h := h.2
        refine lv_topi (fun x3_8 e_9 => ?_)
        have h := h x3_8 e_9
        refine lv_istore_n (lv' := [(3, .int x3_8), (0, .ref (ad 0)), (1, .int x1_2), (2, .int x2_3)]) hx hb dX9_early_25 rfl hl (by decide) rfl (fun ls hl => ?_)
        refine lv_aload_n hx hb dX9_early_26 rfl (lv_at hl 1 rfl) ?_
        refine va_get (D := D) (ci := 9) (C := RX9) (T := TX9) (N := 32) hx hb hts inn_X9_early_9 hown hAB.1 hP 0 rfl rfl 17 (by decide) (hts (.fieldLink RX9 54 "BarnBenchModel" "begins" "[I") (by decide +kernel)) (fun _ h9 => h9) rfl dX9_early_27 ?_
        refine lv_iload_n hx hb dX9_early_30 rfl (lv_at hl 0 rfl) ?_
        refine lv_iconst (v := 0) hx hb dX9_early_31 (by decide) ?_
        refine sM_20 hx hb hAB hP hD hS h.1 dX9_early_32 (fun mBg_10 H locs e_11 hP hD hS => ?_)
        have h := h.2
        have h := h mBg_10 e_11
        refine lv_iconst (v := 0) hx hb dX9_early_33 (by decide) ?_
        refine lv_istore (lv' := [(4, .int 0), (3, .int x3_8), (0, .ref (ad 0)), (1, .int x1_2), (2, .int x2_3)]) hx hb dX9_early_34 hl (by decide) rfl (fun ls hl => ?_)
        have L36 : ∀ (x36 : (Nat → Int32) → Prop) (hk36 : ∀ (mBg_14 : Nat → Int32), x36 mBg_14 → ∀ (H : Heap) (locs : List Loc) (ls : Array Slot), va_P D vwCl (WM cI cJ cZ cK ad ud pT pK pN pF pS qT qK qN qF qS mKe mUn mFi mRi mBe mWc mAK mSh mIP mUS mWa mWi mSi mRo mSp mRw_1 mSn mBg_14 mLa mMo mRm mOw mGo mFr mQu mCh mPB mPS mFs ub uT uK uN uF uS) H → va_D A (WM cI cJ cZ cK ad ud pT pK pN pF pS qT qK qN qF qS mKe mUn mFi mRi mBe mWc mAK mSh mIP mUS mWa mWi mSi mRo mSp mRw_1 mSn mBg_14 mLa mMo mRm mOw mGo mFr mQu mCh mPB mPS mFs ub uT uK uN uF uS) → va_S A s.heap H locs → lv_has ls 5 [(0, .ref (ad 0)), (1, .int x1_2), (2, .int x2_3), (3, .int x3_8)] → W p l e (headSpec wsX9_early rm_X9_early).room s m args below meth c H locs 0 0 Q (F0 m 102 ls [])) (n36 : Nat) (x4_12 : Int32) (mBg_13 : Nat → Int32), wp_X9_early_L36 mSn pF pT x3_8 x36 n36 x4_12 mBg_13 → ∀ (H : Heap) (locs : List Loc) (ls : Array Slot), va_P D vwCl (WM cI cJ cZ cK ad ud pT pK pN pF pS qT qK qN qF qS mKe mUn mFi mRi mBe mWc mAK mSh mIP mUS mWa mWi mSi mRo mSp mRw_1 mSn mBg_13 mLa mMo mRm mOw mGo mFr mQu mCh mPB mPS mFs ub uT uK uN uF uS) H → va_D A (WM cI cJ cZ cK ad ud pT pK pN pF pS qT qK qN qF qS mKe mUn mFi mRi mBe mWc mAK mSh mIP mUS mWa mWi mSi mRo mSp mRw_1 mSn mBg_13 mLa mMo mRm mOw mGo mFr mQu mCh mPB mPS mFs ub uT uK uN uF uS) → va_S A s.heap H locs → lv_has ls 5 [(0, .ref (ad 0)), (1, .int x1_2), (2, .int x2_3), (3, .int x3_8), (4, .int x4_12)] → W p l e (headSpec wsX9_early rm_X9_early).room s m args below meth c H locs 0 0 Q (F0 m 36 ls []) := by
          intro x36 hk36 n36
          induction n36 with
          | zero => intro x4_12 mBg_13 h; exact False.elim h
          | succ n36 ih36 =>
            intro x4_12 mBg_13 h H locs ls hP hD hS hl
            have B96 : ∀ (x4_15 : Int32) (mBg_16 : Nat → Int32), wp_X9_early_b96 (wp_X9_early_L36 mSn pF pT x3_8 x36 n36) x4_15 mBg_16 → ∀ (H : Heap) (locs : List Loc) (ls : Array Slot), va_P D vwCl (WM cI cJ cZ cK ad ud pT pK pN pF pS qT qK qN qF qS mKe mUn mFi mRi mBe mWc mAK mSh mIP mUS mWa mWi mSi mRo mSp mRw_1 mSn mBg_16 mLa mMo mRm mOw mGo mFr mQu mCh mPB mPS mFs ub uT uK uN uF uS) H → va_D A (WM cI cJ cZ cK ad ud pT pK pN pF pS qT qK qN qF qS mKe mUn mFi mRi mBe mWc mAK mSh mIP mUS mWa mWi mSi mRo mSp mRw_1 mSn mBg_16 mLa mMo mRm mOw mGo mFr mQu mCh mPB mPS mFs ub uT uK uN uF uS) → va_S A s.heap H locs → lv_has ls 5 [(0, .ref (ad 0)), (1, .int x1_2), (2, .int x2_3), (3, .int x3_8), (4, .int x4_15)] → W p l e (headSpec wsX9_early rm_X9_early).room s m args below meth c H locs 0 0 Q (F0 m 96 ls []) := by
              intro x4_15 mBg_16 h H locs ls hP hD hS hl
              obtain ⟨x4_17, e_18⟩ : ∃ y : Int32, y = x4_15 + 1 := ⟨_, rfl⟩
              have h := h x4_17 e_18
              refine lv_iinc (v := x4_17) (lv' := [(4, .int x4_17), (0, .ref (ad 0)), (1, .int x1_2), (2, .int x2_3), (3, .int x3_8)]) hx hb dX9_early_96 hl (k := 4) rfl (by rw [e_18]; rfl) (by decide) rfl (fun ls hl => ?_)
              refine lv_goto (tgt := 36) hx hb dX9_early_99 (by decide) ?_
              exact ih36 x4_17 mBg_16 h H locs ls hP hD hS (lv_sub hl [1, 2, 3, 4, 0] rfl)
            refine lv_iload hx hb dX9_early_36 (lv_at hl 4 rfl) ?_
            refine lv_aload_n hx hb dX9_early_38 rfl (lv_at hl 0 rfl) ?_
            refine va_get (D := D) (ci := 9) (C := RX9) (T := TX9) (N := 32) hx hb hts inn_X9_early_9 hown hAB.1 hP 0 rfl rfl 0 (by decide) (hts (.fieldLink RX9 10 "BarnBenchModel" "b" "LBarnBenchModel$Book;") (by decide +kernel)) (fun _ h9 => h9) rfl dX9_early_39 ?_
            refine va_get (D := D) (ci := 8) (C := RX8) (T := TX8) (N := 5) hx hb hts inn_X9_early_8 hown hAB.1 hP 1 rfl rfl 0 (by decide) (hts (.fieldLink RX9 94 "BarnBenchModel$Book" "tasks" "I") (by decide +kernel)) (fun _ h9 => h9) rfl dX9_early_42 ?_
            refine lv_icmp_ge (tgt := 102) hx hb dX9_early_45 (by decide) (fun c_19 => ?_) (fun c_19 => ?_)
            · have h := h.1 c_19
              exact hk36 mBg_13 h H locs ls hP hD hS (lv_sub hl [0, 1, 2, 3] rfl)
            · have h := h.2 c_19
              refine lv_aload_n hx hb dX9_early_48 rfl (lv_at hl 0 rfl) ?_
              refine va_get (D := D) (ci := 9) (C := RX9) (T := TX9) (N := 32) hx hb hts inn_X9_early_9 hown hAB.1 hP 0 rfl rfl 0 (by decide) (hts (.fieldLink RX9 10 "BarnBenchModel" "b" "LBarnBenchModel$Book;") (by decide +kernel)) (fun _ h9 => h9) rfl dX9_early_49 ?_
              refine va_get (D := D) (ci := 8) (C := RX8) (T := TX8) (N := 5) hx hb hts inn_X9_early_8 hown hAB.1 hP 1 rfl rfl 3 (by decide) (hts (.fieldLink RX9 147 "BarnBenchModel$Book" "follows" "[Z") (by decide +kernel)) (fun _ h9 => h9) rfl dX9_early_52 ?_
              refine lv_bipush (v := 12) hx hb dX9_early_55 (by decide) ?_
              refine lv_iload_n hx hb dX9_early_57 rfl (lv_at hl 3 rfl) ?_
              refine lv_imul hx hb dX9_early_58 ?_
              refine lv_iload hx hb dX9_early_59 (lv_at hl 4 rfl) ?_
              refine lv_iadd hx hb dX9_early_61 ?_
              refine va_zald hx hb hAB.1 hP 4 2 rfl rfl h.1 dX9_early_62 ?_
              have h := h.2
              refine lv_if_eq (tgt := 96) hx hb dX9_early_63 (by decide) (fun c_20 => ?_) (fun c_20 => ?_)
              · have h := h.1 c_20
                exact B96 x4_12 mBg_13 h H locs ls hP hD hS (lv_sub hl [0, 1, 2, 3, 4] rfl)
              · have h := h.2 c_20
                refine lv_aload_n hx hb dX9_early_66 rfl (lv_at hl 0 rfl) ?_
                refine va_get (D := D) (ci := 9) (C := RX9) (T := TX9) (N := 32) hx hb hts inn_X9_early_9 hown hAB.1 hP 0 rfl rfl 17 (by decide) (hts (.fieldLink RX9 54 "BarnBenchModel" "begins" "[I") (by decide +kernel)) (fun _ h9 => h9) rfl dX9_early_67 ?_
                refine lv_iload_n hx hb dX9_early_70 rfl (lv_at hl 3 rfl) ?_
                refine lv_aload_n hx hb dX9_early_71 rfl (lv_at hl 0 rfl) ?_
                refine va_get (D := D) (ci := 9) (C := RX9) (T := TX9) (N := 32) hx hb hts inn_X9_early_9 hown hAB.1 hP 0 rfl rfl 17 (by decide) (hts (.fieldLink RX9 54 "BarnBenchModel" "begins" "[I") (by decide +kernel)) (fun _ h9 => h9) rfl dX9_early_72 ?_
                refine lv_iload_n hx hb dX9_early_75 rfl (lv_at hl 3 rfl) ?_
                refine va_iald hx hb hAB.1 hP 20 0 rfl rfl h.1 dX9_early_76 ?_
                have h := h.2
                refine lv_aload_n hx hb dX9_early_77 rfl (lv_at hl 0 rfl) ?_
                refine va_get (D := D) (ci := 9) (C := RX9) (T := TX9) (N := 32) hx hb hts inn_X9_early_9 hown hAB.1 hP 0 rfl rfl 17 (by decide) (hts (.fieldLink RX9 54 "BarnBenchModel" "begins" "[I") (by decide +kernel)) (fun _ h9 => h9) rfl dX9_early_78 ?_
                refine lv_iload hx hb dX9_early_81 (lv_at hl 4 rfl) ?_
                refine va_iald hx hb hAB.1 hP 20 0 rfl rfl h.1 dX9_early_83 ?_
                have h := h.2
                refine lv_aload_n hx hb dX9_early_84 rfl (lv_at hl 0 rfl) ?_
                refine va_get (D := D) (ci := 9) (C := RX9) (T := TX9) (N := 32) hx hb hts inn_X9_early_9 hown hAB.1 hP 0 rfl rfl 16 (by decide) (hts (.fieldLink RX9 51 "BarnBenchModel" "spans" "[I") (by decide +kernel)) (fun _ h9 => h9) rfl dX9_early_85 ?_
                refine lv_iload hx hb dX9_early_88 (lv_at hl 4 rfl) ?_
                refine va_iald hx hb hAB.1 hP 19 0 rfl rfl h.1 dX9_early_90 ?_
                have h := h.2
                refine lv_iadd hx hb dX9_early_91 ?_
                refine va_mmax (rest := [.int x3_8, .ref (ad 20)]) hx hb (by rw [hml]; exact hl.1.symm) hown (hts (.methodLink RX9 179 Lib.Math.max.name) (by decide +kernel)) (hts (.static Lib.Math.max.name) (by decide +kernel)) (hts (.initialized "java/lang/Math") (by decide +kernel)) (hts (.code Lib.Math.max.name Lib.Math.max.code 2 (some .int)) (by decide +kernel)) (Nat.le_of_ble_eq_true rfl) (Nat.le_of_ble_eq_true rfl) (Nat.zero_le _) (Nat.zero_le _) dX9_early_92 ?_
                refine sM_20 hx hb hAB hP hD hS h.1 dX9_early_95 (fun mBg_21 H locs e_22 hP hD hS => ?_)
                have h := h.2
                have h := h mBg_21 e_22
                exact B96 x4_12 mBg_21 h H locs ls hP hD hS (lv_sub hl [0, 1, 2, 3, 4] rfl)
        obtain ⟨n36, h⟩ := h
        refine L36 _ (fun mBg_14 h H locs ls hP hD hS hl => ?_) n36 0 mBg_10 h H locs ls hP hD hS (lv_sub hl [2, 3, 4, 1, 0] rfl)
        refine lv_iload_n hx hb dX9_early_102 rfl (lv_at hl 1 rfl) ?_
        refine lv_aload_n hx hb dX9_early_103 rfl (lv_at hl 0 rfl) ?_
        refine va_get (D := D) (ci := 9) (C := RX9) (T := TX9) (N := 32) hx hb hts inn_X9_early_9 hown hAB.1 hP 0 rfl rfl 17 (by decide) (hts (.fieldLink RX9 54 "BarnBenchModel" "begins" "[I") (by decide +kernel)) (fun _ h9 => h9) rfl dX9_early_104 ?_
        refine lv_iload_n hx hb dX9_early_107 rfl (lv_at hl 3 rfl) ?_
        refine va_iald hx hb hAB.1 hP 20 0 rfl rfl h.1 dX9_early_108 ?_
        have h := h.2
        refine lv_aload_n hx hb dX9_early_109 rfl (lv_at hl 0 rfl) ?_
        refine va_get (D := D) (ci := 9) (C := RX9) (T := TX9) (N := 32) hx hb hts inn_X9_early_9 hown hAB.1 hP 0 rfl rfl 16 (by decide) (hts (.fieldLink RX9 51 "BarnBenchModel" "spans" "[I") (by decide +kernel)) (fun _ h9 => h9) rfl dX9_early_110 ?_
        refine lv_iload_n hx hb dX9_early_113 rfl (lv_at hl 3 rfl) ?_
        refine va_iald hx hb hAB.1 hP 19 0 rfl rfl h.1 dX9_early_114 ?_
        have h := h.2
        refine lv_iadd hx hb dX9_early_115 ?_
        refine va_mmax (rest := []) hx hb (by rw [hml]; exact hl.1.symm) hown (hts (.methodLink RX9 179 Lib.Math.max.name) (by decide +kernel)) (hts (.static Lib.Math.max.name) (by decide +kernel)) (hts (.initialized "java/lang/Math") (by decide +kernel)) (hts (.code Lib.Math.max.name Lib.Math.max.code 2 (some .int)) (by decide +kernel)) (Nat.le_of_ble_eq_true rfl) (Nat.le_of_ble_eq_true rfl) (Nat.zero_le _) (Nat.zero_le _) dX9_early_116 ?_
        refine lv_topi (fun x1_23 e_24 => ?_)
        have h := h x1_23 e_24
        refine lv_istore_n (lv' := [(1, .int x1_23), (0, .ref (ad 0)), (2, .int x2_3), (3, .int x3_8)]) hx hb dX9_early_119 rfl hl (by decide) rfl (fun ls hl => ?_)
        obtain ⟨x2_25, e_26⟩ : ∃ y : Int32, y = x2_3 + 1 := ⟨_, rfl⟩
        have h := h x2_25 e_26
        refine lv_iinc (v := x2_25) (lv' := [(2, .int x2_25), (1, .int x1_23), (0, .ref (ad 0)), (3, .int x3_8)]) hx hb dX9_early_120 hl (k := 2) rfl (by rw [e_26]; rfl) (by decide) rfl (fun ls hl => ?_)
        refine lv_goto (tgt := 8) hx hb dX9_early_123 (by decide) ?_
        exact ih8 x1_23 x2_25 mBg_14 h H locs ls hP hD hS (lv_sub hl [2, 1, 0] rfl)
  obtain ⟨n8, h⟩ := h
  refine L8 _ (fun x1_5 mBg_6 h H locs ls hP hD hS hl => ?_) n8 0 0 mBg h H locs ls hP hD hS (lv_sub hl [2, 1, 0] rfl)
  refine lv_iload_n hx hb dX9_early_126 rfl (lv_at hl 0 rfl) ?_
  exact rt_i (mRw_1, mBg_6) hQ hx hb hr hlk hP hD hS ⟨Nat.zero_le _, Nat.zero_le _⟩ dX9_early_127 h
def wp_X9_earlyTold_L2 (pS : Nat → Int32) (pT : Int32) (x2 : (Nat → Int32) → Prop) : Nat → (Int32) → (Nat → Int32) → Prop
  | 0, _, _ => False
  | n2 + 1, x1_1, mSn_2 =>
  ((pT ≤ x1_1 → x2 mSn_2) ∧
   (¬ pT ≤ x1_1 → vp_in x1_1 12 ∧ vp_in x1_1 12 ∧ ∀ mSn_5 : Nat → Int32, mSn_5 = upd mSn_2 (Int32.toNatClampNeg x1_1) (pS (Int32.toNatClampNeg x1_1)) → ∀ x1_7 : Int32, x1_7 = x1_1 + 1 → (wp_X9_earlyTold_L2 pS pT x2 n2) x1_7 mSn_5))
def wp_X9_earlyTold (pT : Int32) (pF : Nat → Int32) (pS : Nat → Int32) (mRw : Nat → Int32) (mSn : Nat → Int32) (mBg : Nat → Int32)  (Qp : Int32 → (Nat → Int32) → (Nat → Int32) → (Nat → Int32) → Prop) : Prop :=
  (∃ n2 : Nat, wp_X9_earlyTold_L2 pS pT (fun (mSn_3 : Nat → Int32) => wp_X9_early pT pF mRw mSn_3 mBg (fun (r_9 : Int32) (mRw_10 : Nat → Int32) (mBg_11 : Nat → Int32) => Qp r_9 mRw_10 mSn_3 mBg_11)) n2 0 mSn)
theorem inn_X9_earlyTold_8 : ∀ w ∈ u_ws RX8 TX8 5, w ∈ wsX9_earlyTold := fun _ h => List.mem_cons_of_mem _ (List.mem_append_right _ h)
theorem inn_X9_earlyTold_9 : ∀ w ∈ u_ws RX9 TX9 32, w ∈ wsX9_earlyTold := fun _ h => List.mem_cons_of_mem _ (List.mem_append_left _ (List.mem_append_right _ h))
def rm_X9_earlyTold : Room := { frames := 3, cells := 0, slots := 0, locals := 71 }
set_option maxHeartbeats 4000000 in
set_option maxRecDepth 100000 in
theorem ct_X9_earlyTold {l : Launch} {D : va_G} {cI cJ cZ cE cD cK : ClassId} {ad : Nat → Nat} {ud : Nat → Nat → Nat} {pT : Int32} {pK : Nat → Int32} {pN : Nat → Int32} {pF : Nat → Int32} {pS : Nat → Int32} {qT : Int32} {qK : Nat → Int32} {qN : Nat → Int32} {qF : Nat → Int32} {qS : Nat → Int32} {mKe : Int32} {mUn : Int32} {mFi : Int32} {mRi : Int32} {mBe : Int64} {mWc : Int32} {mAK : Int32} {mSh : Int32} {mIP : Int32} {mUS : Nat → Int32} {mWa : Nat → Int32} {mWi : Nat → Int32} {mSi : Nat → Int32} {mRo : Nat → Int64} {mSp : Nat → Int64} {mRw : Nat → Int32} {mSn : Nat → Int32} {mBg : Nat → Int32} {mLa : Nat → Int32} {mMo : Nat → Int32} {mRm : Nat → Int64} {mOw : Nat → Int64} {mGo : Nat → Int32} {mFr : Nat → Int32} {mQu : Nat → Int32} {mCh : Nat → Int64} {mPB : Nat → Int32} {mPS : Nat → Int32} {mFs : Nat → Int32} {ub : Nat → Nat} {uT : Nat → Int32} {uK : Nat → Nat → Int32} {uN : Nat → Nat → Int32} {uF : Nat → Nat → Int32} {uS : Nat → Nat → Int32}    {Qp : Int32 → (Nat → Int32) → (Nat → Int32) → (Nat → Int32) → Prop}   (h : wp_X9_earlyTold pT pF pS mRw mSn mBg Qp) : CTi l yX9_earlyTold wsX9_earlyTold rm_X9_earlyTold D (tyL cI cJ cZ cE cD cK) [.ref (ad 0)] (WM cI cJ cZ cK ad ud pT pK pN pF pS qT qK qN qF qS mKe mUn mFi mRi mBe mWc mAK mSh mIP mUS mWa mWi mSi mRo mSp mRw mSn mBg mLa mMo mRm mOw mGo mFr mQu mCh mPB mPS mFs ub uT uK uN uF uS) (fun (r : Int32) (u : (Nat → Int32) × (Nat → Int32) × (Nat → Int32)) => Qp r u.1 u.2.1 u.2.2) (fun u : (Nat → Int32) × (Nat → Int32) × (Nat → Int32) => (WM cI cJ cZ cK ad ud pT pK pN pF pS qT qK qN qF qS mKe mUn mFi mRi mBe mWc mAK mSh mIP mUS mWa mWi mSi mRo mSp u.1 u.2.1 u.2.2 mLa mMo mRm mOw mGo mFr mQu mCh mPB mPS mFs ub uT uK uN uF uS)) 0 0 := by
  refine ent_i (cc := cX9_earlyTold) (maxL := 2) (ret := (some .int)) (by decide) rfl (Nat.le_of_ble_eq_true rfl) ?_
  intro p e s m args below meth c A Q hQ hx hb hr hml hown hts hlk hA hAB hP hD hS ls hl
  have hown : s.vm.findClass RX9 = some m.cls := hown
  have hl : lv_has ls 2 [(0, .ref (ad 0))] := hl
  generalize hH : s.heap = H at hP ⊢
  have hS : va_S A s.heap H [] := by rw [← hH]; exact hS
  clear hH
  generalize ([] : List Loc) = locs at hS ⊢
  refine lv_iconst (v := 0) hx hb dX9_earlyTold_0 (by decide) ?_
  refine lv_istore_n (lv' := [(1, .int 0), (0, .ref (ad 0))]) hx hb dX9_earlyTold_1 rfl hl (by decide) rfl (fun ls hl => ?_)
  have L2 : ∀ (x2 : (Nat → Int32) → Prop) (hk2 : ∀ (mSn_3 : Nat → Int32), x2 mSn_3 → ∀ (H : Heap) (locs : List Loc) (ls : Array Slot), va_P D vwCl (WM cI cJ cZ cK ad ud pT pK pN pF pS qT qK qN qF qS mKe mUn mFi mRi mBe mWc mAK mSh mIP mUS mWa mWi mSi mRo mSp mRw mSn_3 mBg mLa mMo mRm mOw mGo mFr mQu mCh mPB mPS mFs ub uT uK uN uF uS) H → va_D A (WM cI cJ cZ cK ad ud pT pK pN pF pS qT qK qN qF qS mKe mUn mFi mRi mBe mWc mAK mSh mIP mUS mWa mWi mSi mRo mSp mRw mSn_3 mBg mLa mMo mRm mOw mGo mFr mQu mCh mPB mPS mFs ub uT uK uN uF uS) → va_S A s.heap H locs → lv_has ls 2 [(0, .ref (ad 0))] → W p l e (headSpec wsX9_earlyTold rm_X9_earlyTold).room s m args below meth c H locs 0 0 Q (F0 m 34 ls [])) (n2 : Nat) (x1_1 : Int32) (mSn_2 : Nat → Int32), wp_X9_earlyTold_L2 pS pT x2 n2 x1_1 mSn_2 → ∀ (H : Heap) (locs : List Loc) (ls : Array Slot), va_P D vwCl (WM cI cJ cZ cK ad ud pT pK pN pF pS qT qK qN qF qS mKe mUn mFi mRi mBe mWc mAK mSh mIP mUS mWa mWi mSi mRo mSp mRw mSn_2 mBg mLa mMo mRm mOw mGo mFr mQu mCh mPB mPS mFs ub uT uK uN uF uS) H → va_D A (WM cI cJ cZ cK ad ud pT pK pN pF pS qT qK qN qF qS mKe mUn mFi mRi mBe mWc mAK mSh mIP mUS mWa mWi mSi mRo mSp mRw mSn_2 mBg mLa mMo mRm mOw mGo mFr mQu mCh mPB mPS mFs ub uT uK uN uF uS) → va_S A s.heap H locs → lv_has ls 2 [(0, .ref (ad 0)), (1, .int x1_1)] → W p l e (headSpec wsX9_earlyTold rm_X9_earlyTold).room s m args below meth c H locs 0 0 Q (F0 m 2 ls []) := by
    intro x2 hk2 n2
    induction n2 with
    | zero => intro x1_1 mSn_2 h; exact False.elim h
    | succ n2 ih2 =>
      intro x1_1 mSn_2 h H locs ls hP hD hS hl
      refine lv_iload_n hx hb dX9_earlyTold_2 rfl (lv_at hl 1 rfl) ?_
      refine lv_aload_n hx hb dX9_earlyTold_3 rfl (lv_at hl 0 rfl) ?_
      refine va_get (D := D) (ci := 9) (C := RX9) (T := TX9) (N := 32) hx hb hts inn_X9_earlyTold_9 hown hAB.1 hP 0 rfl rfl 0 (by decide) (hts (.fieldLink RX9 10 "BarnBenchModel" "b" "LBarnBenchModel$Book;") (by decide +kernel)) (fun _ h9 => h9) rfl dX9_earlyTold_4 ?_
      refine va_get (D := D) (ci := 8) (C := RX8) (T := TX8) (N := 5) hx hb hts inn_X9_earlyTold_8 hown hAB.1 hP 1 rfl rfl 0 (by decide) (hts (.fieldLink RX9 94 "BarnBenchModel$Book" "tasks" "I") (by decide +kernel)) (fun _ h9 => h9) rfl dX9_earlyTold_7 ?_
      refine lv_icmp_ge (tgt := 34) hx hb dX9_earlyTold_10 (by decide) (fun c_4 => ?_) (fun c_4 => ?_)
      · have h := h.1 c_4
        exact hk2 mSn_2 h H locs ls hP hD hS (lv_sub hl [0] rfl)
      · have h := h.2 c_4
        refine lv_aload_n hx hb dX9_earlyTold_13 rfl (lv_at hl 0 rfl) ?_
        refine va_get (D := D) (ci := 9) (C := RX9) (T := TX9) (N := 32) hx hb hts inn_X9_earlyTold_9 hown hAB.1 hP 0 rfl rfl 16 (by decide) (hts (.fieldLink RX9 51 "BarnBenchModel" "spans" "[I") (by decide +kernel)) (fun _ h9 => h9) rfl dX9_earlyTold_14 ?_
        refine lv_iload_n hx hb dX9_earlyTold_17 rfl (lv_at hl 1 rfl) ?_
        refine lv_aload_n hx hb dX9_earlyTold_18 rfl (lv_at hl 0 rfl) ?_
        refine va_get (D := D) (ci := 9) (C := RX9) (T := TX9) (N := 32) hx hb hts inn_X9_earlyTold_9 hown hAB.1 hP 0 rfl rfl 0 (by decide) (hts (.fieldLink RX9 10 "BarnBenchModel" "b" "LBarnBenchModel$Book;") (by decide +kernel)) (fun _ h9 => h9) rfl dX9_earlyTold_19 ?_
        refine va_get (D := D) (ci := 8) (C := RX8) (T := TX8) (N := 5) hx hb hts inn_X9_earlyTold_8 hown hAB.1 hP 1 rfl rfl 4 (by decide) (hts (.fieldLink RX9 150 "BarnBenchModel$Book" "spans" "[I") (by decide +kernel)) (fun _ h9 => h9) rfl dX9_earlyTold_22 ?_
        refine lv_iload_n hx hb dX9_earlyTold_25 rfl (lv_at hl 1 rfl) ?_
        refine va_iald hx hb hAB.1 hP 5 0 rfl rfl h.1 dX9_earlyTold_26 ?_
        have h := h.2
        refine sM_19 hx hb hAB hP hD hS h.1 dX9_earlyTold_27 (fun mSn_5 H locs e_6 hP hD hS => ?_)
        have h := h.2
        have h := h mSn_5 e_6
        obtain ⟨x1_7, e_8⟩ : ∃ y : Int32, y = x1_1 + 1 := ⟨_, rfl⟩
        have h := h x1_7 e_8
        refine lv_iinc (v := x1_7) (lv' := [(1, .int x1_7), (0, .ref (ad 0))]) hx hb dX9_earlyTold_28 hl (k := 1) rfl (by rw [e_8]; rfl) (by decide) rfl (fun ls hl => ?_)
        refine lv_goto (tgt := 2) hx hb dX9_earlyTold_31 (by decide) ?_
        exact ih2 x1_7 mSn_5 h H locs ls hP hD hS (lv_sub hl [1, 0] rfl)
  obtain ⟨n2, h⟩ := h
  refine L2 _ (fun mSn_3 h H locs ls hP hD hS hl => ?_) n2 0 mSn h H locs ls hP hD hS (lv_sub hl [1, 0] rfl)
  refine lv_aload_n hx hb dX9_earlyTold_34 rfl (lv_at hl 0 rfl) ?_
  refine cl_i hD hS hA (va_runV (As := []) (rest := []) ⟨hx, hb, hml, hown, hts⟩ (ct_X9_early h H.size) (cwV 0 hts gX9_earlyTold_X9_early rfl rfl rfl (by decide +kernel) ⟨Nat.le_of_ble_eq_true rfl, Nat.le_of_ble_eq_true rfl⟩) ⟨CPre.blind, va_recv hAB.1 hP (ci := 9) (q0 := 0) rfl rfl, wd_pre hAB hP hD hS hA⟩ rfl rfl hl.1 rfl (lv_room (Nat.le_of_ble_eq_true rfl)) dX9_earlyTold_35 ⟨Nat.zero_le _, Nat.zero_le _⟩) (fun r_9 u H locs h hP hD hS => ?_)
  obtain ⟨mRw_10, mBg_11⟩ := u
  have hP : va_P D vwCl (WM cI cJ cZ cK ad ud pT pK pN pF pS qT qK qN qF qS mKe mUn mFi mRi mBe mWc mAK mSh mIP mUS mWa mWi mSi mRo mSp mRw_10 mSn_3 mBg_11 mLa mMo mRm mOw mGo mFr mQu mCh mPB mPS mFs ub uT uK uN uF uS) H := hP
  have hD : va_D A (WM cI cJ cZ cK ad ud pT pK pN pF pS qT qK qN qF qS mKe mUn mFi mRi mBe mWc mAK mSh mIP mUS mWa mWi mSi mRo mSp mRw_10 mSn_3 mBg_11 mLa mMo mRm mOw mGo mFr mQu mCh mPB mPS mFs ub uT uK uN uF uS) := hD
  exact rt_i (mRw_10, mSn_3, mBg_11) hQ hx hb hr hlk hP hD hS ⟨Nat.zero_le _, Nat.zero_le _⟩ dX9_earlyTold_38 h
def wp_X9_length (pT : Int32) (pF : Nat → Int32) (pS : Nat → Int32) (mRw : Nat → Int32) (mSn : Nat → Int32) (mBg : Nat → Int32)  (Qp : Int32 → (Nat → Int32) → (Nat → Int32) → (Nat → Int32) → Prop) : Prop :=
  wp_X9_earlyTold pT pF pS mRw mSn mBg (fun (r_1 : Int32) (mRw_2 : Nat → Int32) (mSn_3 : Nat → Int32) (mBg_4 : Nat → Int32) => Qp r_1 mRw_2 mSn_3 mBg_4)
def rm_X9_length : Room := { frames := 4, cells := 0, slots := 0, locals := 92 }
set_option maxHeartbeats 4000000 in
set_option maxRecDepth 100000 in
theorem ct_X9_length {l : Launch} {D : va_G} {cI cJ cZ cE cD cK : ClassId} {ad : Nat → Nat} {ud : Nat → Nat → Nat} {pT : Int32} {pK : Nat → Int32} {pN : Nat → Int32} {pF : Nat → Int32} {pS : Nat → Int32} {qT : Int32} {qK : Nat → Int32} {qN : Nat → Int32} {qF : Nat → Int32} {qS : Nat → Int32} {mKe : Int32} {mUn : Int32} {mFi : Int32} {mRi : Int32} {mBe : Int64} {mWc : Int32} {mAK : Int32} {mSh : Int32} {mIP : Int32} {mUS : Nat → Int32} {mWa : Nat → Int32} {mWi : Nat → Int32} {mSi : Nat → Int32} {mRo : Nat → Int64} {mSp : Nat → Int64} {mRw : Nat → Int32} {mSn : Nat → Int32} {mBg : Nat → Int32} {mLa : Nat → Int32} {mMo : Nat → Int32} {mRm : Nat → Int64} {mOw : Nat → Int64} {mGo : Nat → Int32} {mFr : Nat → Int32} {mQu : Nat → Int32} {mCh : Nat → Int64} {mPB : Nat → Int32} {mPS : Nat → Int32} {mFs : Nat → Int32} {ub : Nat → Nat} {uT : Nat → Int32} {uK : Nat → Nat → Int32} {uN : Nat → Nat → Int32} {uF : Nat → Nat → Int32} {uS : Nat → Nat → Int32}    {Qp : Int32 → (Nat → Int32) → (Nat → Int32) → (Nat → Int32) → Prop}   (h : wp_X9_length pT pF pS mRw mSn mBg Qp) : CTi l yX9_length wsX9_length rm_X9_length D (tyL cI cJ cZ cE cD cK) [.ref (ad 0)] (WM cI cJ cZ cK ad ud pT pK pN pF pS qT qK qN qF qS mKe mUn mFi mRi mBe mWc mAK mSh mIP mUS mWa mWi mSi mRo mSp mRw mSn mBg mLa mMo mRm mOw mGo mFr mQu mCh mPB mPS mFs ub uT uK uN uF uS) (fun (r : Int32) (u : (Nat → Int32) × (Nat → Int32) × (Nat → Int32)) => Qp r u.1 u.2.1 u.2.2) (fun u : (Nat → Int32) × (Nat → Int32) × (Nat → Int32) => (WM cI cJ cZ cK ad ud pT pK pN pF pS qT qK qN qF qS mKe mUn mFi mRi mBe mWc mAK mSh mIP mUS mWa mWi mSi mRo mSp u.1 u.2.1 u.2.2 mLa mMo mRm mOw mGo mFr mQu mCh mPB mPS mFs ub uT uK uN uF uS)) 0 0 := by
  refine ent_i (cc := cX9_length) (maxL := 1) (ret := (some .int)) (by decide) rfl (Nat.le_of_ble_eq_true rfl) ?_
  intro p e s m args below meth c A Q hQ hx hb hr hml hown hts hlk hA hAB hP hD hS ls hl
  have hown : s.vm.findClass RX9 = some m.cls := hown
  have hl : lv_has ls 1 [(0, .ref (ad 0))] := hl
  generalize hH : s.heap = H at hP ⊢
  have hS : va_S A s.heap H [] := by rw [← hH]; exact hS
  clear hH
  generalize ([] : List Loc) = locs at hS ⊢
  refine lv_aload_n hx hb dX9_length_0 rfl (lv_at hl 0 rfl) ?_
  refine cl_i hD hS hA (va_runV (As := []) (rest := []) ⟨hx, hb, hml, hown, hts⟩ (ct_X9_earlyTold h H.size) (cwV 0 hts gX9_length_X9_earlyTold rfl rfl rfl (by decide +kernel) ⟨Nat.le_of_ble_eq_true rfl, Nat.le_of_ble_eq_true rfl⟩) ⟨CPre.blind, va_recv hAB.1 hP (ci := 9) (q0 := 0) rfl rfl, wd_pre hAB hP hD hS hA⟩ rfl rfl hl.1 rfl (lv_room (Nat.le_of_ble_eq_true rfl)) dX9_length_1 ⟨Nat.zero_le _, Nat.zero_le _⟩) (fun r_1 u H locs h hP hD hS => ?_)
  obtain ⟨mRw_2, mSn_3, mBg_4⟩ := u
  have hP : va_P D vwCl (WM cI cJ cZ cK ad ud pT pK pN pF pS qT qK qN qF qS mKe mUn mFi mRi mBe mWc mAK mSh mIP mUS mWa mWi mSi mRo mSp mRw_2 mSn_3 mBg_4 mLa mMo mRm mOw mGo mFr mQu mCh mPB mPS mFs ub uT uK uN uF uS) H := hP
  have hD : va_D A (WM cI cJ cZ cK ad ud pT pK pN pF pS qT qK qN qF qS mKe mUn mFi mRi mBe mWc mAK mSh mIP mUS mWa mWi mSi mRo mSp mRw_2 mSn_3 mBg_4 mLa mMo mRm mOw mGo mFr mQu mCh mPB mPS mFs ub uT uK uN uF uS) := hD
  exact rt_i (mRw_2, mSn_3, mBg_4) hQ hx hb hr hlk hP hD hS ⟨Nat.zero_le _, Nat.zero_le _⟩ dX9_length_4 h
def wp_X9_lateTold_b76 (k32 : (Int32) → (Int32) → Prop) (x4_16 : Int32) (x5_17 : Int32) : Prop :=
  ∀ x5_18 : Int32, x5_18 = x5_17 + 1 → k32 x4_16 x5_18
def wp_X9_lateTold_L32 (pF : Nat → Int32) (pT : Int32) (mLa_8 : Nat → Int32) (x3_11 : Int32) (x32 : (Int32) → Prop) : Nat → (Int32) → (Int32) → Prop
  | 0, _, _ => False
  | n32 + 1, x4_13, x5_14 =>
  ((pT ≤ x5_14 → x32 x4_13) ∧
   (¬ pT ≤ x5_14 → vp_in ((12 * x5_14) + x3_11) 144 ∧ (((pF (Int32.toNatClampNeg ((12 * x5_14) + x3_11))) = 0 → wp_X9_lateTold_b76 (wp_X9_lateTold_L32 pF pT mLa_8 x3_11 x32 n32) x4_13 x5_14) ∧
   (¬ (pF (Int32.toNatClampNeg ((12 * x5_14) + x3_11))) = 0 → vp_in x5_14 12 ∧ ∀ x4_22 : Int32, x4_22 = (if (mLa_8 (Int32.toNatClampNeg x5_14)) < x4_13 then (mLa_8 (Int32.toNatClampNeg x5_14)) else x4_13) → wp_X9_lateTold_b76 (wp_X9_lateTold_L32 pF pT mLa_8 x3_11 x32 n32) x4_22 x5_14))))
def wp_X9_lateTold_L15 (pF : Nat → Int32) (pT : Int32) (r_1 : Int32) (mRw_2 : Nat → Int32) (mSn_3 : Nat → Int32) (x15 : (Nat → Int32) → Prop) : Nat → (Int32) → (Nat → Int32) → Prop
  | 0, _, _ => False
  | n15 + 1, x2_7, mLa_8 =>
  ((x2_7 < 0 → x15 mLa_8) ∧
   (¬ x2_7 < 0 → vp_in x2_7 12 ∧ ∀ x3_11 : Int32, x3_11 = (mRw_2 (Int32.toNatClampNeg x2_7)) → (∃ n32 : Nat, wp_X9_lateTold_L32 pF pT mLa_8 x3_11 (fun (x4_15 : Int32) => vp_in x3_11 12 ∧ vp_in x3_11 12 ∧ ∀ mLa_24 : Nat → Int32, mLa_24 = upd mLa_8 (Int32.toNatClampNeg x3_11) (x4_15 - (mSn_3 (Int32.toNatClampNeg x3_11))) → ∀ x2_26 : Int32, x2_26 = x2_7 + (-1) → (wp_X9_lateTold_L15 pF pT r_1 mRw_2 mSn_3 x15 n15) x2_26 mLa_24) n32 r_1 0)))
def wp_X9_lateTold (pT : Int32) (pF : Nat → Int32) (pS : Nat → Int32) (mRw : Nat → Int32) (mSn : Nat → Int32) (mBg : Nat → Int32) (mLa : Nat → Int32)  (Qp : (Nat → Int32) → (Nat → Int32) → (Nat → Int32) → (Nat → Int32) → Prop) : Prop :=
  wp_X9_earlyTold pT pF pS mRw mSn mBg (fun (r_1 : Int32) (mRw_2 : Nat → Int32) (mSn_3 : Nat → Int32) (mBg_4 : Nat → Int32) => ∀ x2_5 : Int32, x2_5 = (pT - 1) → (∃ n15 : Nat, wp_X9_lateTold_L15 pF pT r_1 mRw_2 mSn_3 (fun (mLa_9 : Nat → Int32) => Qp mRw_2 mSn_3 mBg_4 mLa_9) n15 x2_5 mLa))
theorem inn_X9_lateTold_8 : ∀ w ∈ u_ws RX8 TX8 5, w ∈ wsX9_lateTold := fun _ h => List.mem_cons_of_mem _ (List.mem_append_right _ h)
theorem inn_X9_lateTold_9 : ∀ w ∈ u_ws RX9 TX9 32, w ∈ wsX9_lateTold := fun _ h => List.mem_cons_of_mem _ (List.mem_append_left _ (List.mem_append_right _ h))
def rm_X9_lateTold : Room := { frames := 4, cells := 0, slots := 0, locals := 92 }
set_option maxHeartbeats 4000000 in
set_option maxRecDepth 100000 in
theorem ct_X9_lateTold {l : Launch} {D : va_G} {cI cJ cZ cE cD cK : ClassId} {ad : Nat → Nat} {ud : Nat → Nat → Nat} {pT : Int32} {pK : Nat → Int32} {pN : Nat → Int32} {pF : Nat → Int32} {pS : Nat → Int32} {qT : Int32} {qK : Nat → Int32} {qN : Nat → Int32} {qF : Nat → Int32} {qS : Nat → Int32} {mKe : Int32} {mUn : Int32} {mFi : Int32} {mRi : Int32} {mBe : Int64} {mWc : Int32} {mAK : Int32} {mSh : Int32} {mIP : Int32} {mUS : Nat → Int32} {mWa : Nat → Int32} {mWi : Nat → Int32} {mSi : Nat → Int32} {mRo : Nat → Int64} {mSp : Nat → Int64} {mRw : Nat → Int32} {mSn : Nat → Int32} {mBg : Nat → Int32} {mLa : Nat → Int32} {mMo : Nat → Int32} {mRm : Nat → Int64} {mOw : Nat → Int64} {mGo : Nat → Int32} {mFr : Nat → Int32} {mQu : Nat → Int32} {mCh : Nat → Int64} {mPB : Nat → Int32} {mPS : Nat → Int32} {mFs : Nat → Int32} {ub : Nat → Nat} {uT : Nat → Int32} {uK : Nat → Nat → Int32} {uN : Nat → Nat → Int32} {uF : Nat → Nat → Int32} {uS : Nat → Nat → Int32}    {Qp : (Nat → Int32) → (Nat → Int32) → (Nat → Int32) → (Nat → Int32) → Prop}   (h : wp_X9_lateTold pT pF pS mRw mSn mBg mLa Qp) : CTv l yX9_lateTold wsX9_lateTold rm_X9_lateTold D (tyL cI cJ cZ cE cD cK) [.ref (ad 0)] (WM cI cJ cZ cK ad ud pT pK pN pF pS qT qK qN qF qS mKe mUn mFi mRi mBe mWc mAK mSh mIP mUS mWa mWi mSi mRo mSp mRw mSn mBg mLa mMo mRm mOw mGo mFr mQu mCh mPB mPS mFs ub uT uK uN uF uS) (fun u : (Nat → Int32) × (Nat → Int32) × (Nat → Int32) × (Nat → Int32) => Qp u.1 u.2.1 u.2.2.1 u.2.2.2) (fun u : (Nat → Int32) × (Nat → Int32) × (Nat → Int32) × (Nat → Int32) => (WM cI cJ cZ cK ad ud pT pK pN pF pS qT qK qN qF qS mKe mUn mFi mRi mBe mWc mAK mSh mIP mUS mWa mWi mSi mRo mSp u.1 u.2.1 u.2.2.1 u.2.2.2 mMo mRm mOw mGo mFr mQu mCh mPB mPS mFs ub uT uK uN uF uS)) 0 0 := by
  refine ent_v (cc := cX9_lateTold) (maxL := 6) (ret := none) (by decide) rfl (Nat.le_of_ble_eq_true rfl) ?_
  intro p e s m args below meth c A Q hQ hx hb hr hml hown hts hlk hA hAB hP hD hS ls hl
  have hown : s.vm.findClass RX9 = some m.cls := hown
  have hl : lv_has ls 6 [(0, .ref (ad 0))] := hl
  generalize hH : s.heap = H at hP ⊢
  have hS : va_S A s.heap H [] := by rw [← hH]; exact hS
  clear hH
  generalize ([] : List Loc) = locs at hS ⊢
  refine lv_aload_n hx hb dX9_lateTold_0 rfl (lv_at hl 0 rfl) ?_
  refine cl_i hD hS hA (va_runV (As := []) (rest := []) ⟨hx, hb, hml, hown, hts⟩ (ct_X9_earlyTold h H.size) (cwV 0 hts gX9_lateTold_X9_earlyTold rfl rfl rfl (by decide +kernel) ⟨Nat.le_of_ble_eq_true rfl, Nat.le_of_ble_eq_true rfl⟩) ⟨CPre.blind, va_recv hAB.1 hP (ci := 9) (q0 := 0) rfl rfl, wd_pre hAB hP hD hS hA⟩ rfl rfl hl.1 rfl (lv_room (Nat.le_of_ble_eq_true rfl)) dX9_lateTold_1 ⟨Nat.zero_le _, Nat.zero_le _⟩) (fun r_1 u H locs h hP hD hS => ?_)
  obtain ⟨mRw_2, mSn_3, mBg_4⟩ := u
  have hP : va_P D vwCl (WM cI cJ cZ cK ad ud pT pK pN pF pS qT qK qN qF qS mKe mUn mFi mRi mBe mWc mAK mSh mIP mUS mWa mWi mSi mRo mSp mRw_2 mSn_3 mBg_4 mLa mMo mRm mOw mGo mFr mQu mCh mPB mPS mFs ub uT uK uN uF uS) H := hP
  have hD : va_D A (WM cI cJ cZ cK ad ud pT pK pN pF pS qT qK qN qF qS mKe mUn mFi mRi mBe mWc mAK mSh mIP mUS mWa mWi mSi mRo mSp mRw_2 mSn_3 mBg_4 mLa mMo mRm mOw mGo mFr mQu mCh mPB mPS mFs ub uT uK uN uF uS) := hD
  refine lv_istore_n (lv' := [(1, .int r_1), (0, .ref (ad 0))]) hx hb dX9_lateTold_4 rfl hl (by decide) rfl (fun ls hl => ?_)
  refine lv_aload_n hx hb dX9_lateTold_5 rfl (lv_at hl 1 rfl) ?_
  refine va_get (D := D) (ci := 9) (C := RX9) (T := TX9) (N := 32) hx hb hts inn_X9_lateTold_9 hown hAB.1 hP 0 rfl rfl 0 (by decide) (hts (.fieldLink RX9 10 "BarnBenchModel" "b" "LBarnBenchModel$Book;") (by decide +kernel)) (fun _ h9 => h9) rfl dX9_lateTold_6 ?_
  refine va_get (D := D) (ci := 8) (C := RX8) (T := TX8) (N := 5) hx hb hts inn_X9_lateTold_8 hown hAB.1 hP 1 rfl rfl 0 (by decide) (hts (.fieldLink RX9 94 "BarnBenchModel$Book" "tasks" "I") (by decide +kernel)) (fun _ h9 => h9) rfl dX9_lateTold_9 ?_
  refine lv_iconst (v := 1) hx hb dX9_lateTold_12 (by decide) ?_
  refine lv_isub hx hb dX9_lateTold_13 ?_
  refine lv_topi (fun x2_5 e_6 => ?_)
  have h := h x2_5 e_6
  refine lv_istore_n (lv' := [(2, .int x2_5), (1, .int r_1), (0, .ref (ad 0))]) hx hb dX9_lateTold_14 rfl hl (by decide) rfl (fun ls hl => ?_)
  have L15 : ∀ (x15 : (Nat → Int32) → Prop) (hk15 : ∀ (mLa_9 : Nat → Int32), x15 mLa_9 → ∀ (H : Heap) (locs : List Loc) (ls : Array Slot), va_P D vwCl (WM cI cJ cZ cK ad ud pT pK pN pF pS qT qK qN qF qS mKe mUn mFi mRi mBe mWc mAK mSh mIP mUS mWa mWi mSi mRo mSp mRw_2 mSn_3 mBg_4 mLa_9 mMo mRm mOw mGo mFr mQu mCh mPB mPS mFs ub uT uK uN uF uS) H → va_D A (WM cI cJ cZ cK ad ud pT pK pN pF pS qT qK qN qF qS mKe mUn mFi mRi mBe mWc mAK mSh mIP mUS mWa mWi mSi mRo mSp mRw_2 mSn_3 mBg_4 mLa_9 mMo mRm mOw mGo mFr mQu mCh mPB mPS mFs ub uT uK uN uF uS) → va_S A s.heap H locs → lv_has ls 6 [] → W p l e (headSpec wsX9_lateTold rm_X9_lateTold).room s m args below meth c H locs 0 0 Q (F0 m 103 ls [])) (n15 : Nat) (x2_7 : Int32) (mLa_8 : Nat → Int32), wp_X9_lateTold_L15 pF pT r_1 mRw_2 mSn_3 x15 n15 x2_7 mLa_8 → ∀ (H : Heap) (locs : List Loc) (ls : Array Slot), va_P D vwCl (WM cI cJ cZ cK ad ud pT pK pN pF pS qT qK qN qF qS mKe mUn mFi mRi mBe mWc mAK mSh mIP mUS mWa mWi mSi mRo mSp mRw_2 mSn_3 mBg_4 mLa_8 mMo mRm mOw mGo mFr mQu mCh mPB mPS mFs ub uT uK uN uF uS) H → va_D A (WM cI cJ cZ cK ad ud pT pK pN pF pS qT qK qN qF qS mKe mUn mFi mRi mBe mWc mAK mSh mIP mUS mWa mWi mSi mRo mSp mRw_2 mSn_3 mBg_4 mLa_8 mMo mRm mOw mGo mFr mQu mCh mPB mPS mFs ub uT uK uN uF uS) → va_S A s.heap H locs → lv_has ls 6 [(0, .ref (ad 0)), (1, .int r_1), (2, .int x2_7)] → W p l e (headSpec wsX9_lateTold rm_X9_lateTold).room s m args below meth c H locs 0 0 Q (F0 m 15 ls []) := by
    intro x15 hk15 n15
    induction n15 with
    | zero => intro x2_7 mLa_8 h; exact False.elim h
    | succ n15 ih15 =>
      intro x2_7 mLa_8 h H locs ls hP hD hS hl
      refine lv_iload_n hx hb dX9_lateTold_15 rfl (lv_at hl 2 rfl) ?_
      refine lv_if_lt (tgt := 103) hx hb dX9_lateTold_16 (by decide) (fun c_10 => ?_) (fun c_10 => ?_)
      · have h := h.1 c_10
        exact hk15 mLa_8 h H locs ls hP hD hS (lv_sub hl [] rfl)
      · have h := h.2 c_10
        refine lv_aload_n hx hb dX9_lateTold_19 rfl (lv_at hl 0 rfl) ?_
        refine va_get (D := D) (ci := 9) (C := RX9) (T := TX9) (N := 32) hx hb hts inn_X9_lateTold_9 hown hAB.1 hP 0 rfl rfl 15 (by decide) (hts (.fieldLink RX9 48 "BarnBenchModel" "row" "[I") (by decide +kernel)) (fun _ h9 => h9) rfl dX9_lateTold_20 ?_
        refine lv_iload_n hx hb dX9_lateTold_23 rfl (lv_at hl 2 rfl) ?_
        refine va_iald hx hb hAB.1 hP 18 0 rfl rfl h.1 dX9_lateTold_24 ?_
        have h := h.2
        refine lv_topi (fun x3_11 e_12 => ?_)
        have h := h x3_11 e_12
        refine lv_istore_n (lv' := [(3, .int x3_11), (0, .ref (ad 0)), (1, .int r_1), (2, .int x2_7)]) hx hb dX9_lateTold_25 rfl hl (by decide) rfl (fun ls hl => ?_)
        refine lv_iload_n hx hb dX9_lateTold_26 rfl (lv_at hl 2 rfl) ?_
        refine lv_istore (lv' := [(4, .int r_1), (3, .int x3_11), (0, .ref (ad 0)), (1, .int r_1), (2, .int x2_7)]) hx hb dX9_lateTold_27 hl (by decide) rfl (fun ls hl => ?_)
        refine lv_iconst (v := 0) hx hb dX9_lateTold_29 (by decide) ?_
        refine lv_istore (lv' := [(5, .int 0), (4, .int r_1), (3, .int x3_11), (0, .ref (ad 0)), (1, .int r_1), (2, .int x2_7)]) hx hb dX9_lateTold_30 hl (by decide) rfl (fun ls hl => ?_)
        have L32 : ∀ (x32 : (Int32) → Prop) (hk32 : ∀ (x4_15 : Int32), x32 x4_15 → ∀ (H : Heap) (locs : List Loc) (ls : Array Slot), va_P D vwCl (WM cI cJ cZ cK ad ud pT pK pN pF pS qT qK qN qF qS mKe mUn mFi mRi mBe mWc mAK mSh mIP mUS mWa mWi mSi mRo mSp mRw_2 mSn_3 mBg_4 mLa_8 mMo mRm mOw mGo mFr mQu mCh mPB mPS mFs ub uT uK uN uF uS) H → va_D A (WM cI cJ cZ cK ad ud pT pK pN pF pS qT qK qN qF qS mKe mUn mFi mRi mBe mWc mAK mSh mIP mUS mWa mWi mSi mRo mSp mRw_2 mSn_3 mBg_4 mLa_8 mMo mRm mOw mGo mFr mQu mCh mPB mPS mFs ub uT uK uN uF uS) → va_S A s.heap H locs → lv_has ls 6 [(0, .ref (ad 0)), (1, .int r_1), (2, .int x2_7), (3, .int x3_11), (4, .int x4_15)] → W p l e (headSpec wsX9_lateTold rm_X9_lateTold).room s m args below meth c H locs 0 0 Q (F0 m 82 ls [])) (n32 : Nat) (x4_13 : Int32) (x5_14 : Int32), wp_X9_lateTold_L32 pF pT mLa_8 x3_11 x32 n32 x4_13 x5_14 → ∀ (H : Heap) (locs : List Loc) (ls : Array Slot), va_P D vwCl (WM cI cJ cZ cK ad ud pT pK pN pF pS qT qK qN qF qS mKe mUn mFi mRi mBe mWc mAK mSh mIP mUS mWa mWi mSi mRo mSp mRw_2 mSn_3 mBg_4 mLa_8 mMo mRm mOw mGo mFr mQu mCh mPB mPS mFs ub uT uK uN uF uS) H → va_D A (WM cI cJ cZ cK ad ud pT pK pN pF pS qT qK qN qF qS mKe mUn mFi mRi mBe mWc mAK mSh mIP mUS mWa mWi mSi mRo mSp mRw_2 mSn_3 mBg_4 mLa_8 mMo mRm mOw mGo mFr mQu mCh mPB mPS mFs ub uT uK uN uF uS) → va_S A s.heap H locs → lv_has ls 6 [(0, .ref (ad 0)), (1, .int r_1), (2, .int x2_7), (3, .int x3_11), (4, .int x4_13), (5, .int x5_14)] → W p l e (headSpec wsX9_lateTold rm_X9_lateTold).room s m args below meth c H locs 0 0 Q (F0 m 32 ls []) := by
          intro x32 hk32 n32
          induction n32 with
          | zero => intro x4_13 x5_14 h; exact False.elim h
          | succ n32 ih32 =>
            intro x4_13 x5_14 h H locs ls hP hD hS hl
            have B76 : ∀ (x4_16 : Int32) (x5_17 : Int32), wp_X9_lateTold_b76 (wp_X9_lateTold_L32 pF pT mLa_8 x3_11 x32 n32) x4_16 x5_17 → ∀ (H : Heap) (locs : List Loc) (ls : Array Slot), va_P D vwCl (WM cI cJ cZ cK ad ud pT pK pN pF pS qT qK qN qF qS mKe mUn mFi mRi mBe mWc mAK mSh mIP mUS mWa mWi mSi mRo mSp mRw_2 mSn_3 mBg_4 mLa_8 mMo mRm mOw mGo mFr mQu mCh mPB mPS mFs ub uT uK uN uF uS) H → va_D A (WM cI cJ cZ cK ad ud pT pK pN pF pS qT qK qN qF qS mKe mUn mFi mRi mBe mWc mAK mSh mIP mUS mWa mWi mSi mRo mSp mRw_2 mSn_3 mBg_4 mLa_8 mMo mRm mOw mGo mFr mQu mCh mPB mPS mFs ub uT uK uN uF uS) → va_S A s.heap H locs → lv_has ls 6 [(0, .ref (ad 0)), (1, .int r_1), (2, .int x2_7), (3, .int x3_11), (4, .int x4_16), (5, .int x5_17)] → W p l e (headSpec wsX9_lateTold rm_X9_lateTold).room s m args below meth c H locs 0 0 Q (F0 m 76 ls []) := by
              intro x4_16 x5_17 h H locs ls hP hD hS hl
              obtain ⟨x5_18, e_19⟩ : ∃ y : Int32, y = x5_17 + 1 := ⟨_, rfl⟩
              have h := h x5_18 e_19
              refine lv_iinc (v := x5_18) (lv' := [(5, .int x5_18), (0, .ref (ad 0)), (1, .int r_1), (2, .int x2_7), (3, .int x3_11), (4, .int x4_16)]) hx hb dX9_lateTold_76 hl (k := 5) rfl (by rw [e_19]; rfl) (by decide) rfl (fun ls hl => ?_)
              refine lv_goto (tgt := 32) hx hb dX9_lateTold_79 (by decide) ?_
              exact ih32 x4_16 x5_18 h H locs ls hP hD hS (lv_sub hl [1, 2, 3, 4, 5, 0] rfl)
            refine lv_iload hx hb dX9_lateTold_32 (lv_at hl 5 rfl) ?_
            refine lv_aload_n hx hb dX9_lateTold_34 rfl (lv_at hl 0 rfl) ?_
            refine va_get (D := D) (ci := 9) (C := RX9) (T := TX9) (N := 32) hx hb hts inn_X9_lateTold_9 hown hAB.1 hP 0 rfl rfl 0 (by decide) (hts (.fieldLink RX9 10 "BarnBenchModel" "b" "LBarnBenchModel$Book;") (by decide +kernel)) (fun _ h9 => h9) rfl dX9_lateTold_35 ?_
            refine va_get (D := D) (ci := 8) (C := RX8) (T := TX8) (N := 5) hx hb hts inn_X9_lateTold_8 hown hAB.1 hP 1 rfl rfl 0 (by decide) (hts (.fieldLink RX9 94 "BarnBenchModel$Book" "tasks" "I") (by decide +kernel)) (fun _ h9 => h9) rfl dX9_lateTold_38 ?_
            refine lv_icmp_ge (tgt := 82) hx hb dX9_lateTold_41 (by decide) (fun c_20 => ?_) (fun c_20 => ?_)
            · have h := h.1 c_20
              exact hk32 x4_13 h H locs ls hP hD hS (lv_sub hl [0, 1, 2, 3, 4] rfl)
            · have h := h.2 c_20
              refine lv_aload_n hx hb dX9_lateTold_44 rfl (lv_at hl 0 rfl) ?_
              refine va_get (D := D) (ci := 9) (C := RX9) (T := TX9) (N := 32) hx hb hts inn_X9_lateTold_9 hown hAB.1 hP 0 rfl rfl 0 (by decide) (hts (.fieldLink RX9 10 "BarnBenchModel" "b" "LBarnBenchModel$Book;") (by decide +kernel)) (fun _ h9 => h9) rfl dX9_lateTold_45 ?_
              refine va_get (D := D) (ci := 8) (C := RX8) (T := TX8) (N := 5) hx hb hts inn_X9_lateTold_8 hown hAB.1 hP 1 rfl rfl 3 (by decide) (hts (.fieldLink RX9 147 "BarnBenchModel$Book" "follows" "[Z") (by decide +kernel)) (fun _ h9 => h9) rfl dX9_lateTold_48 ?_
              refine lv_bipush (v := 12) hx hb dX9_lateTold_51 (by decide) ?_
              refine lv_iload hx hb dX9_lateTold_53 (lv_at hl 5 rfl) ?_
              refine lv_imul hx hb dX9_lateTold_55 ?_
              refine lv_iload_n hx hb dX9_lateTold_56 rfl (lv_at hl 3 rfl) ?_
              refine lv_iadd hx hb dX9_lateTold_57 ?_
              refine va_zald hx hb hAB.1 hP 4 2 rfl rfl h.1 dX9_lateTold_58 ?_
              have h := h.2
              refine lv_if_eq (tgt := 76) hx hb dX9_lateTold_59 (by decide) (fun c_21 => ?_) (fun c_21 => ?_)
              · have h := h.1 c_21
                exact B76 x4_13 x5_14 h H locs ls hP hD hS (lv_sub hl [0, 1, 2, 3, 4, 5] rfl)
              · have h := h.2 c_21
                refine lv_iload hx hb dX9_lateTold_62 (lv_at hl 4 rfl) ?_
                refine lv_aload_n hx hb dX9_lateTold_64 rfl (lv_at hl 0 rfl) ?_
                refine va_get (D := D) (ci := 9) (C := RX9) (T := TX9) (N := 32) hx hb hts inn_X9_lateTold_9 hown hAB.1 hP 0 rfl rfl 18 (by decide) (hts (.fieldLink RX9 57 "BarnBenchModel" "lates" "[I") (by decide +kernel)) (fun _ h9 => h9) rfl dX9_lateTold_65 ?_
                refine lv_iload hx hb dX9_lateTold_68 (lv_at hl 5 rfl) ?_
                refine va_iald hx hb hAB.1 hP 21 0 rfl rfl h.1 dX9_lateTold_70 ?_
                have h := h.2
                refine va_mmin (rest := []) hx hb (by rw [hml]; exact hl.1.symm) hown (hts (.methodLink RX9 191 Lib.Math.min.name) (by decide +kernel)) (hts (.static Lib.Math.min.name) (by decide +kernel)) (hts (.initialized "java/lang/Math") (by decide +kernel)) (hts (.code Lib.Math.min.name Lib.Math.min.code 2 (some .int)) (by decide +kernel)) (Nat.le_of_ble_eq_true rfl) (Nat.le_of_ble_eq_true rfl) (Nat.zero_le _) (Nat.zero_le _) dX9_lateTold_71 ?_
                refine lv_topi (fun x4_22 e_23 => ?_)
                have h := h x4_22 e_23
                refine lv_istore (lv' := [(4, .int x4_22), (0, .ref (ad 0)), (1, .int r_1), (2, .int x2_7), (3, .int x3_11), (5, .int x5_14)]) hx hb dX9_lateTold_74 hl (by decide) rfl (fun ls hl => ?_)
                exact B76 x4_22 x5_14 h H locs ls hP hD hS (lv_sub hl [1, 2, 3, 4, 0, 5] rfl)
        obtain ⟨n32, h⟩ := h
        refine L32 _ (fun x4_15 h H locs ls hP hD hS hl => ?_) n32 r_1 0 h H locs ls hP hD hS (lv_sub hl [3, 4, 5, 2, 1, 0] rfl)
        refine lv_aload_n hx hb dX9_lateTold_82 rfl (lv_at hl 0 rfl) ?_
        refine va_get (D := D) (ci := 9) (C := RX9) (T := TX9) (N := 32) hx hb hts inn_X9_lateTold_9 hown hAB.1 hP 0 rfl rfl 18 (by decide) (hts (.fieldLink RX9 57 "BarnBenchModel" "lates" "[I") (by decide +kernel)) (fun _ h9 => h9) rfl dX9_lateTold_83 ?_
        refine lv_iload_n hx hb dX9_lateTold_86 rfl (lv_at hl 3 rfl) ?_
        refine lv_iload hx hb dX9_lateTold_87 (lv_at hl 4 rfl) ?_
        refine lv_aload_n hx hb dX9_lateTold_89 rfl (lv_at hl 0 rfl) ?_
        refine va_get (D := D) (ci := 9) (C := RX9) (T := TX9) (N := 32) hx hb hts inn_X9_lateTold_9 hown hAB.1 hP 0 rfl rfl 16 (by decide) (hts (.fieldLink RX9 51 "BarnBenchModel" "spans" "[I") (by decide +kernel)) (fun _ h9 => h9) rfl dX9_lateTold_90 ?_
        refine lv_iload_n hx hb dX9_lateTold_93 rfl (lv_at hl 3 rfl) ?_
        refine va_iald hx hb hAB.1 hP 19 0 rfl rfl h.1 dX9_lateTold_94 ?_
        have h := h.2
        refine lv_isub hx hb dX9_lateTold_95 ?_
        refine sM_21 hx hb hAB hP hD hS h.1 dX9_lateTold_96 (fun mLa_24 H locs e_25 hP hD hS => ?_)
        have h := h.2
        have h := h mLa_24 e_25
        obtain ⟨x2_26, e_27⟩ : ∃ y : Int32, y = x2_7 + (-1) := ⟨_, rfl⟩
        have h := h x2_26 e_27
        refine lv_iinc (v := x2_26) (lv' := [(2, .int x2_26), (0, .ref (ad 0)), (1, .int r_1), (3, .int x3_11), (4, .int x4_15)]) hx hb dX9_lateTold_97 hl (k := 2) rfl (by rw [e_27]; rfl) (by decide) rfl (fun ls hl => ?_)
        refine lv_goto (tgt := 15) hx hb dX9_lateTold_100 (by decide) ?_
        exact ih15 x2_26 mLa_24 h H locs ls hP hD hS (lv_sub hl [1, 2, 0] rfl)
  obtain ⟨n15, h⟩ := h
  refine L15 _ (fun mLa_9 h H locs ls hP hD hS hl => ?_) n15 x2_5 mLa h H locs ls hP hD hS (lv_sub hl [2, 1, 0] rfl)
  exact rt_v (mRw_2, mSn_3, mBg_4, mLa_9) hQ hx hb hr hlk hP hD hS ⟨Nat.zero_le _, Nat.zero_le _⟩ dX9_lateTold_103 h
def wp_X9_early_ (pT : Int32) (pF : Nat → Int32) (pS : Nat → Int32) (mFi : Int32) (mRw : Nat → Int32) (mSn : Nat → Int32) (mBg : Nat → Int32) (mLa : Nat → Int32) (a1 : Int32) (a2 : Int32) (Qp : Int32 → (Int32) → (Nat → Int32) → (Nat → Int32) → (Nat → Int32) → (Nat → Int32) → Prop) : Prop :=
  wp_X9_isTask pT a1 (fun (r_1 : Int32) => ((¬ r_1 = 0 → wp_X9_lateTold pT pF pS mRw mSn mBg mLa (fun (mRw_3 : Nat → Int32) (mSn_4 : Nat → Int32) (mBg_5 : Nat → Int32) (mLa_6 : Nat → Int32) => ((a2 = 0 → vp_in a1 12 ∧ Qp (mBg_5 (Int32.toNatClampNeg a1)) mFi mRw_3 mSn_4 mBg_5 mLa_6) ∧
   (¬ a2 = 0 → vp_in a1 12 ∧ Qp (mLa_6 (Int32.toNatClampNeg a1)) mFi mRw_3 mSn_4 mBg_5 mLa_6)))) ∧
   (r_1 = 0 → wp_X9_found mFi (-1) (fun (r_8 : Int32) (mFi_9 : Int32) => Qp r_8 mFi_9 mRw mSn mBg mLa))))
theorem inn_X9_early__9 : ∀ w ∈ u_ws RX9 TX9 32, w ∈ wsX9_early_ := fun _ h => List.mem_cons_of_mem _ (List.mem_append_left _ (List.mem_append_right _ h))
def rm_X9_early_ : Room := { frames := 5, cells := 0, slots := 0, locals := 117 }
set_option maxHeartbeats 4000000 in
set_option maxRecDepth 100000 in
theorem ct_X9_early_ {l : Launch} {D : va_G} {cI cJ cZ cE cD cK : ClassId} {ad : Nat → Nat} {ud : Nat → Nat → Nat} {pT : Int32} {pK : Nat → Int32} {pN : Nat → Int32} {pF : Nat → Int32} {pS : Nat → Int32} {qT : Int32} {qK : Nat → Int32} {qN : Nat → Int32} {qF : Nat → Int32} {qS : Nat → Int32} {mKe : Int32} {mUn : Int32} {mFi : Int32} {mRi : Int32} {mBe : Int64} {mWc : Int32} {mAK : Int32} {mSh : Int32} {mIP : Int32} {mUS : Nat → Int32} {mWa : Nat → Int32} {mWi : Nat → Int32} {mSi : Nat → Int32} {mRo : Nat → Int64} {mSp : Nat → Int64} {mRw : Nat → Int32} {mSn : Nat → Int32} {mBg : Nat → Int32} {mLa : Nat → Int32} {mMo : Nat → Int32} {mRm : Nat → Int64} {mOw : Nat → Int64} {mGo : Nat → Int32} {mFr : Nat → Int32} {mQu : Nat → Int32} {mCh : Nat → Int64} {mPB : Nat → Int32} {mPS : Nat → Int32} {mFs : Nat → Int32} {ub : Nat → Nat} {uT : Nat → Int32} {uK : Nat → Nat → Int32} {uN : Nat → Nat → Int32} {uF : Nat → Nat → Int32} {uS : Nat → Nat → Int32}   {a1 : Int32} {a2 : Int32} {Qp : Int32 → (Int32) → (Nat → Int32) → (Nat → Int32) → (Nat → Int32) → (Nat → Int32) → Prop}   (h : wp_X9_early_ pT pF pS mFi mRw mSn mBg mLa a1 a2 Qp) : CTi l yX9_early_ wsX9_early_ rm_X9_early_ D (tyL cI cJ cZ cE cD cK) [.ref (ad 0), .int a1, .int a2] (WM cI cJ cZ cK ad ud pT pK pN pF pS qT qK qN qF qS mKe mUn mFi mRi mBe mWc mAK mSh mIP mUS mWa mWi mSi mRo mSp mRw mSn mBg mLa mMo mRm mOw mGo mFr mQu mCh mPB mPS mFs ub uT uK uN uF uS) (fun (r : Int32) (u : (Int32) × (Nat → Int32) × (Nat → Int32) × (Nat → Int32) × (Nat → Int32)) => Qp r u.1 u.2.1 u.2.2.1 u.2.2.2.1 u.2.2.2.2) (fun u : (Int32) × (Nat → Int32) × (Nat → Int32) × (Nat → Int32) × (Nat → Int32) => (WM cI cJ cZ cK ad ud pT pK pN pF pS qT qK qN qF qS mKe mUn u.1 mRi mBe mWc mAK mSh mIP mUS mWa mWi mSi mRo mSp u.2.1 u.2.2.1 u.2.2.2.1 u.2.2.2.2 mMo mRm mOw mGo mFr mQu mCh mPB mPS mFs ub uT uK uN uF uS)) 0 0 := by
  refine ent_i (cc := cX9_early_) (maxL := 3) (ret := (some .int)) (by decide) rfl (Nat.le_of_ble_eq_true rfl) ?_
  intro p e s m args below meth c A Q hQ hx hb hr hml hown hts hlk hA hAB hP hD hS ls hl
  have hown : s.vm.findClass RX9 = some m.cls := hown
  have hl : lv_has ls 3 [(0, .ref (ad 0)), (1, .int a1), (2, .int a2)] := hl
  generalize hH : s.heap = H at hP ⊢
  have hS : va_S A s.heap H [] := by rw [← hH]; exact hS
  clear hH
  generalize ([] : List Loc) = locs at hS ⊢
  refine lv_aload_n hx hb dX9_early__0 rfl (lv_at hl 0 rfl) ?_
  refine lv_iload_n hx hb dX9_early__1 rfl (lv_at hl 1 rfl) ?_
  refine cl_i hD hS hA (va_runV (As := [.int a1]) (rest := []) ⟨hx, hb, hml, hown, hts⟩ (ct_X9_isTask h H.size) (cwV 1 hts gX9_early__X9_isTask rfl rfl rfl (by decide +kernel) ⟨Nat.le_of_ble_eq_true rfl, Nat.le_of_ble_eq_true rfl⟩) ⟨CPre.blind, va_recv hAB.1 hP (ci := 9) (q0 := 0) rfl rfl, wd_pre hAB hP hD hS hA⟩ rfl rfl hl.1 rfl (lv_room (Nat.le_of_ble_eq_true rfl)) dX9_early__2 ⟨Nat.zero_le _, Nat.zero_le _⟩) (fun r_1 u H locs h hP hD hS => ?_)
  refine lv_if_ne (tgt := 14) hx hb dX9_early__5 (by decide) (fun c_2 => ?_) (fun c_2 => ?_)
  · have h := h.1 c_2
    refine lv_aload_n hx hb dX9_early__14 rfl (lv_at hl 0 rfl) ?_
    refine cl_v hD hS hA (va_runV (As := []) (rest := []) ⟨hx, hb, hml, hown, hts⟩ (ct_X9_lateTold h H.size) (cwV 0 hts gX9_early__X9_lateTold rfl rfl rfl (by decide +kernel) ⟨Nat.le_of_ble_eq_true rfl, Nat.le_of_ble_eq_true rfl⟩) ⟨CPre.blind, va_recv hAB.1 hP (ci := 9) (q0 := 0) rfl rfl, wd_pre hAB hP hD hS hA⟩ rfl rfl hl.1 rfl (lv_room (Nat.le_of_ble_eq_true rfl)) dX9_early__15 ⟨Nat.zero_le _, Nat.zero_le _⟩) (fun u H locs h hP hD hS => ?_)
    obtain ⟨mRw_3, mSn_4, mBg_5, mLa_6⟩ := u
    have hP : va_P D vwCl (WM cI cJ cZ cK ad ud pT pK pN pF pS qT qK qN qF qS mKe mUn mFi mRi mBe mWc mAK mSh mIP mUS mWa mWi mSi mRo mSp mRw_3 mSn_4 mBg_5 mLa_6 mMo mRm mOw mGo mFr mQu mCh mPB mPS mFs ub uT uK uN uF uS) H := hP
    have hD : va_D A (WM cI cJ cZ cK ad ud pT pK pN pF pS qT qK qN qF qS mKe mUn mFi mRi mBe mWc mAK mSh mIP mUS mWa mWi mSi mRo mSp mRw_3 mSn_4 mBg_5 mLa_6 mMo mRm mOw mGo mFr mQu mCh mPB mPS mFs ub uT uK uN uF uS) := hD
    refine lv_iload_n hx hb dX9_early__18 rfl (lv_at hl 2 rfl) ?_
    refine lv_if_eq (tgt := 31) hx hb dX9_early__19 (by decide) (fun c_7 => ?_) (fun c_7 => ?_)
    · have h := h.1 c_7
      refine lv_aload_n hx hb dX9_early__31 rfl (lv_at hl 0 rfl) ?_
      refine va_get (D := D) (ci := 9) (C := RX9) (T := TX9) (N := 32) hx hb hts inn_X9_early__9 hown hAB.1 hP 0 rfl rfl 17 (by decide) (hts (.fieldLink RX9 54 "BarnBenchModel" "begins" "[I") (by decide +kernel)) (fun _ h9 => h9) rfl dX9_early__32 ?_
      refine lv_iload_n hx hb dX9_early__35 rfl (lv_at hl 1 rfl) ?_
      refine va_iald hx hb hAB.1 hP 20 0 rfl rfl h.1 dX9_early__36 ?_
      have h := h.2
      exact rt_i (mFi, mRw_3, mSn_4, mBg_5, mLa_6) hQ hx hb hr hlk hP hD hS ⟨Nat.zero_le _, Nat.zero_le _⟩ dX9_early__37 h
    · have h := h.2 c_7
      refine lv_aload_n hx hb dX9_early__22 rfl (lv_at hl 0 rfl) ?_
      refine va_get (D := D) (ci := 9) (C := RX9) (T := TX9) (N := 32) hx hb hts inn_X9_early__9 hown hAB.1 hP 0 rfl rfl 18 (by decide) (hts (.fieldLink RX9 57 "BarnBenchModel" "lates" "[I") (by decide +kernel)) (fun _ h9 => h9) rfl dX9_early__23 ?_
      refine lv_iload_n hx hb dX9_early__26 rfl (lv_at hl 1 rfl) ?_
      refine va_iald hx hb hAB.1 hP 21 0 rfl rfl h.1 dX9_early__27 ?_
      have h := h.2
      refine lv_goto (tgt := 37) hx hb dX9_early__28 (by decide) ?_
      exact rt_i (mFi, mRw_3, mSn_4, mBg_5, mLa_6) hQ hx hb hr hlk hP hD hS ⟨Nat.zero_le _, Nat.zero_le _⟩ dX9_early__37 h
  · have h := h.2 c_2
    refine lv_aload_n hx hb dX9_early__8 rfl (lv_at hl 0 rfl) ?_
    refine lv_iconst (v := (-1)) hx hb dX9_early__9 (by decide) ?_
    refine cl_i hD hS hA (va_runV (As := [.int (-1)]) (rest := []) ⟨hx, hb, hml, hown, hts⟩ (ct_X9_found h H.size) (cwV 1 hts gX9_early__X9_found rfl rfl rfl (by decide +kernel) ⟨Nat.le_of_ble_eq_true rfl, Nat.le_of_ble_eq_true rfl⟩) ⟨CPre.blind, va_recv hAB.1 hP (ci := 9) (q0 := 0) rfl rfl, wd_pre hAB hP hD hS hA⟩ rfl rfl hl.1 rfl (lv_room (Nat.le_of_ble_eq_true rfl)) dX9_early__10 ⟨Nat.zero_le _, Nat.zero_le _⟩) (fun r_8 mFi_9 H locs h hP hD hS => ?_)
    have hP : va_P D vwCl (WM cI cJ cZ cK ad ud pT pK pN pF pS qT qK qN qF qS mKe mUn mFi_9 mRi mBe mWc mAK mSh mIP mUS mWa mWi mSi mRo mSp mRw mSn mBg mLa mMo mRm mOw mGo mFr mQu mCh mPB mPS mFs ub uT uK uN uF uS) H := hP
    have hD : va_D A (WM cI cJ cZ cK ad ud pT pK pN pF pS qT qK qN qF qS mKe mUn mFi_9 mRi mBe mWc mAK mSh mIP mUS mWa mWi mSi mRo mSp mRw mSn mBg mLa mMo mRm mOw mGo mFr mQu mCh mPB mPS mFs ub uT uK uN uF uS) := hD
    exact rt_i (mFi_9, mRw, mSn, mBg, mLa) hQ hx hb hr hlk hP hD hS ⟨Nat.zero_le _, Nat.zero_le _⟩ dX9_early__13 h
def wp_X9_tight_b42 (k8 : (Int32) → (Int32) → Prop) (y_9 : Int32) (y_10 : Int32) (x2_8 : Int32) : Prop :=
  ∀ x1_11 : Int32, x1_11 = (y_9 ||| y_10) → ∀ x2_13 : Int32, x2_13 = x2_8 + 1 → k8 x1_11 x2_13
def wp_X9_tight_L8 (pT : Int32) (mBg_3 : Nat → Int32) (mLa_4 : Nat → Int32) (x8 : (Int32) → Prop) : Nat → (Int32) → (Int32) → Prop
  | 0, _, _ => False
  | n8 + 1, x1_5, x2_6 =>
  ((pT ≤ x2_6 → x8 x1_5) ∧
   (¬ pT ≤ x2_6 → vp_in x2_6 12 ∧ vp_in x2_6 12 ∧ ((¬ (mBg_3 (Int32.toNatClampNeg x2_6)) = (mLa_4 (Int32.toNatClampNeg x2_6)) → wp_X9_tight_b42 (wp_X9_tight_L8 pT mBg_3 mLa_4 x8 n8) x1_5 0 x2_6) ∧
   ((mBg_3 (Int32.toNatClampNeg x2_6)) = (mLa_4 (Int32.toNatClampNeg x2_6)) → wp_X9_tight_b42 (wp_X9_tight_L8 pT mBg_3 mLa_4 x8 n8) x1_5 (1 <<< (x2_6 &&& 31)) x2_6))))
def wp_X9_tight (pT : Int32) (pF : Nat → Int32) (pS : Nat → Int32) (mRw : Nat → Int32) (mSn : Nat → Int32) (mBg : Nat → Int32) (mLa : Nat → Int32)  (Qp : Int32 → (Nat → Int32) → (Nat → Int32) → (Nat → Int32) → (Nat → Int32) → Prop) : Prop :=
  wp_X9_lateTold pT pF pS mRw mSn mBg mLa (fun (mRw_1 : Nat → Int32) (mSn_2 : Nat → Int32) (mBg_3 : Nat → Int32) (mLa_4 : Nat → Int32) => (∃ n8 : Nat, wp_X9_tight_L8 pT mBg_3 mLa_4 (fun (x1_7 : Int32) => Qp x1_7 mRw_1 mSn_2 mBg_3 mLa_4) n8 0 0))
theorem inn_X9_tight_8 : ∀ w ∈ u_ws RX8 TX8 5, w ∈ wsX9_tight := fun _ h => List.mem_cons_of_mem _ (List.mem_append_right _ h)
theorem inn_X9_tight_9 : ∀ w ∈ u_ws RX9 TX9 32, w ∈ wsX9_tight := fun _ h => List.mem_cons_of_mem _ (List.mem_append_left _ (List.mem_append_right _ h))
def rm_X9_tight : Room := { frames := 5, cells := 0, slots := 0, locals := 117 }
set_option maxHeartbeats 4000000 in
set_option maxRecDepth 100000 in
theorem ct_X9_tight {l : Launch} {D : va_G} {cI cJ cZ cE cD cK : ClassId} {ad : Nat → Nat} {ud : Nat → Nat → Nat} {pT : Int32} {pK : Nat → Int32} {pN : Nat → Int32} {pF : Nat → Int32} {pS : Nat → Int32} {qT : Int32} {qK : Nat → Int32} {qN : Nat → Int32} {qF : Nat → Int32} {qS : Nat → Int32} {mKe : Int32} {mUn : Int32} {mFi : Int32} {mRi : Int32} {mBe : Int64} {mWc : Int32} {mAK : Int32} {mSh : Int32} {mIP : Int32} {mUS : Nat → Int32} {mWa : Nat → Int32} {mWi : Nat → Int32} {mSi : Nat → Int32} {mRo : Nat → Int64} {mSp : Nat → Int64} {mRw : Nat → Int32} {mSn : Nat → Int32} {mBg : Nat → Int32} {mLa : Nat → Int32} {mMo : Nat → Int32} {mRm : Nat → Int64} {mOw : Nat → Int64} {mGo : Nat → Int32} {mFr : Nat → Int32} {mQu : Nat → Int32} {mCh : Nat → Int64} {mPB : Nat → Int32} {mPS : Nat → Int32} {mFs : Nat → Int32} {ub : Nat → Nat} {uT : Nat → Int32} {uK : Nat → Nat → Int32} {uN : Nat → Nat → Int32} {uF : Nat → Nat → Int32} {uS : Nat → Nat → Int32}    {Qp : Int32 → (Nat → Int32) → (Nat → Int32) → (Nat → Int32) → (Nat → Int32) → Prop}   (h : wp_X9_tight pT pF pS mRw mSn mBg mLa Qp) : CTi l yX9_tight wsX9_tight rm_X9_tight D (tyL cI cJ cZ cE cD cK) [.ref (ad 0)] (WM cI cJ cZ cK ad ud pT pK pN pF pS qT qK qN qF qS mKe mUn mFi mRi mBe mWc mAK mSh mIP mUS mWa mWi mSi mRo mSp mRw mSn mBg mLa mMo mRm mOw mGo mFr mQu mCh mPB mPS mFs ub uT uK uN uF uS) (fun (r : Int32) (u : (Nat → Int32) × (Nat → Int32) × (Nat → Int32) × (Nat → Int32)) => Qp r u.1 u.2.1 u.2.2.1 u.2.2.2) (fun u : (Nat → Int32) × (Nat → Int32) × (Nat → Int32) × (Nat → Int32) => (WM cI cJ cZ cK ad ud pT pK pN pF pS qT qK qN qF qS mKe mUn mFi mRi mBe mWc mAK mSh mIP mUS mWa mWi mSi mRo mSp u.1 u.2.1 u.2.2.1 u.2.2.2 mMo mRm mOw mGo mFr mQu mCh mPB mPS mFs ub uT uK uN uF uS)) 0 0 := by
  refine ent_i (cc := cX9_tight) (maxL := 3) (ret := (some .int)) (by decide) rfl (Nat.le_of_ble_eq_true rfl) ?_
  intro p e s m args below meth c A Q hQ hx hb hr hml hown hts hlk hA hAB hP hD hS ls hl
  have hown : s.vm.findClass RX9 = some m.cls := hown
  have hl : lv_has ls 3 [(0, .ref (ad 0))] := hl
  generalize hH : s.heap = H at hP ⊢
  have hS : va_S A s.heap H [] := by rw [← hH]; exact hS
  clear hH
  generalize ([] : List Loc) = locs at hS ⊢
  refine lv_aload_n hx hb dX9_tight_0 rfl (lv_at hl 0 rfl) ?_
  refine cl_v hD hS hA (va_runV (As := []) (rest := []) ⟨hx, hb, hml, hown, hts⟩ (ct_X9_lateTold h H.size) (cwV 0 hts gX9_tight_X9_lateTold rfl rfl rfl (by decide +kernel) ⟨Nat.le_of_ble_eq_true rfl, Nat.le_of_ble_eq_true rfl⟩) ⟨CPre.blind, va_recv hAB.1 hP (ci := 9) (q0 := 0) rfl rfl, wd_pre hAB hP hD hS hA⟩ rfl rfl hl.1 rfl (lv_room (Nat.le_of_ble_eq_true rfl)) dX9_tight_1 ⟨Nat.zero_le _, Nat.zero_le _⟩) (fun u H locs h hP hD hS => ?_)
  obtain ⟨mRw_1, mSn_2, mBg_3, mLa_4⟩ := u
  have hP : va_P D vwCl (WM cI cJ cZ cK ad ud pT pK pN pF pS qT qK qN qF qS mKe mUn mFi mRi mBe mWc mAK mSh mIP mUS mWa mWi mSi mRo mSp mRw_1 mSn_2 mBg_3 mLa_4 mMo mRm mOw mGo mFr mQu mCh mPB mPS mFs ub uT uK uN uF uS) H := hP
  have hD : va_D A (WM cI cJ cZ cK ad ud pT pK pN pF pS qT qK qN qF qS mKe mUn mFi mRi mBe mWc mAK mSh mIP mUS mWa mWi mSi mRo mSp mRw_1 mSn_2 mBg_3 mLa_4 mMo mRm mOw mGo mFr mQu mCh mPB mPS mFs ub uT uK uN uF uS) := hD
  refine lv_iconst (v := 0) hx hb dX9_tight_4 (by decide) ?_
  refine lv_istore_n (lv' := [(1, .int 0), (0, .ref (ad 0))]) hx hb dX9_tight_5 rfl hl (by decide) rfl (fun ls hl => ?_)
  refine lv_iconst (v := 0) hx hb dX9_tight_6 (by decide) ?_
  refine lv_istore_n (lv' := [(2, .int 0), (1, .int 0), (0, .ref (ad 0))]) hx hb dX9_tight_7 rfl hl (by decide) rfl (fun ls hl => ?_)
  have L8 : ∀ (x8 : (Int32) → Prop) (hk8 : ∀ (x1_7 : Int32), x8 x1_7 → ∀ (H : Heap) (locs : List Loc) (ls : Array Slot), va_P D vwCl (WM cI cJ cZ cK ad ud pT pK pN pF pS qT qK qN qF qS mKe mUn mFi mRi mBe mWc mAK mSh mIP mUS mWa mWi mSi mRo mSp mRw_1 mSn_2 mBg_3 mLa_4 mMo mRm mOw mGo mFr mQu mCh mPB mPS mFs ub uT uK uN uF uS) H → va_D A (WM cI cJ cZ cK ad ud pT pK pN pF pS qT qK qN qF qS mKe mUn mFi mRi mBe mWc mAK mSh mIP mUS mWa mWi mSi mRo mSp mRw_1 mSn_2 mBg_3 mLa_4 mMo mRm mOw mGo mFr mQu mCh mPB mPS mFs ub uT uK uN uF uS) → va_S A s.heap H locs → lv_has ls 3 [(1, .int x1_7)] → W p l e (headSpec wsX9_tight rm_X9_tight).room s m args below meth c H locs 0 0 Q (F0 m 50 ls [])) (n8 : Nat) (x1_5 : Int32) (x2_6 : Int32), wp_X9_tight_L8 pT mBg_3 mLa_4 x8 n8 x1_5 x2_6 → ∀ (H : Heap) (locs : List Loc) (ls : Array Slot), va_P D vwCl (WM cI cJ cZ cK ad ud pT pK pN pF pS qT qK qN qF qS mKe mUn mFi mRi mBe mWc mAK mSh mIP mUS mWa mWi mSi mRo mSp mRw_1 mSn_2 mBg_3 mLa_4 mMo mRm mOw mGo mFr mQu mCh mPB mPS mFs ub uT uK uN uF uS) H → va_D A (WM cI cJ cZ cK ad ud pT pK pN pF pS qT qK qN qF qS mKe mUn mFi mRi mBe mWc mAK mSh mIP mUS mWa mWi mSi mRo mSp mRw_1 mSn_2 mBg_3 mLa_4 mMo mRm mOw mGo mFr mQu mCh mPB mPS mFs ub uT uK uN uF uS) → va_S A s.heap H locs → lv_has ls 3 [(0, .ref (ad 0)), (1, .int x1_5), (2, .int x2_6)] → W p l e (headSpec wsX9_tight rm_X9_tight).room s m args below meth c H locs 0 0 Q (F0 m 8 ls []) := by
    intro x8 hk8 n8
    induction n8 with
    | zero => intro x1_5 x2_6 h; exact False.elim h
    | succ n8 ih8 =>
      intro x1_5 x2_6 h H locs ls hP hD hS hl
      have B42 : ∀ (y_9 : Int32) (y_10 : Int32) (x2_8 : Int32), wp_X9_tight_b42 (wp_X9_tight_L8 pT mBg_3 mLa_4 x8 n8) y_9 y_10 x2_8 → ∀ (H : Heap) (locs : List Loc) (ls : Array Slot), va_P D vwCl (WM cI cJ cZ cK ad ud pT pK pN pF pS qT qK qN qF qS mKe mUn mFi mRi mBe mWc mAK mSh mIP mUS mWa mWi mSi mRo mSp mRw_1 mSn_2 mBg_3 mLa_4 mMo mRm mOw mGo mFr mQu mCh mPB mPS mFs ub uT uK uN uF uS) H → va_D A (WM cI cJ cZ cK ad ud pT pK pN pF pS qT qK qN qF qS mKe mUn mFi mRi mBe mWc mAK mSh mIP mUS mWa mWi mSi mRo mSp mRw_1 mSn_2 mBg_3 mLa_4 mMo mRm mOw mGo mFr mQu mCh mPB mPS mFs ub uT uK uN uF uS) → va_S A s.heap H locs → lv_has ls 3 [(0, .ref (ad 0)), (2, .int x2_8)] → W p l e (headSpec wsX9_tight rm_X9_tight).room s m args below meth c H locs 0 0 Q (F0 m 42 ls [.int y_10, .int y_9]) := by
        intro y_9 y_10 x2_8 h H locs ls hP hD hS hl
        refine lv_ior hx hb dX9_tight_42 ?_
        refine lv_topi (fun x1_11 e_12 => ?_)
        have h := h x1_11 e_12
        refine lv_istore_n (lv' := [(1, .int x1_11), (0, .ref (ad 0)), (2, .int x2_8)]) hx hb dX9_tight_43 rfl hl (by decide) rfl (fun ls hl => ?_)
        obtain ⟨x2_13, e_14⟩ : ∃ y : Int32, y = x2_8 + 1 := ⟨_, rfl⟩
        have h := h x2_13 e_14
        refine lv_iinc (v := x2_13) (lv' := [(2, .int x2_13), (1, .int x1_11), (0, .ref (ad 0))]) hx hb dX9_tight_44 hl (k := 2) rfl (by rw [e_14]; rfl) (by decide) rfl (fun ls hl => ?_)
        refine lv_goto (tgt := 8) hx hb dX9_tight_47 (by decide) ?_
        exact ih8 x1_11 x2_13 h H locs ls hP hD hS (lv_sub hl [2, 1, 0] rfl)
      refine lv_iload_n hx hb dX9_tight_8 rfl (lv_at hl 2 rfl) ?_
      refine lv_aload_n hx hb dX9_tight_9 rfl (lv_at hl 0 rfl) ?_
      refine va_get (D := D) (ci := 9) (C := RX9) (T := TX9) (N := 32) hx hb hts inn_X9_tight_9 hown hAB.1 hP 0 rfl rfl 0 (by decide) (hts (.fieldLink RX9 10 "BarnBenchModel" "b" "LBarnBenchModel$Book;") (by decide +kernel)) (fun _ h9 => h9) rfl dX9_tight_10 ?_
      refine va_get (D := D) (ci := 8) (C := RX8) (T := TX8) (N := 5) hx hb hts inn_X9_tight_8 hown hAB.1 hP 1 rfl rfl 0 (by decide) (hts (.fieldLink RX9 94 "BarnBenchModel$Book" "tasks" "I") (by decide +kernel)) (fun _ h9 => h9) rfl dX9_tight_13 ?_
      refine lv_icmp_ge (tgt := 50) hx hb dX9_tight_16 (by decide) (fun c_15 => ?_) (fun c_15 => ?_)
      · have h := h.1 c_15
        exact hk8 x1_5 h H locs ls hP hD hS (lv_sub hl [1] rfl)
      · have h := h.2 c_15
        refine lv_iload_n hx hb dX9_tight_19 rfl (lv_at hl 1 rfl) ?_
        refine lv_aload_n hx hb dX9_tight_20 rfl (lv_at hl 0 rfl) ?_
        refine va_get (D := D) (ci := 9) (C := RX9) (T := TX9) (N := 32) hx hb hts inn_X9_tight_9 hown hAB.1 hP 0 rfl rfl 17 (by decide) (hts (.fieldLink RX9 54 "BarnBenchModel" "begins" "[I") (by decide +kernel)) (fun _ h9 => h9) rfl dX9_tight_21 ?_
        refine lv_iload_n hx hb dX9_tight_24 rfl (lv_at hl 2 rfl) ?_
        refine va_iald hx hb hAB.1 hP 20 0 rfl rfl h.1 dX9_tight_25 ?_
        have h := h.2
        refine lv_aload_n hx hb dX9_tight_26 rfl (lv_at hl 0 rfl) ?_
        refine va_get (D := D) (ci := 9) (C := RX9) (T := TX9) (N := 32) hx hb hts inn_X9_tight_9 hown hAB.1 hP 0 rfl rfl 18 (by decide) (hts (.fieldLink RX9 57 "BarnBenchModel" "lates" "[I") (by decide +kernel)) (fun _ h9 => h9) rfl dX9_tight_27 ?_
        refine lv_iload_n hx hb dX9_tight_30 rfl (lv_at hl 2 rfl) ?_
        refine va_iald hx hb hAB.1 hP 21 0 rfl rfl h.1 dX9_tight_31 ?_
        have h := h.2
        refine lv_icmp_ne (tgt := 41) hx hb dX9_tight_32 (by decide) (fun c_16 => ?_) (fun c_16 => ?_)
        · have h := h.1 c_16
          refine lv_iconst (v := 0) hx hb dX9_tight_41 (by decide) ?_
          exact B42 x1_5 0 x2_6 h H locs ls hP hD hS (lv_sub hl [0, 2] rfl)
        · have h := h.2 c_16
          refine lv_iconst (v := 1) hx hb dX9_tight_35 (by decide) ?_
          refine lv_iload_n hx hb dX9_tight_36 rfl (lv_at hl 2 rfl) ?_
          refine lv_ishl hx hb dX9_tight_37 ?_
          refine lv_goto (tgt := 42) hx hb dX9_tight_38 (by decide) ?_
          exact B42 x1_5 (1 <<< (x2_6 &&& 31)) x2_6 h H locs ls hP hD hS (lv_sub hl [0, 2] rfl)
  obtain ⟨n8, h⟩ := h
  refine L8 _ (fun x1_7 h H locs ls hP hD hS hl => ?_) n8 0 0 h H locs ls hP hD hS (lv_sub hl [2, 1, 0] rfl)
  refine lv_iload_n hx hb dX9_tight_50 rfl (lv_at hl 0 rfl) ?_
  exact rt_i (mRw_1, mSn_2, mBg_3, mLa_4) hQ hx hb hr hlk hP hD hS ⟨Nat.zero_le _, Nat.zero_le _⟩ dX9_tight_51 h
def wp_X9_costOf_b111 (Qp : Int64 → Prop) (x4_1 : Int64) : Prop :=
  Qp x4_1
def wp_X9_costOf_b83 (Qp : Int64 → Prop) (a1 : Int32) (a2 : Int32) (pK : Nat → Int32) (pN : Nat → Int32) (x4_2 : Int64) : Prop :=
  vp_in a1 12 ∧ ((¬ (pK (Int32.toNatClampNeg a1)) = 4 → wp_X9_costOf_b111 Qp x4_2) ∧
   ((pK (Int32.toNatClampNeg a1)) = 4 → wp_X9_number pN a1 3 (fun (r_4 : Int32) => ∀ x4_5 : Int64, x4_5 = (x4_2 + ((Int32.toInt64 r_4) * (Int32.toInt64 a2))) → wp_X9_costOf_b111 Qp x4_5)))
def wp_X9_costOf (pK : Nat → Int32) (pN : Nat → Int32) (a1 : Int32) (a2 : Int32) (Qp : Int64 → Prop) : Prop :=
  wp_X9_number pN a1 0 (fun (r_7 : Int32) => wp_X9_number pN a1 1 (fun (r_8 : Int32) => wp_X9_in (Int32.toInt64 a2) (Int32.toInt64 r_8) (Int32.toInt64 r_7) (fun (r_9 : Int32) => ((¬ r_9 = 0 → wp_X9_number pN a1 2 (fun (r_11 : Int32) => ∀ x4_12 : Int64, x4_12 = ((Int32.toInt64 r_11) * (Int32.toInt64 (r_7 - a2))) → vp_in a1 12 ∧ ((¬ (pK (Int32.toNatClampNeg a1)) = 2 → wp_X9_costOf_b83 Qp a1 a2 pK pN x4_12) ∧
   ((pK (Int32.toNatClampNeg a1)) = 2 → wp_X9_number pN a1 4 (fun (r_15 : Int32) => wp_X9_number pN a1 3 (fun (r_16 : Int32) => ∀ x4_17 : Int64, x4_17 = (x4_12 + ((Int32.toInt64 r_15) * (Int32.toInt64 (if 0 < ((r_7 - r_16) - a2) then ((r_7 - r_16) - a2) else 0)))) → wp_X9_costOf_b83 Qp a1 a2 pK pN x4_17)))))) ∧
   (r_9 = 0 → Qp 1125899906842624)))))
theorem inn_X9_costOf_8 : ∀ w ∈ u_ws RX8 TX8 5, w ∈ wsX9_costOf := fun _ h => List.mem_cons_of_mem _ (List.mem_append_right _ h)
theorem inn_X9_costOf_9 : ∀ w ∈ u_ws RX9 TX9 32, w ∈ wsX9_costOf := fun _ h => List.mem_cons_of_mem _ (List.mem_append_left _ (List.mem_append_right _ h))
def rm_X9_costOf : Room := { frames := 1, cells := 0, slots := 0, locals := 25 }
set_option maxHeartbeats 4000000 in
set_option maxRecDepth 100000 in
theorem ct_X9_costOf {l : Launch} {D : va_G} {cI cJ cZ cE cD cK : ClassId} {ad : Nat → Nat} {ud : Nat → Nat → Nat} {pT : Int32} {pK : Nat → Int32} {pN : Nat → Int32} {pF : Nat → Int32} {pS : Nat → Int32} {qT : Int32} {qK : Nat → Int32} {qN : Nat → Int32} {qF : Nat → Int32} {qS : Nat → Int32} {mKe : Int32} {mUn : Int32} {mFi : Int32} {mRi : Int32} {mBe : Int64} {mWc : Int32} {mAK : Int32} {mSh : Int32} {mIP : Int32} {mUS : Nat → Int32} {mWa : Nat → Int32} {mWi : Nat → Int32} {mSi : Nat → Int32} {mRo : Nat → Int64} {mSp : Nat → Int64} {mRw : Nat → Int32} {mSn : Nat → Int32} {mBg : Nat → Int32} {mLa : Nat → Int32} {mMo : Nat → Int32} {mRm : Nat → Int64} {mOw : Nat → Int64} {mGo : Nat → Int32} {mFr : Nat → Int32} {mQu : Nat → Int32} {mCh : Nat → Int64} {mPB : Nat → Int32} {mPS : Nat → Int32} {mFs : Nat → Int32} {ub : Nat → Nat} {uT : Nat → Int32} {uK : Nat → Nat → Int32} {uN : Nat → Nat → Int32} {uF : Nat → Nat → Int32} {uS : Nat → Nat → Int32}   {a1 : Int32} {a2 : Int32} {Qp : Int64 → Prop}   (h : wp_X9_costOf pK pN a1 a2 Qp) : CTl l yX9_costOf wsX9_costOf rm_X9_costOf D (tyL cI cJ cZ cE cD cK) [.ref (ad 0), .int a1, .int a2] (WM cI cJ cZ cK ad ud pT pK pN pF pS qT qK qN qF qS mKe mUn mFi mRi mBe mWc mAK mSh mIP mUS mWa mWi mSi mRo mSp mRw mSn mBg mLa mMo mRm mOw mGo mFr mQu mCh mPB mPS mFs ub uT uK uN uF uS) (fun (r : Int64) (u : Unit) => Qp r ) (fun u : Unit => (WM cI cJ cZ cK ad ud pT pK pN pF pS qT qK qN qF qS mKe mUn mFi mRi mBe mWc mAK mSh mIP mUS mWa mWi mSi mRo mSp mRw mSn mBg mLa mMo mRm mOw mGo mFr mQu mCh mPB mPS mFs ub uT uK uN uF uS)) 0 0 := by
  refine ent_l (cc := cX9_costOf) (maxL := 6) (ret := (some .long)) (by decide) rfl (Nat.le_of_ble_eq_true rfl) ?_
  intro p e s m args below meth c A Q hQ hx hb hr hml hown hts hlk hA hAB hP hD hS ls hl
  have hown : s.vm.findClass RX9 = some m.cls := hown
  have hl : lv_has ls 6 [(0, .ref (ad 0)), (1, .int a1), (2, .int a2)] := hl
  generalize hH : s.heap = H at hP ⊢
  have hS : va_S A s.heap H [] := by rw [← hH]; exact hS
  clear hH
  generalize ([] : List Loc) = locs at hS ⊢
  have B111 : ∀ (x4_1 : Int64), wp_X9_costOf_b111 Qp x4_1 → ∀ (H : Heap) (locs : List Loc) (ls : Array Slot), va_P D vwCl (WM cI cJ cZ cK ad ud pT pK pN pF pS qT qK qN qF qS mKe mUn mFi mRi mBe mWc mAK mSh mIP mUS mWa mWi mSi mRo mSp mRw mSn mBg mLa mMo mRm mOw mGo mFr mQu mCh mPB mPS mFs ub uT uK uN uF uS) H → va_D A (WM cI cJ cZ cK ad ud pT pK pN pF pS qT qK qN qF qS mKe mUn mFi mRi mBe mWc mAK mSh mIP mUS mWa mWi mSi mRo mSp mRw mSn mBg mLa mMo mRm mOw mGo mFr mQu mCh mPB mPS mFs ub uT uK uN uF uS) → va_S A s.heap H locs → lv_has ls 6 [(4, .long x4_1)] → W p l e (headSpec wsX9_costOf rm_X9_costOf).room s m args below meth c H locs 0 0 Q (F0 m 111 ls []) := by
    intro x4_1 h H locs ls hP hD hS hl
    refine lv_lload hx hb dX9_costOf_111 (lv_at hl 0 rfl) ?_
    exact rt_l () hQ hx hb hr hlk hP hD hS ⟨Nat.zero_le _, Nat.zero_le _⟩ dX9_costOf_113 h
  have B83 : ∀ (x4_2 : Int64), wp_X9_costOf_b83 Qp a1 a2 pK pN x4_2 → ∀ (H : Heap) (locs : List Loc) (ls : Array Slot), va_P D vwCl (WM cI cJ cZ cK ad ud pT pK pN pF pS qT qK qN qF qS mKe mUn mFi mRi mBe mWc mAK mSh mIP mUS mWa mWi mSi mRo mSp mRw mSn mBg mLa mMo mRm mOw mGo mFr mQu mCh mPB mPS mFs ub uT uK uN uF uS) H → va_D A (WM cI cJ cZ cK ad ud pT pK pN pF pS qT qK qN qF qS mKe mUn mFi mRi mBe mWc mAK mSh mIP mUS mWa mWi mSi mRo mSp mRw mSn mBg mLa mMo mRm mOw mGo mFr mQu mCh mPB mPS mFs ub uT uK uN uF uS) → va_S A s.heap H locs → lv_has ls 6 [(0, .ref (ad 0)), (1, .int a1), (2, .int a2), (4, .long x4_2)] → W p l e (headSpec wsX9_costOf rm_X9_costOf).room s m args below meth c H locs 0 0 Q (F0 m 83 ls []) := by
    intro x4_2 h H locs ls hP hD hS hl
    refine lv_aload_n hx hb dX9_costOf_83 rfl (lv_at hl 0 rfl) ?_
    refine va_get (D := D) (ci := 9) (C := RX9) (T := TX9) (N := 32) hx hb hts inn_X9_costOf_9 hown hAB.1 hP 0 rfl rfl 0 (by decide) (hts (.fieldLink RX9 10 "BarnBenchModel" "b" "LBarnBenchModel$Book;") (by decide +kernel)) (fun _ h9 => h9) rfl dX9_costOf_84 ?_
    refine va_get (D := D) (ci := 8) (C := RX8) (T := TX8) (N := 5) hx hb hts inn_X9_costOf_8 hown hAB.1 hP 1 rfl rfl 1 (by decide) (hts (.fieldLink RX9 141 "BarnBenchModel$Book" "kinds" "[I") (by decide +kernel)) (fun _ h9 => h9) rfl dX9_costOf_87 ?_
    refine lv_iload_n hx hb dX9_costOf_90 rfl (lv_at hl 1 rfl) ?_
    refine va_iald hx hb hAB.1 hP 2 0 rfl rfl h.1 dX9_costOf_91 ?_
    have h := h.2
    refine lv_iconst (v := 4) hx hb dX9_costOf_92 (by decide) ?_
    refine lv_icmp_ne (tgt := 111) hx hb dX9_costOf_93 (by decide) (fun c_3 => ?_) (fun c_3 => ?_)
    · have h := h.1 c_3
      exact B111 x4_2 h H locs ls hP hD hS (lv_sub hl [3] rfl)
    · have h := h.2 c_3
      refine lv_lload hx hb dX9_costOf_96 (lv_at hl 3 rfl) ?_
      refine lv_aload_n hx hb dX9_costOf_98 rfl (lv_at hl 0 rfl) ?_
      refine lv_iload_n hx hb dX9_costOf_99 rfl (lv_at hl 1 rfl) ?_
      refine lv_iconst (v := 3) hx hb dX9_costOf_100 (by decide) ?_
      refine cl_i hD hS hA (va_runV (As := [.int a1, .int 3]) (rest := [.long x4_2]) ⟨hx, hb, hml, hown, hts⟩ (ct_X9_number h H.size) (cwV 2 hts gX9_costOf_X9_number rfl rfl rfl (by decide +kernel) ⟨Nat.le_of_ble_eq_true rfl, Nat.le_of_ble_eq_true rfl⟩) ⟨CPre.blind, va_recv hAB.1 hP (ci := 9) (q0 := 0) rfl rfl, wd_pre hAB hP hD hS hA⟩ rfl rfl hl.1 rfl (lv_room (Nat.le_of_ble_eq_true rfl)) dX9_costOf_101 ⟨Nat.zero_le _, Nat.zero_le _⟩) (fun r_4 u H locs h hP hD hS => ?_)
      refine lv_i2l hx hb dX9_costOf_104 rfl ?_
      refine lv_iload_n hx hb dX9_costOf_105 rfl (lv_at hl 2 rfl) ?_
      refine lv_i2l hx hb dX9_costOf_106 rfl ?_
      refine lv_lmul hx hb dX9_costOf_107 ?_
      refine lv_ladd hx hb dX9_costOf_108 ?_
      refine lv_topl (fun x4_5 e_6 => ?_)
      have h := h x4_5 e_6
      refine lv_lstore (lv' := [(4, .long x4_5), (0, .ref (ad 0)), (1, .int a1), (2, .int a2)]) hx hb dX9_costOf_109 hl (by decide) rfl (fun ls hl => ?_)
      exact B111 x4_5 h H locs ls hP hD hS (lv_sub hl [0] rfl)
  refine lv_aload_n hx hb dX9_costOf_0 rfl (lv_at hl 0 rfl) ?_
  refine lv_iload_n hx hb dX9_costOf_1 rfl (lv_at hl 1 rfl) ?_
  refine lv_iconst (v := 0) hx hb dX9_costOf_2 (by decide) ?_
  refine cl_i hD hS hA (va_runV (As := [.int a1, .int 0]) (rest := []) ⟨hx, hb, hml, hown, hts⟩ (ct_X9_number h H.size) (cwV 2 hts gX9_costOf_X9_number rfl rfl rfl (by decide +kernel) ⟨Nat.le_of_ble_eq_true rfl, Nat.le_of_ble_eq_true rfl⟩) ⟨CPre.blind, va_recv hAB.1 hP (ci := 9) (q0 := 0) rfl rfl, wd_pre hAB hP hD hS hA⟩ rfl rfl hl.1 rfl (lv_room (Nat.le_of_ble_eq_true rfl)) dX9_costOf_3 ⟨Nat.zero_le _, Nat.zero_le _⟩) (fun r_7 u H locs h hP hD hS => ?_)
  refine lv_istore_n (lv' := [(3, .int r_7), (0, .ref (ad 0)), (1, .int a1), (2, .int a2)]) hx hb dX9_costOf_6 rfl hl (by decide) rfl (fun ls hl => ?_)
  refine lv_iload_n hx hb dX9_costOf_7 rfl (lv_at hl 3 rfl) ?_
  refine lv_i2l hx hb dX9_costOf_8 rfl ?_
  refine lv_aload_n hx hb dX9_costOf_9 rfl (lv_at hl 1 rfl) ?_
  refine lv_iload_n hx hb dX9_costOf_10 rfl (lv_at hl 2 rfl) ?_
  refine lv_iconst (v := 1) hx hb dX9_costOf_11 (by decide) ?_
  refine cl_i hD hS hA (va_runV (As := [.int a1, .int 1]) (rest := [.long (Int32.toInt64 a2)]) ⟨hx, hb, hml, hown, hts⟩ (ct_X9_number h H.size) (cwV 2 hts gX9_costOf_X9_number rfl rfl rfl (by decide +kernel) ⟨Nat.le_of_ble_eq_true rfl, Nat.le_of_ble_eq_true rfl⟩) ⟨CPre.blind, va_recv hAB.1 hP (ci := 9) (q0 := 0) rfl rfl, wd_pre hAB hP hD hS hA⟩ rfl rfl hl.1 rfl (lv_room (Nat.le_of_ble_eq_true rfl)) dX9_costOf_12 ⟨Nat.zero_le _, Nat.zero_le _⟩) (fun r_8 u H locs h hP hD hS => ?_)
  refine lv_i2l hx hb dX9_costOf_15 rfl ?_
  refine lv_iload_n hx hb dX9_costOf_16 rfl (lv_at hl 0 rfl) ?_
  refine lv_i2l hx hb dX9_costOf_17 rfl ?_
  refine cl_i hD hS hA (va_runS (As := [.long (Int32.toInt64 a2), .long (Int32.toInt64 r_8), .long (Int32.toInt64 r_7)]) (rest := []) ⟨hx, hb, hml, hown, hts⟩ (ct_X9_in h H.size) (va_cwS 3 hts gX9_costOf_X9_in rfl rfl rfl (by decide +kernel) ⟨Nat.le_of_ble_eq_true rfl, Nat.le_of_ble_eq_true rfl⟩) ⟨CPre.blind, wd_pre hAB hP hD hS hA⟩ rfl rfl hl.1 rfl (lv_room (Nat.le_of_ble_eq_true rfl)) dX9_costOf_18 ⟨Nat.zero_le _, Nat.zero_le _⟩) (fun r_9 u H locs h hP hD hS => ?_)
  refine lv_if_ne (tgt := 28) hx hb dX9_costOf_21 (by decide) (fun c_10 => ?_) (fun c_10 => ?_)
  · have h := h.1 c_10
    refine lv_aload_n hx hb dX9_costOf_28 rfl (lv_at hl 1 rfl) ?_
    refine lv_iload_n hx hb dX9_costOf_29 rfl (lv_at hl 2 rfl) ?_
    refine lv_iconst (v := 2) hx hb dX9_costOf_30 (by decide) ?_
    refine cl_i hD hS hA (va_runV (As := [.int a1, .int 2]) (rest := []) ⟨hx, hb, hml, hown, hts⟩ (ct_X9_number h H.size) (cwV 2 hts gX9_costOf_X9_number rfl rfl rfl (by decide +kernel) ⟨Nat.le_of_ble_eq_true rfl, Nat.le_of_ble_eq_true rfl⟩) ⟨CPre.blind, va_recv hAB.1 hP (ci := 9) (q0 := 0) rfl rfl, wd_pre hAB hP hD hS hA⟩ rfl rfl hl.1 rfl (lv_room (Nat.le_of_ble_eq_true rfl)) dX9_costOf_31 ⟨Nat.zero_le _, Nat.zero_le _⟩) (fun r_11 u H locs h hP hD hS => ?_)
    refine lv_i2l hx hb dX9_costOf_34 rfl ?_
    refine lv_iload_n hx hb dX9_costOf_35 rfl (lv_at hl 0 rfl) ?_
    refine lv_iload_n hx hb dX9_costOf_36 rfl (lv_at hl 3 rfl) ?_
    refine lv_isub hx hb dX9_costOf_37 ?_
    refine lv_i2l hx hb dX9_costOf_38 rfl ?_
    refine lv_lmul hx hb dX9_costOf_39 ?_
    refine lv_topl (fun x4_12 e_13 => ?_)
    have h := h x4_12 e_13
    refine lv_lstore (lv' := [(4, .long x4_12), (3, .int r_7), (0, .ref (ad 0)), (1, .int a1), (2, .int a2)]) hx hb dX9_costOf_40 hl (by decide) rfl (fun ls hl => ?_)
    refine lv_aload_n hx hb dX9_costOf_42 rfl (lv_at hl 2 rfl) ?_
    refine va_get (D := D) (ci := 9) (C := RX9) (T := TX9) (N := 32) hx hb hts inn_X9_costOf_9 hown hAB.1 hP 0 rfl rfl 0 (by decide) (hts (.fieldLink RX9 10 "BarnBenchModel" "b" "LBarnBenchModel$Book;") (by decide +kernel)) (fun _ h9 => h9) rfl dX9_costOf_43 ?_
    refine va_get (D := D) (ci := 8) (C := RX8) (T := TX8) (N := 5) hx hb hts inn_X9_costOf_8 hown hAB.1 hP 1 rfl rfl 1 (by decide) (hts (.fieldLink RX9 141 "BarnBenchModel$Book" "kinds" "[I") (by decide +kernel)) (fun _ h9 => h9) rfl dX9_costOf_46 ?_
    refine lv_iload_n hx hb dX9_costOf_49 rfl (lv_at hl 3 rfl) ?_
    refine va_iald hx hb hAB.1 hP 2 0 rfl rfl h.1 dX9_costOf_50 ?_
    have h := h.2
    refine lv_iconst (v := 2) hx hb dX9_costOf_51 (by decide) ?_
    refine lv_icmp_ne (tgt := 83) hx hb dX9_costOf_52 (by decide) (fun c_14 => ?_) (fun c_14 => ?_)
    · have h := h.1 c_14
      exact B83 x4_12 h H locs ls hP hD hS (lv_sub hl [2, 3, 4, 0] rfl)
    · have h := h.2 c_14
      refine lv_lload hx hb dX9_costOf_55 (lv_at hl 0 rfl) ?_
      refine lv_aload_n hx hb dX9_costOf_57 rfl (lv_at hl 2 rfl) ?_
      refine lv_iload_n hx hb dX9_costOf_58 rfl (lv_at hl 3 rfl) ?_
      refine lv_iconst (v := 4) hx hb dX9_costOf_59 (by decide) ?_
      refine cl_i hD hS hA (va_runV (As := [.int a1, .int 4]) (rest := [.long x4_12]) ⟨hx, hb, hml, hown, hts⟩ (ct_X9_number h H.size) (cwV 2 hts gX9_costOf_X9_number rfl rfl rfl (by decide +kernel) ⟨Nat.le_of_ble_eq_true rfl, Nat.le_of_ble_eq_true rfl⟩) ⟨CPre.blind, va_recv hAB.1 hP (ci := 9) (q0 := 0) rfl rfl, wd_pre hAB hP hD hS hA⟩ rfl rfl hl.1 rfl (lv_room (Nat.le_of_ble_eq_true rfl)) dX9_costOf_60 ⟨Nat.zero_le _, Nat.zero_le _⟩) (fun r_15 u H locs h hP hD hS => ?_)
      refine lv_i2l hx hb dX9_costOf_63 rfl ?_
      refine lv_iconst (v := 0) hx hb dX9_costOf_64 (by decide) ?_
      refine lv_iload_n hx hb dX9_costOf_65 rfl (lv_at hl 1 rfl) ?_
      refine lv_aload_n hx hb dX9_costOf_66 rfl (lv_at hl 2 rfl) ?_
      refine lv_iload_n hx hb dX9_costOf_67 rfl (lv_at hl 3 rfl) ?_
      refine lv_iconst (v := 3) hx hb dX9_costOf_68 (by decide) ?_
      refine cl_i hD hS hA (va_runV (As := [.int a1, .int 3]) (rest := [.int r_7, .int 0, .long (Int32.toInt64 r_15), .long x4_12]) ⟨hx, hb, hml, hown, hts⟩ (ct_X9_number h H.size) (cwV 2 hts gX9_costOf_X9_number rfl rfl rfl (by decide +kernel) ⟨Nat.le_of_ble_eq_true rfl, Nat.le_of_ble_eq_true rfl⟩) ⟨CPre.blind, va_recv hAB.1 hP (ci := 9) (q0 := 0) rfl rfl, wd_pre hAB hP hD hS hA⟩ rfl rfl hl.1 rfl (lv_room (Nat.le_of_ble_eq_true rfl)) dX9_costOf_69 ⟨Nat.zero_le _, Nat.zero_le _⟩) (fun r_16 u H locs h hP hD hS => ?_)
      refine lv_isub hx hb dX9_costOf_72 ?_
      refine lv_iload_n hx hb dX9_costOf_73 rfl (lv_at hl 4 rfl) ?_
      refine lv_isub hx hb dX9_costOf_74 ?_
      refine va_mmax (rest := [.long (Int32.toInt64 r_15), .long x4_12]) hx hb (by rw [hml]; exact hl.1.symm) hown (hts (.methodLink RX9 179 Lib.Math.max.name) (by decide +kernel)) (hts (.static Lib.Math.max.name) (by decide +kernel)) (hts (.initialized "java/lang/Math") (by decide +kernel)) (hts (.code Lib.Math.max.name Lib.Math.max.code 2 (some .int)) (by decide +kernel)) (Nat.le_of_ble_eq_true rfl) (Nat.le_of_ble_eq_true rfl) (Nat.zero_le _) (Nat.zero_le _) dX9_costOf_75 ?_
      refine lv_i2l hx hb dX9_costOf_78 rfl ?_
      refine lv_lmul hx hb dX9_costOf_79 ?_
      refine lv_ladd hx hb dX9_costOf_80 ?_
      refine lv_topl (fun x4_17 e_18 => ?_)
      have h := h x4_17 e_18
      refine lv_lstore (lv' := [(4, .long x4_17), (3, .int r_7), (0, .ref (ad 0)), (1, .int a1), (2, .int a2)]) hx hb dX9_costOf_81 hl (by decide) rfl (fun ls hl => ?_)
      exact B83 x4_17 h H locs ls hP hD hS (lv_sub hl [2, 3, 4, 0] rfl)
  · have h := h.2 c_10
    refine lv_ldc2 (v := 1125899906842624) hx hb hown (hts (.constantLong RX9 197 1125899906842624) (by decide +kernel)) dX9_costOf_24 ?_
    exact rt_l () hQ hx hb hr hlk hP hD hS ⟨Nat.zero_le _, Nat.zero_le _⟩ dX9_costOf_27 h
def wp_X9_toldCost_L4 (pK : Nat → Int32) (pN : Nat → Int32) (pS : Nat → Int32) (pT : Int32) (x4 : (Int64) → Prop) : Nat → (Int64) → (Int32) → Prop
  | 0, _, _ => False
  | n4 + 1, x1_1, x3_2 =>
  ((pT ≤ x3_2 → x4 x1_1) ∧
   (¬ pT ≤ x3_2 → vp_in x3_2 12 ∧ wp_X9_costOf pK pN x3_2 (pS (Int32.toNatClampNeg x3_2)) (fun (r_5 : Int64) => ∀ x1_6 : Int64, x1_6 = (x1_1 + r_5) → ∀ x3_8 : Int32, x3_8 = x3_2 + 1 → (wp_X9_toldCost_L4 pK pN pS pT x4 n4) x1_6 x3_8)))
def wp_X9_toldCost (pT : Int32) (pK : Nat → Int32) (pN : Nat → Int32) (pS : Nat → Int32)  (Qp : Int64 → Prop) : Prop :=
  (∃ n4 : Nat, wp_X9_toldCost_L4 pK pN pS pT (fun (x1_3 : Int64) => Qp x1_3) n4 0 0)
theorem inn_X9_toldCost_8 : ∀ w ∈ u_ws RX8 TX8 5, w ∈ wsX9_toldCost := fun _ h => List.mem_cons_of_mem _ (List.mem_append_right _ h)
theorem inn_X9_toldCost_9 : ∀ w ∈ u_ws RX9 TX9 32, w ∈ wsX9_toldCost := fun _ h => List.mem_cons_of_mem _ (List.mem_append_left _ (List.mem_append_right _ h))
def rm_X9_toldCost : Room := { frames := 2, cells := 0, slots := 0, locals := 50 }
set_option maxHeartbeats 4000000 in
set_option maxRecDepth 100000 in
theorem ct_X9_toldCost {l : Launch} {D : va_G} {cI cJ cZ cE cD cK : ClassId} {ad : Nat → Nat} {ud : Nat → Nat → Nat} {pT : Int32} {pK : Nat → Int32} {pN : Nat → Int32} {pF : Nat → Int32} {pS : Nat → Int32} {qT : Int32} {qK : Nat → Int32} {qN : Nat → Int32} {qF : Nat → Int32} {qS : Nat → Int32} {mKe : Int32} {mUn : Int32} {mFi : Int32} {mRi : Int32} {mBe : Int64} {mWc : Int32} {mAK : Int32} {mSh : Int32} {mIP : Int32} {mUS : Nat → Int32} {mWa : Nat → Int32} {mWi : Nat → Int32} {mSi : Nat → Int32} {mRo : Nat → Int64} {mSp : Nat → Int64} {mRw : Nat → Int32} {mSn : Nat → Int32} {mBg : Nat → Int32} {mLa : Nat → Int32} {mMo : Nat → Int32} {mRm : Nat → Int64} {mOw : Nat → Int64} {mGo : Nat → Int32} {mFr : Nat → Int32} {mQu : Nat → Int32} {mCh : Nat → Int64} {mPB : Nat → Int32} {mPS : Nat → Int32} {mFs : Nat → Int32} {ub : Nat → Nat} {uT : Nat → Int32} {uK : Nat → Nat → Int32} {uN : Nat → Nat → Int32} {uF : Nat → Nat → Int32} {uS : Nat → Nat → Int32}    {Qp : Int64 → Prop}   (h : wp_X9_toldCost pT pK pN pS Qp) : CTl l yX9_toldCost wsX9_toldCost rm_X9_toldCost D (tyL cI cJ cZ cE cD cK) [.ref (ad 0)] (WM cI cJ cZ cK ad ud pT pK pN pF pS qT qK qN qF qS mKe mUn mFi mRi mBe mWc mAK mSh mIP mUS mWa mWi mSi mRo mSp mRw mSn mBg mLa mMo mRm mOw mGo mFr mQu mCh mPB mPS mFs ub uT uK uN uF uS) (fun (r : Int64) (u : Unit) => Qp r ) (fun u : Unit => (WM cI cJ cZ cK ad ud pT pK pN pF pS qT qK qN qF qS mKe mUn mFi mRi mBe mWc mAK mSh mIP mUS mWa mWi mSi mRo mSp mRw mSn mBg mLa mMo mRm mOw mGo mFr mQu mCh mPB mPS mFs ub uT uK uN uF uS)) 0 0 := by
  refine ent_l (cc := cX9_toldCost) (maxL := 4) (ret := (some .long)) (by decide) rfl (Nat.le_of_ble_eq_true rfl) ?_
  intro p e s m args below meth c A Q hQ hx hb hr hml hown hts hlk hA hAB hP hD hS ls hl
  have hown : s.vm.findClass RX9 = some m.cls := hown
  have hl : lv_has ls 4 [(0, .ref (ad 0))] := hl
  generalize hH : s.heap = H at hP ⊢
  have hS : va_S A s.heap H [] := by rw [← hH]; exact hS
  clear hH
  generalize ([] : List Loc) = locs at hS ⊢
  refine lv_lconst (v := 0) hx hb dX9_toldCost_0 (by decide) ?_
  refine lv_lstore_n (lv' := [(1, .long 0), (0, .ref (ad 0))]) hx hb dX9_toldCost_1 rfl hl (by decide) rfl (fun ls hl => ?_)
  refine lv_iconst (v := 0) hx hb dX9_toldCost_2 (by decide) ?_
  refine lv_istore_n (lv' := [(3, .int 0), (1, .long 0), (0, .ref (ad 0))]) hx hb dX9_toldCost_3 rfl hl (by decide) rfl (fun ls hl => ?_)
  have L4 : ∀ (x4 : (Int64) → Prop) (hk4 : ∀ (x1_3 : Int64), x4 x1_3 → ∀ (H : Heap) (locs : List Loc) (ls : Array Slot), va_P D vwCl (WM cI cJ cZ cK ad ud pT pK pN pF pS qT qK qN qF qS mKe mUn mFi mRi mBe mWc mAK mSh mIP mUS mWa mWi mSi mRo mSp mRw mSn mBg mLa mMo mRm mOw mGo mFr mQu mCh mPB mPS mFs ub uT uK uN uF uS) H → va_D A (WM cI cJ cZ cK ad ud pT pK pN pF pS qT qK qN qF qS mKe mUn mFi mRi mBe mWc mAK mSh mIP mUS mWa mWi mSi mRo mSp mRw mSn mBg mLa mMo mRm mOw mGo mFr mQu mCh mPB mPS mFs ub uT uK uN uF uS) → va_S A s.heap H locs → lv_has ls 4 [(1, .long x1_3)] → W p l e (headSpec wsX9_toldCost rm_X9_toldCost).room s m args below meth c H locs 0 0 Q (F0 m 38 ls [])) (n4 : Nat) (x1_1 : Int64) (x3_2 : Int32), wp_X9_toldCost_L4 pK pN pS pT x4 n4 x1_1 x3_2 → ∀ (H : Heap) (locs : List Loc) (ls : Array Slot), va_P D vwCl (WM cI cJ cZ cK ad ud pT pK pN pF pS qT qK qN qF qS mKe mUn mFi mRi mBe mWc mAK mSh mIP mUS mWa mWi mSi mRo mSp mRw mSn mBg mLa mMo mRm mOw mGo mFr mQu mCh mPB mPS mFs ub uT uK uN uF uS) H → va_D A (WM cI cJ cZ cK ad ud pT pK pN pF pS qT qK qN qF qS mKe mUn mFi mRi mBe mWc mAK mSh mIP mUS mWa mWi mSi mRo mSp mRw mSn mBg mLa mMo mRm mOw mGo mFr mQu mCh mPB mPS mFs ub uT uK uN uF uS) → va_S A s.heap H locs → lv_has ls 4 [(0, .ref (ad 0)), (1, .long x1_1), (3, .int x3_2)] → W p l e (headSpec wsX9_toldCost rm_X9_toldCost).room s m args below meth c H locs 0 0 Q (F0 m 4 ls []) := by
    intro x4 hk4 n4
    induction n4 with
    | zero => intro x1_1 x3_2 h; exact False.elim h
    | succ n4 ih4 =>
      intro x1_1 x3_2 h H locs ls hP hD hS hl
      refine lv_iload_n hx hb dX9_toldCost_4 rfl (lv_at hl 2 rfl) ?_
      refine lv_aload_n hx hb dX9_toldCost_5 rfl (lv_at hl 0 rfl) ?_
      refine va_get (D := D) (ci := 9) (C := RX9) (T := TX9) (N := 32) hx hb hts inn_X9_toldCost_9 hown hAB.1 hP 0 rfl rfl 0 (by decide) (hts (.fieldLink RX9 10 "BarnBenchModel" "b" "LBarnBenchModel$Book;") (by decide +kernel)) (fun _ h9 => h9) rfl dX9_toldCost_6 ?_
      refine va_get (D := D) (ci := 8) (C := RX8) (T := TX8) (N := 5) hx hb hts inn_X9_toldCost_8 hown hAB.1 hP 1 rfl rfl 0 (by decide) (hts (.fieldLink RX9 94 "BarnBenchModel$Book" "tasks" "I") (by decide +kernel)) (fun _ h9 => h9) rfl dX9_toldCost_9 ?_
      refine lv_icmp_ge (tgt := 38) hx hb dX9_toldCost_12 (by decide) (fun c_4 => ?_) (fun c_4 => ?_)
      · have h := h.1 c_4
        exact hk4 x1_1 h H locs ls hP hD hS (lv_sub hl [1] rfl)
      · have h := h.2 c_4
        refine lv_lload_n hx hb dX9_toldCost_15 rfl (lv_at hl 1 rfl) ?_
        refine lv_aload_n hx hb dX9_toldCost_16 rfl (lv_at hl 0 rfl) ?_
        refine lv_iload_n hx hb dX9_toldCost_17 rfl (lv_at hl 2 rfl) ?_
        refine lv_aload_n hx hb dX9_toldCost_18 rfl (lv_at hl 0 rfl) ?_
        refine va_get (D := D) (ci := 9) (C := RX9) (T := TX9) (N := 32) hx hb hts inn_X9_toldCost_9 hown hAB.1 hP 0 rfl rfl 0 (by decide) (hts (.fieldLink RX9 10 "BarnBenchModel" "b" "LBarnBenchModel$Book;") (by decide +kernel)) (fun _ h9 => h9) rfl dX9_toldCost_19 ?_
        refine va_get (D := D) (ci := 8) (C := RX8) (T := TX8) (N := 5) hx hb hts inn_X9_toldCost_8 hown hAB.1 hP 1 rfl rfl 4 (by decide) (hts (.fieldLink RX9 150 "BarnBenchModel$Book" "spans" "[I") (by decide +kernel)) (fun _ h9 => h9) rfl dX9_toldCost_22 ?_
        refine lv_iload_n hx hb dX9_toldCost_25 rfl (lv_at hl 2 rfl) ?_
        refine va_iald hx hb hAB.1 hP 5 0 rfl rfl h.1 dX9_toldCost_26 ?_
        have h := h.2
        refine cl_l hD hS hA (va_runV (As := [.int x3_2, .int (pS (Int32.toNatClampNeg x3_2))]) (rest := [.long x1_1]) ⟨hx, hb, hml, hown, hts⟩ (ct_X9_costOf h H.size) (cwV 2 hts gX9_toldCost_X9_costOf rfl rfl rfl (by decide +kernel) ⟨Nat.le_of_ble_eq_true rfl, Nat.le_of_ble_eq_true rfl⟩) ⟨CPre.blind, va_recv hAB.1 hP (ci := 9) (q0 := 0) rfl rfl, wd_pre hAB hP hD hS hA⟩ rfl rfl hl.1 rfl (lv_room (Nat.le_of_ble_eq_true rfl)) dX9_toldCost_27 ⟨Nat.zero_le _, Nat.zero_le _⟩) (fun r_5 u H locs h hP hD hS => ?_)
        refine lv_ladd hx hb dX9_toldCost_30 ?_
        refine lv_topl (fun x1_6 e_7 => ?_)
        have h := h x1_6 e_7
        refine lv_lstore_n (lv' := [(1, .long x1_6), (0, .ref (ad 0)), (3, .int x3_2)]) hx hb dX9_toldCost_31 rfl hl (by decide) rfl (fun ls hl => ?_)
        obtain ⟨x3_8, e_9⟩ : ∃ y : Int32, y = x3_2 + 1 := ⟨_, rfl⟩
        have h := h x3_8 e_9
        refine lv_iinc (v := x3_8) (lv' := [(3, .int x3_8), (1, .long x1_6), (0, .ref (ad 0))]) hx hb dX9_toldCost_32 hl (k := 2) rfl (by rw [e_9]; rfl) (by decide) rfl (fun ls hl => ?_)
        refine lv_goto (tgt := 4) hx hb dX9_toldCost_35 (by decide) ?_
        exact ih4 x1_6 x3_8 h H locs ls hP hD hS (lv_sub hl [2, 1, 0] rfl)
  obtain ⟨n4, h⟩ := h
  refine L4 _ (fun x1_3 h H locs ls hP hD hS hl => ?_) n4 0 0 h H locs ls hP hD hS (lv_sub hl [2, 1, 0] rfl)
  refine lv_lload_n hx hb dX9_toldCost_38 rfl (lv_at hl 0 rfl) ?_
  exact rt_l () hQ hx hb hr hlk hP hD hS ⟨Nat.zero_le _, Nat.zero_le _⟩ dX9_toldCost_39 h
def wp_X9_longest_b29 (k2 : (Int32) → (Nat → Int32) → Prop) (pN : Nat → Int32) (y_5 : Int32) (y_6 : Int32) (y_7 : Int32) (x2_4 : Int32) (mSn_8 : Nat → Int32) : Prop :=
  wp_X9_number pN y_6 y_7 (fun (r_9 : Int32) => vp_in y_5 12 ∧ ∀ mSn_10 : Nat → Int32, mSn_10 = upd mSn_8 (Int32.toNatClampNeg y_5) r_9 → ∀ x2_12 : Int32, x2_12 = x2_4 + 1 → k2 x2_12 mSn_10)
def wp_X9_longest_L2 (a1 : Int32) (pN : Nat → Int32) (pT : Int32) (x2 : (Nat → Int32) → Prop) : Nat → (Int32) → (Nat → Int32) → Prop
  | 0, _, _ => False
  | n2 + 1, x2_1, mSn_2 =>
  ((pT ≤ x2_1 → x2 mSn_2) ∧
   (¬ pT ≤ x2_1 → ((a1 = 0 → wp_X9_longest_b29 (wp_X9_longest_L2 a1 pN pT x2 n2) pN x2_1 x2_1 0 x2_1 mSn_2) ∧
   (¬ a1 = 0 → wp_X9_longest_b29 (wp_X9_longest_L2 a1 pN pT x2 n2) pN x2_1 x2_1 1 x2_1 mSn_2))))
def wp_X9_longest (pT : Int32) (pN : Nat → Int32) (pF : Nat → Int32) (mRw : Nat → Int32) (mSn : Nat → Int32) (mBg : Nat → Int32) (a1 : Int32) (Qp : Int32 → (Nat → Int32) → (Nat → Int32) → (Nat → Int32) → Prop) : Prop :=
  (∃ n2 : Nat, wp_X9_longest_L2 a1 pN pT (fun (mSn_3 : Nat → Int32) => wp_X9_early pT pF mRw mSn_3 mBg (fun (r_16 : Int32) (mRw_17 : Nat → Int32) (mBg_18 : Nat → Int32) => Qp r_16 mRw_17 mSn_3 mBg_18)) n2 0 mSn)
theorem inn_X9_longest_8 : ∀ w ∈ u_ws RX8 TX8 5, w ∈ wsX9_longest := fun _ h => List.mem_cons_of_mem _ (List.mem_append_right _ h)
theorem inn_X9_longest_9 : ∀ w ∈ u_ws RX9 TX9 32, w ∈ wsX9_longest := fun _ h => List.mem_cons_of_mem _ (List.mem_append_left _ (List.mem_append_right _ h))
def rm_X9_longest : Room := { frames := 3, cells := 0, slots := 0, locals := 71 }
set_option maxHeartbeats 4000000 in
set_option maxRecDepth 100000 in
theorem ct_X9_longest {l : Launch} {D : va_G} {cI cJ cZ cE cD cK : ClassId} {ad : Nat → Nat} {ud : Nat → Nat → Nat} {pT : Int32} {pK : Nat → Int32} {pN : Nat → Int32} {pF : Nat → Int32} {pS : Nat → Int32} {qT : Int32} {qK : Nat → Int32} {qN : Nat → Int32} {qF : Nat → Int32} {qS : Nat → Int32} {mKe : Int32} {mUn : Int32} {mFi : Int32} {mRi : Int32} {mBe : Int64} {mWc : Int32} {mAK : Int32} {mSh : Int32} {mIP : Int32} {mUS : Nat → Int32} {mWa : Nat → Int32} {mWi : Nat → Int32} {mSi : Nat → Int32} {mRo : Nat → Int64} {mSp : Nat → Int64} {mRw : Nat → Int32} {mSn : Nat → Int32} {mBg : Nat → Int32} {mLa : Nat → Int32} {mMo : Nat → Int32} {mRm : Nat → Int64} {mOw : Nat → Int64} {mGo : Nat → Int32} {mFr : Nat → Int32} {mQu : Nat → Int32} {mCh : Nat → Int64} {mPB : Nat → Int32} {mPS : Nat → Int32} {mFs : Nat → Int32} {ub : Nat → Nat} {uT : Nat → Int32} {uK : Nat → Nat → Int32} {uN : Nat → Nat → Int32} {uF : Nat → Nat → Int32} {uS : Nat → Nat → Int32}   {a1 : Int32} {Qp : Int32 → (Nat → Int32) → (Nat → Int32) → (Nat → Int32) → Prop}   (h : wp_X9_longest pT pN pF mRw mSn mBg a1 Qp) : CTi l yX9_longest wsX9_longest rm_X9_longest D (tyL cI cJ cZ cE cD cK) [.ref (ad 0), .int a1] (WM cI cJ cZ cK ad ud pT pK pN pF pS qT qK qN qF qS mKe mUn mFi mRi mBe mWc mAK mSh mIP mUS mWa mWi mSi mRo mSp mRw mSn mBg mLa mMo mRm mOw mGo mFr mQu mCh mPB mPS mFs ub uT uK uN uF uS) (fun (r : Int32) (u : (Nat → Int32) × (Nat → Int32) × (Nat → Int32)) => Qp r u.1 u.2.1 u.2.2) (fun u : (Nat → Int32) × (Nat → Int32) × (Nat → Int32) => (WM cI cJ cZ cK ad ud pT pK pN pF pS qT qK qN qF qS mKe mUn mFi mRi mBe mWc mAK mSh mIP mUS mWa mWi mSi mRo mSp u.1 u.2.1 u.2.2 mLa mMo mRm mOw mGo mFr mQu mCh mPB mPS mFs ub uT uK uN uF uS)) 0 0 := by
  refine ent_i (cc := cX9_longest) (maxL := 3) (ret := (some .int)) (by decide) rfl (Nat.le_of_ble_eq_true rfl) ?_
  intro p e s m args below meth c A Q hQ hx hb hr hml hown hts hlk hA hAB hP hD hS ls hl
  have hown : s.vm.findClass RX9 = some m.cls := hown
  have hl : lv_has ls 3 [(0, .ref (ad 0)), (1, .int a1)] := hl
  generalize hH : s.heap = H at hP ⊢
  have hS : va_S A s.heap H [] := by rw [← hH]; exact hS
  clear hH
  generalize ([] : List Loc) = locs at hS ⊢
  refine lv_iconst (v := 0) hx hb dX9_longest_0 (by decide) ?_
  refine lv_istore_n (lv' := [(2, .int 0), (0, .ref (ad 0)), (1, .int a1)]) hx hb dX9_longest_1 rfl hl (by decide) rfl (fun ls hl => ?_)
  have L2 : ∀ (x2 : (Nat → Int32) → Prop) (hk2 : ∀ (mSn_3 : Nat → Int32), x2 mSn_3 → ∀ (H : Heap) (locs : List Loc) (ls : Array Slot), va_P D vwCl (WM cI cJ cZ cK ad ud pT pK pN pF pS qT qK qN qF qS mKe mUn mFi mRi mBe mWc mAK mSh mIP mUS mWa mWi mSi mRo mSp mRw mSn_3 mBg mLa mMo mRm mOw mGo mFr mQu mCh mPB mPS mFs ub uT uK uN uF uS) H → va_D A (WM cI cJ cZ cK ad ud pT pK pN pF pS qT qK qN qF qS mKe mUn mFi mRi mBe mWc mAK mSh mIP mUS mWa mWi mSi mRo mSp mRw mSn_3 mBg mLa mMo mRm mOw mGo mFr mQu mCh mPB mPS mFs ub uT uK uN uF uS) → va_S A s.heap H locs → lv_has ls 3 [(0, .ref (ad 0))] → W p l e (headSpec wsX9_longest rm_X9_longest).room s m args below meth c H locs 0 0 Q (F0 m 39 ls [])) (n2 : Nat) (x2_1 : Int32) (mSn_2 : Nat → Int32), wp_X9_longest_L2 a1 pN pT x2 n2 x2_1 mSn_2 → ∀ (H : Heap) (locs : List Loc) (ls : Array Slot), va_P D vwCl (WM cI cJ cZ cK ad ud pT pK pN pF pS qT qK qN qF qS mKe mUn mFi mRi mBe mWc mAK mSh mIP mUS mWa mWi mSi mRo mSp mRw mSn_2 mBg mLa mMo mRm mOw mGo mFr mQu mCh mPB mPS mFs ub uT uK uN uF uS) H → va_D A (WM cI cJ cZ cK ad ud pT pK pN pF pS qT qK qN qF qS mKe mUn mFi mRi mBe mWc mAK mSh mIP mUS mWa mWi mSi mRo mSp mRw mSn_2 mBg mLa mMo mRm mOw mGo mFr mQu mCh mPB mPS mFs ub uT uK uN uF uS) → va_S A s.heap H locs → lv_has ls 3 [(0, .ref (ad 0)), (1, .int a1), (2, .int x2_1)] → W p l e (headSpec wsX9_longest rm_X9_longest).room s m args below meth c H locs 0 0 Q (F0 m 2 ls []) := by
    intro x2 hk2 n2
    induction n2 with
    | zero => intro x2_1 mSn_2 h; exact False.elim h
    | succ n2 ih2 =>
      intro x2_1 mSn_2 h H locs ls hP hD hS hl
      have B29 : ∀ (y_5 : Int32) (y_6 : Int32) (y_7 : Int32) (x2_4 : Int32) (mSn_8 : Nat → Int32), wp_X9_longest_b29 (wp_X9_longest_L2 a1 pN pT x2 n2) pN y_5 y_6 y_7 x2_4 mSn_8 → ∀ (H : Heap) (locs : List Loc) (ls : Array Slot), va_P D vwCl (WM cI cJ cZ cK ad ud pT pK pN pF pS qT qK qN qF qS mKe mUn mFi mRi mBe mWc mAK mSh mIP mUS mWa mWi mSi mRo mSp mRw mSn_8 mBg mLa mMo mRm mOw mGo mFr mQu mCh mPB mPS mFs ub uT uK uN uF uS) H → va_D A (WM cI cJ cZ cK ad ud pT pK pN pF pS qT qK qN qF qS mKe mUn mFi mRi mBe mWc mAK mSh mIP mUS mWa mWi mSi mRo mSp mRw mSn_8 mBg mLa mMo mRm mOw mGo mFr mQu mCh mPB mPS mFs ub uT uK uN uF uS) → va_S A s.heap H locs → lv_has ls 3 [(0, .ref (ad 0)), (1, .int a1), (2, .int x2_4)] → W p l e (headSpec wsX9_longest rm_X9_longest).room s m args below meth c H locs 0 0 Q (F0 m 29 ls [.int y_7, .int y_6, .ref (ad 0), .int y_5, .ref (ad 19)]) := by
        intro y_5 y_6 y_7 x2_4 mSn_8 h H locs ls hP hD hS hl
        refine cl_i hD hS hA (va_runV (As := [.int y_6, .int y_7]) (rest := [.int y_5, .ref (ad 19)]) ⟨hx, hb, hml, hown, hts⟩ (ct_X9_number h H.size) (cwV 2 hts gX9_longest_X9_number rfl rfl rfl (by decide +kernel) ⟨Nat.le_of_ble_eq_true rfl, Nat.le_of_ble_eq_true rfl⟩) ⟨CPre.blind, va_recv hAB.1 hP (ci := 9) (q0 := 0) rfl rfl, wd_pre hAB hP hD hS hA⟩ rfl rfl hl.1 rfl (lv_room (Nat.le_of_ble_eq_true rfl)) dX9_longest_29 ⟨Nat.zero_le _, Nat.zero_le _⟩) (fun r_9 u H locs h hP hD hS => ?_)
        refine sM_19 hx hb hAB hP hD hS h.1 dX9_longest_32 (fun mSn_10 H locs e_11 hP hD hS => ?_)
        have h := h.2
        have h := h mSn_10 e_11
        obtain ⟨x2_12, e_13⟩ : ∃ y : Int32, y = x2_4 + 1 := ⟨_, rfl⟩
        have h := h x2_12 e_13
        refine lv_iinc (v := x2_12) (lv' := [(2, .int x2_12), (0, .ref (ad 0)), (1, .int a1)]) hx hb dX9_longest_33 hl (k := 2) rfl (by rw [e_13]; rfl) (by decide) rfl (fun ls hl => ?_)
        refine lv_goto (tgt := 2) hx hb dX9_longest_36 (by decide) ?_
        exact ih2 x2_12 mSn_10 h H locs ls hP hD hS (lv_sub hl [1, 2, 0] rfl)
      refine lv_iload_n hx hb dX9_longest_2 rfl (lv_at hl 2 rfl) ?_
      refine lv_aload_n hx hb dX9_longest_3 rfl (lv_at hl 0 rfl) ?_
      refine va_get (D := D) (ci := 9) (C := RX9) (T := TX9) (N := 32) hx hb hts inn_X9_longest_9 hown hAB.1 hP 0 rfl rfl 0 (by decide) (hts (.fieldLink RX9 10 "BarnBenchModel" "b" "LBarnBenchModel$Book;") (by decide +kernel)) (fun _ h9 => h9) rfl dX9_longest_4 ?_
      refine va_get (D := D) (ci := 8) (C := RX8) (T := TX8) (N := 5) hx hb hts inn_X9_longest_8 hown hAB.1 hP 1 rfl rfl 0 (by decide) (hts (.fieldLink RX9 94 "BarnBenchModel$Book" "tasks" "I") (by decide +kernel)) (fun _ h9 => h9) rfl dX9_longest_7 ?_
      refine lv_icmp_ge (tgt := 39) hx hb dX9_longest_10 (by decide) (fun c_14 => ?_) (fun c_14 => ?_)
      · have h := h.1 c_14
        exact hk2 mSn_2 h H locs ls hP hD hS (lv_sub hl [0] rfl)
      · have h := h.2 c_14
        refine lv_aload_n hx hb dX9_longest_13 rfl (lv_at hl 0 rfl) ?_
        refine va_get (D := D) (ci := 9) (C := RX9) (T := TX9) (N := 32) hx hb hts inn_X9_longest_9 hown hAB.1 hP 0 rfl rfl 16 (by decide) (hts (.fieldLink RX9 51 "BarnBenchModel" "spans" "[I") (by decide +kernel)) (fun _ h9 => h9) rfl dX9_longest_14 ?_
        refine lv_iload_n hx hb dX9_longest_17 rfl (lv_at hl 2 rfl) ?_
        refine lv_aload_n hx hb dX9_longest_18 rfl (lv_at hl 0 rfl) ?_
        refine lv_iload_n hx hb dX9_longest_19 rfl (lv_at hl 2 rfl) ?_
        refine lv_iload_n hx hb dX9_longest_20 rfl (lv_at hl 1 rfl) ?_
        refine lv_if_eq (tgt := 28) hx hb dX9_longest_21 (by decide) (fun c_15 => ?_) (fun c_15 => ?_)
        · have h := h.1 c_15
          refine lv_iconst (v := 0) hx hb dX9_longest_28 (by decide) ?_
          exact B29 x2_1 x2_1 0 x2_1 mSn_2 h H locs ls hP hD hS (lv_sub hl [0, 1, 2] rfl)
        · have h := h.2 c_15
          refine lv_iconst (v := 1) hx hb dX9_longest_24 (by decide) ?_
          refine lv_goto (tgt := 29) hx hb dX9_longest_25 (by decide) ?_
          exact B29 x2_1 x2_1 1 x2_1 mSn_2 h H locs ls hP hD hS (lv_sub hl [0, 1, 2] rfl)
  obtain ⟨n2, h⟩ := h
  refine L2 _ (fun mSn_3 h H locs ls hP hD hS hl => ?_) n2 0 mSn h H locs ls hP hD hS (lv_sub hl [1, 2, 0] rfl)
  refine lv_aload_n hx hb dX9_longest_39 rfl (lv_at hl 0 rfl) ?_
  refine cl_i hD hS hA (va_runV (As := []) (rest := []) ⟨hx, hb, hml, hown, hts⟩ (ct_X9_early h H.size) (cwV 0 hts gX9_longest_X9_early rfl rfl rfl (by decide +kernel) ⟨Nat.le_of_ble_eq_true rfl, Nat.le_of_ble_eq_true rfl⟩) ⟨CPre.blind, va_recv hAB.1 hP (ci := 9) (q0 := 0) rfl rfl, wd_pre hAB hP hD hS hA⟩ rfl rfl hl.1 rfl (lv_room (Nat.le_of_ble_eq_true rfl)) dX9_longest_40 ⟨Nat.zero_le _, Nat.zero_le _⟩) (fun r_16 u H locs h hP hD hS => ?_)
  obtain ⟨mRw_17, mBg_18⟩ := u
  have hP : va_P D vwCl (WM cI cJ cZ cK ad ud pT pK pN pF pS qT qK qN qF qS mKe mUn mFi mRi mBe mWc mAK mSh mIP mUS mWa mWi mSi mRo mSp mRw_17 mSn_3 mBg_18 mLa mMo mRm mOw mGo mFr mQu mCh mPB mPS mFs ub uT uK uN uF uS) H := hP
  have hD : va_D A (WM cI cJ cZ cK ad ud pT pK pN pF pS qT qK qN qF qS mKe mUn mFi mRi mBe mWc mAK mSh mIP mUS mWa mWi mSi mRo mSp mRw_17 mSn_3 mBg_18 mLa mMo mRm mOw mGo mFr mQu mCh mPB mPS mFs ub uT uK uN uF uS) := hD
  exact rt_i (mRw_17, mSn_3, mBg_18) hQ hx hb hr hlk hP hD hS ⟨Nat.zero_le _, Nat.zero_le _⟩ dX9_longest_43 h
def wp_X9_pairs_L4 (pF : Nat → Int32) (pT : Int32) (x4 : (Int32) → Prop) : Nat → (Int32) → (Int32) → Prop
  | 0, _, _ => False
  | n4 + 1, x1_1, x2_2 =>
  ((pT ≤ x2_2 → x4 x1_1) ∧
   (¬ pT ≤ x2_2 → wp_X9_followed pT pF x2_2 (fun (r_5 : Int32) => ∀ x1_6 : Int32, x1_6 = (x1_1 + r_5) → ∀ x2_8 : Int32, x2_8 = x2_2 + 1 → (wp_X9_pairs_L4 pF pT x4 n4) x1_6 x2_8)))
def wp_X9_pairs (pT : Int32) (pF : Nat → Int32)  (Qp : Int32 → Prop) : Prop :=
  (∃ n4 : Nat, wp_X9_pairs_L4 pF pT (fun (x1_3 : Int32) => Qp x1_3) n4 0 0)
theorem inn_X9_pairs_8 : ∀ w ∈ u_ws RX8 TX8 5, w ∈ wsX9_pairs := fun _ h => List.mem_cons_of_mem _ (List.mem_append_right _ h)
theorem inn_X9_pairs_9 : ∀ w ∈ u_ws RX9 TX9 32, w ∈ wsX9_pairs := fun _ h => List.mem_cons_of_mem _ (List.mem_append_left _ (List.mem_append_right _ h))
def rm_X9_pairs : Room := { frames := 1, cells := 0, slots := 0, locals := 23 }
set_option maxHeartbeats 4000000 in
set_option maxRecDepth 100000 in
theorem ct_X9_pairs {l : Launch} {D : va_G} {cI cJ cZ cE cD cK : ClassId} {ad : Nat → Nat} {ud : Nat → Nat → Nat} {pT : Int32} {pK : Nat → Int32} {pN : Nat → Int32} {pF : Nat → Int32} {pS : Nat → Int32} {qT : Int32} {qK : Nat → Int32} {qN : Nat → Int32} {qF : Nat → Int32} {qS : Nat → Int32} {mKe : Int32} {mUn : Int32} {mFi : Int32} {mRi : Int32} {mBe : Int64} {mWc : Int32} {mAK : Int32} {mSh : Int32} {mIP : Int32} {mUS : Nat → Int32} {mWa : Nat → Int32} {mWi : Nat → Int32} {mSi : Nat → Int32} {mRo : Nat → Int64} {mSp : Nat → Int64} {mRw : Nat → Int32} {mSn : Nat → Int32} {mBg : Nat → Int32} {mLa : Nat → Int32} {mMo : Nat → Int32} {mRm : Nat → Int64} {mOw : Nat → Int64} {mGo : Nat → Int32} {mFr : Nat → Int32} {mQu : Nat → Int32} {mCh : Nat → Int64} {mPB : Nat → Int32} {mPS : Nat → Int32} {mFs : Nat → Int32} {ub : Nat → Nat} {uT : Nat → Int32} {uK : Nat → Nat → Int32} {uN : Nat → Nat → Int32} {uF : Nat → Nat → Int32} {uS : Nat → Nat → Int32}    {Qp : Int32 → Prop}   (h : wp_X9_pairs pT pF Qp) : CTi l yX9_pairs wsX9_pairs rm_X9_pairs D (tyL cI cJ cZ cE cD cK) [.ref (ad 0)] (WM cI cJ cZ cK ad ud pT pK pN pF pS qT qK qN qF qS mKe mUn mFi mRi mBe mWc mAK mSh mIP mUS mWa mWi mSi mRo mSp mRw mSn mBg mLa mMo mRm mOw mGo mFr mQu mCh mPB mPS mFs ub uT uK uN uF uS) (fun (r : Int32) (u : Unit) => Qp r ) (fun u : Unit => (WM cI cJ cZ cK ad ud pT pK pN pF pS qT qK qN qF qS mKe mUn mFi mRi mBe mWc mAK mSh mIP mUS mWa mWi mSi mRo mSp mRw mSn mBg mLa mMo mRm mOw mGo mFr mQu mCh mPB mPS mFs ub uT uK uN uF uS)) 0 0 := by
  refine ent_i (cc := cX9_pairs) (maxL := 3) (ret := (some .int)) (by decide) rfl (Nat.le_of_ble_eq_true rfl) ?_
  intro p e s m args below meth c A Q hQ hx hb hr hml hown hts hlk hA hAB hP hD hS ls hl
  have hown : s.vm.findClass RX9 = some m.cls := hown
  have hl : lv_has ls 3 [(0, .ref (ad 0))] := hl
  generalize hH : s.heap = H at hP ⊢
  have hS : va_S A s.heap H [] := by rw [← hH]; exact hS
  clear hH
  generalize ([] : List Loc) = locs at hS ⊢
  refine lv_iconst (v := 0) hx hb dX9_pairs_0 (by decide) ?_
  refine lv_istore_n (lv' := [(1, .int 0), (0, .ref (ad 0))]) hx hb dX9_pairs_1 rfl hl (by decide) rfl (fun ls hl => ?_)
  refine lv_iconst (v := 0) hx hb dX9_pairs_2 (by decide) ?_
  refine lv_istore_n (lv' := [(2, .int 0), (1, .int 0), (0, .ref (ad 0))]) hx hb dX9_pairs_3 rfl hl (by decide) rfl (fun ls hl => ?_)
  have L4 : ∀ (x4 : (Int32) → Prop) (hk4 : ∀ (x1_3 : Int32), x4 x1_3 → ∀ (H : Heap) (locs : List Loc) (ls : Array Slot), va_P D vwCl (WM cI cJ cZ cK ad ud pT pK pN pF pS qT qK qN qF qS mKe mUn mFi mRi mBe mWc mAK mSh mIP mUS mWa mWi mSi mRo mSp mRw mSn mBg mLa mMo mRm mOw mGo mFr mQu mCh mPB mPS mFs ub uT uK uN uF uS) H → va_D A (WM cI cJ cZ cK ad ud pT pK pN pF pS qT qK qN qF qS mKe mUn mFi mRi mBe mWc mAK mSh mIP mUS mWa mWi mSi mRo mSp mRw mSn mBg mLa mMo mRm mOw mGo mFr mQu mCh mPB mPS mFs ub uT uK uN uF uS) → va_S A s.heap H locs → lv_has ls 3 [(1, .int x1_3)] → W p l e (headSpec wsX9_pairs rm_X9_pairs).room s m args below meth c H locs 0 0 Q (F0 m 29 ls [])) (n4 : Nat) (x1_1 : Int32) (x2_2 : Int32), wp_X9_pairs_L4 pF pT x4 n4 x1_1 x2_2 → ∀ (H : Heap) (locs : List Loc) (ls : Array Slot), va_P D vwCl (WM cI cJ cZ cK ad ud pT pK pN pF pS qT qK qN qF qS mKe mUn mFi mRi mBe mWc mAK mSh mIP mUS mWa mWi mSi mRo mSp mRw mSn mBg mLa mMo mRm mOw mGo mFr mQu mCh mPB mPS mFs ub uT uK uN uF uS) H → va_D A (WM cI cJ cZ cK ad ud pT pK pN pF pS qT qK qN qF qS mKe mUn mFi mRi mBe mWc mAK mSh mIP mUS mWa mWi mSi mRo mSp mRw mSn mBg mLa mMo mRm mOw mGo mFr mQu mCh mPB mPS mFs ub uT uK uN uF uS) → va_S A s.heap H locs → lv_has ls 3 [(0, .ref (ad 0)), (1, .int x1_1), (2, .int x2_2)] → W p l e (headSpec wsX9_pairs rm_X9_pairs).room s m args below meth c H locs 0 0 Q (F0 m 4 ls []) := by
    intro x4 hk4 n4
    induction n4 with
    | zero => intro x1_1 x2_2 h; exact False.elim h
    | succ n4 ih4 =>
      intro x1_1 x2_2 h H locs ls hP hD hS hl
      refine lv_iload_n hx hb dX9_pairs_4 rfl (lv_at hl 2 rfl) ?_
      refine lv_aload_n hx hb dX9_pairs_5 rfl (lv_at hl 0 rfl) ?_
      refine va_get (D := D) (ci := 9) (C := RX9) (T := TX9) (N := 32) hx hb hts inn_X9_pairs_9 hown hAB.1 hP 0 rfl rfl 0 (by decide) (hts (.fieldLink RX9 10 "BarnBenchModel" "b" "LBarnBenchModel$Book;") (by decide +kernel)) (fun _ h9 => h9) rfl dX9_pairs_6 ?_
      refine va_get (D := D) (ci := 8) (C := RX8) (T := TX8) (N := 5) hx hb hts inn_X9_pairs_8 hown hAB.1 hP 1 rfl rfl 0 (by decide) (hts (.fieldLink RX9 94 "BarnBenchModel$Book" "tasks" "I") (by decide +kernel)) (fun _ h9 => h9) rfl dX9_pairs_9 ?_
      refine lv_icmp_ge (tgt := 29) hx hb dX9_pairs_12 (by decide) (fun c_4 => ?_) (fun c_4 => ?_)
      · have h := h.1 c_4
        exact hk4 x1_1 h H locs ls hP hD hS (lv_sub hl [1] rfl)
      · have h := h.2 c_4
        refine lv_iload_n hx hb dX9_pairs_15 rfl (lv_at hl 1 rfl) ?_
        refine lv_aload_n hx hb dX9_pairs_16 rfl (lv_at hl 0 rfl) ?_
        refine lv_iload_n hx hb dX9_pairs_17 rfl (lv_at hl 2 rfl) ?_
        refine cl_i hD hS hA (va_runV (As := [.int x2_2]) (rest := [.int x1_1]) ⟨hx, hb, hml, hown, hts⟩ (ct_X9_followed h H.size) (cwV 1 hts gX9_pairs_X9_followed rfl rfl rfl (by decide +kernel) ⟨Nat.le_of_ble_eq_true rfl, Nat.le_of_ble_eq_true rfl⟩) ⟨CPre.blind, va_recv hAB.1 hP (ci := 9) (q0 := 0) rfl rfl, wd_pre hAB hP hD hS hA⟩ rfl rfl hl.1 rfl (lv_room (Nat.le_of_ble_eq_true rfl)) dX9_pairs_18 ⟨Nat.zero_le _, Nat.zero_le _⟩) (fun r_5 u H locs h hP hD hS => ?_)
        refine lv_iadd hx hb dX9_pairs_21 ?_
        refine lv_topi (fun x1_6 e_7 => ?_)
        have h := h x1_6 e_7
        refine lv_istore_n (lv' := [(1, .int x1_6), (0, .ref (ad 0)), (2, .int x2_2)]) hx hb dX9_pairs_22 rfl hl (by decide) rfl (fun ls hl => ?_)
        obtain ⟨x2_8, e_9⟩ : ∃ y : Int32, y = x2_2 + 1 := ⟨_, rfl⟩
        have h := h x2_8 e_9
        refine lv_iinc (v := x2_8) (lv' := [(2, .int x2_8), (1, .int x1_6), (0, .ref (ad 0))]) hx hb dX9_pairs_23 hl (k := 2) rfl (by rw [e_9]; rfl) (by decide) rfl (fun ls hl => ?_)
        refine lv_goto (tgt := 4) hx hb dX9_pairs_26 (by decide) ?_
        exact ih4 x1_6 x2_8 h H locs ls hP hD hS (lv_sub hl [2, 1, 0] rfl)
  obtain ⟨n4, h⟩ := h
  refine L4 _ (fun x1_3 h H locs ls hP hD hS hl => ?_) n4 0 0 h H locs ls hP hD hS (lv_sub hl [2, 1, 0] rfl)
  refine lv_iload_n hx hb dX9_pairs_29 rfl (lv_at hl 0 rfl) ?_
  exact rt_i () hQ hx hb hr hlk hP hD hS ⟨Nat.zero_le _, Nat.zero_le _⟩ dX9_pairs_30 h
def wp_X9_told (pT : Int32) (pF : Nat → Int32) (mFi : Int32) (mRi : Int32) (mBe : Int64) (mWc : Int32) (mIP : Int32) (a1 : Int32) (Qp : Int32 → (Int32) → Prop) : Prop :=
  ((a1 = 0 → Qp mRi mFi) ∧
   (¬ a1 = 0 → ((a1 = 1 → Qp (Int64.toInt32 mBe) mFi) ∧
   (¬ a1 = 1 → ((a1 = 2 → Qp pT mFi) ∧
   (¬ a1 = 2 → ((a1 = 3 → wp_X9_pairs pT pF (fun (r_5 : Int32) => Qp r_5 mFi)) ∧
   (¬ a1 = 3 → ((a1 = 4 → Qp mWc mFi) ∧
   (¬ a1 = 4 → ((a1 = 5 → ((mIP = 0 → Qp 0 mFi) ∧
   (¬ mIP = 0 → Qp 1 mFi))) ∧
   (¬ a1 = 5 → ((a1 = 6 → Qp mFi mFi) ∧
   (¬ a1 = 6 → wp_X9_found mFi (-1) (fun (r_10 : Int32) (mFi_11 : Int32) => Qp r_10 mFi_11)))))))))))))))
theorem inn_X9_told_8 : ∀ w ∈ u_ws RX8 TX8 5, w ∈ wsX9_told := fun _ h => List.mem_cons_of_mem _ (List.mem_append_right _ h)
theorem inn_X9_told_9 : ∀ w ∈ u_ws RX9 TX9 32, w ∈ wsX9_told := fun _ h => List.mem_cons_of_mem _ (List.mem_append_left _ (List.mem_append_right _ h))
def rm_X9_told : Room := { frames := 2, cells := 0, slots := 0, locals := 45 }
set_option maxHeartbeats 4000000 in
set_option maxRecDepth 100000 in
theorem ct_X9_told {l : Launch} {D : va_G} {cI cJ cZ cE cD cK : ClassId} {ad : Nat → Nat} {ud : Nat → Nat → Nat} {pT : Int32} {pK : Nat → Int32} {pN : Nat → Int32} {pF : Nat → Int32} {pS : Nat → Int32} {qT : Int32} {qK : Nat → Int32} {qN : Nat → Int32} {qF : Nat → Int32} {qS : Nat → Int32} {mKe : Int32} {mUn : Int32} {mFi : Int32} {mRi : Int32} {mBe : Int64} {mWc : Int32} {mAK : Int32} {mSh : Int32} {mIP : Int32} {mUS : Nat → Int32} {mWa : Nat → Int32} {mWi : Nat → Int32} {mSi : Nat → Int32} {mRo : Nat → Int64} {mSp : Nat → Int64} {mRw : Nat → Int32} {mSn : Nat → Int32} {mBg : Nat → Int32} {mLa : Nat → Int32} {mMo : Nat → Int32} {mRm : Nat → Int64} {mOw : Nat → Int64} {mGo : Nat → Int32} {mFr : Nat → Int32} {mQu : Nat → Int32} {mCh : Nat → Int64} {mPB : Nat → Int32} {mPS : Nat → Int32} {mFs : Nat → Int32} {ub : Nat → Nat} {uT : Nat → Int32} {uK : Nat → Nat → Int32} {uN : Nat → Nat → Int32} {uF : Nat → Nat → Int32} {uS : Nat → Nat → Int32}   {a1 : Int32} {Qp : Int32 → (Int32) → Prop}   (h : wp_X9_told pT pF mFi mRi mBe mWc mIP a1 Qp) : CTi l yX9_told wsX9_told rm_X9_told D (tyL cI cJ cZ cE cD cK) [.ref (ad 0), .int a1] (WM cI cJ cZ cK ad ud pT pK pN pF pS qT qK qN qF qS mKe mUn mFi mRi mBe mWc mAK mSh mIP mUS mWa mWi mSi mRo mSp mRw mSn mBg mLa mMo mRm mOw mGo mFr mQu mCh mPB mPS mFs ub uT uK uN uF uS) (fun (r : Int32) (u : (Int32)) => Qp r u) (fun u : (Int32) => (WM cI cJ cZ cK ad ud pT pK pN pF pS qT qK qN qF qS mKe mUn u mRi mBe mWc mAK mSh mIP mUS mWa mWi mSi mRo mSp mRw mSn mBg mLa mMo mRm mOw mGo mFr mQu mCh mPB mPS mFs ub uT uK uN uF uS)) 0 0 := by
  refine ent_i (cc := cX9_told) (maxL := 2) (ret := (some .int)) (by decide) rfl (Nat.le_of_ble_eq_true rfl) ?_
  intro p e s m args below meth c A Q hQ hx hb hr hml hown hts hlk hA hAB hP hD hS ls hl
  have hown : s.vm.findClass RX9 = some m.cls := hown
  have hl : lv_has ls 2 [(0, .ref (ad 0)), (1, .int a1)] := hl
  generalize hH : s.heap = H at hP ⊢
  have hS : va_S A s.heap H [] := by rw [← hH]; exact hS
  clear hH
  generalize ([] : List Loc) = locs at hS ⊢
  refine lv_iload_n hx hb dX9_told_0 rfl (lv_at hl 1 rfl) ?_
  by_cases c_1 : a1 = 0
  · have h := h.1 c_1
    refine lv_tableIn (tgt := 44) hx hb dX9_told_1 (by rw [c_1]; decide) (by rw [c_1]; decide) (by rw [c_1]; rfl) (by decide) ?_
    refine lv_aload_n hx hb dX9_told_44 rfl (lv_at hl 0 rfl) ?_
    refine va_get (D := D) (ci := 9) (C := RX9) (T := TX9) (N := 32) hx hb hts inn_X9_told_9 hown hAB.1 hP 0 rfl rfl 7 (by decide) (hts (.fieldLink RX9 157 "BarnBenchModel" "ring" "I") (by decide +kernel)) (fun _ h9 => h9) rfl dX9_told_45 ?_
    exact rt_i (mFi) hQ hx hb hr hlk hP hD hS ⟨Nat.zero_le _, Nat.zero_le _⟩ dX9_told_48 h
  · have h := h.2 c_1
    by_cases c_2 : a1 = 1
    · have h := h.1 c_2
      refine lv_tableIn (tgt := 49) hx hb dX9_told_1 (by rw [c_2]; decide) (by rw [c_2]; decide) (by rw [c_2]; rfl) (by decide) ?_
      refine lv_aload_n hx hb dX9_told_49 rfl (lv_at hl 0 rfl) ?_
      refine va_get (D := D) (ci := 9) (C := RX9) (T := TX9) (N := 32) hx hb hts inn_X9_told_9 hown hAB.1 hP 0 rfl rfl 8 (by decide) (hts (.fieldLink RX9 27 "BarnBenchModel" "below" "J") (by decide +kernel)) (fun _ h9 => h9) rfl dX9_told_50 ?_
      refine lv_l2i hx hb dX9_told_53 rfl ?_
      exact rt_i (mFi) hQ hx hb hr hlk hP hD hS ⟨Nat.zero_le _, Nat.zero_le _⟩ dX9_told_54 h
    · have h := h.2 c_2
      by_cases c_3 : a1 = 2
      · have h := h.1 c_3
        refine lv_tableIn (tgt := 55) hx hb dX9_told_1 (by rw [c_3]; decide) (by rw [c_3]; decide) (by rw [c_3]; rfl) (by decide) ?_
        refine lv_aload_n hx hb dX9_told_55 rfl (lv_at hl 0 rfl) ?_
        refine va_get (D := D) (ci := 9) (C := RX9) (T := TX9) (N := 32) hx hb hts inn_X9_told_9 hown hAB.1 hP 0 rfl rfl 0 (by decide) (hts (.fieldLink RX9 10 "BarnBenchModel" "b" "LBarnBenchModel$Book;") (by decide +kernel)) (fun _ h9 => h9) rfl dX9_told_56 ?_
        refine va_get (D := D) (ci := 8) (C := RX8) (T := TX8) (N := 5) hx hb hts inn_X9_told_8 hown hAB.1 hP 1 rfl rfl 0 (by decide) (hts (.fieldLink RX9 94 "BarnBenchModel$Book" "tasks" "I") (by decide +kernel)) (fun _ h9 => h9) rfl dX9_told_59 ?_
        exact rt_i (mFi) hQ hx hb hr hlk hP hD hS ⟨Nat.zero_le _, Nat.zero_le _⟩ dX9_told_62 h
      · have h := h.2 c_3
        by_cases c_4 : a1 = 3
        · have h := h.1 c_4
          refine lv_tableIn (tgt := 63) hx hb dX9_told_1 (by rw [c_4]; decide) (by rw [c_4]; decide) (by rw [c_4]; rfl) (by decide) ?_
          refine lv_aload_n hx hb dX9_told_63 rfl (lv_at hl 0 rfl) ?_
          refine cl_i hD hS hA (va_runV (As := []) (rest := []) ⟨hx, hb, hml, hown, hts⟩ (ct_X9_pairs h H.size) (cwV 0 hts gX9_told_X9_pairs rfl rfl rfl (by decide +kernel) ⟨Nat.le_of_ble_eq_true rfl, Nat.le_of_ble_eq_true rfl⟩) ⟨CPre.blind, va_recv hAB.1 hP (ci := 9) (q0 := 0) rfl rfl, wd_pre hAB hP hD hS hA⟩ rfl rfl hl.1 rfl (lv_room (Nat.le_of_ble_eq_true rfl)) dX9_told_64 ⟨Nat.zero_le _, Nat.zero_le _⟩) (fun r_5 u H locs h hP hD hS => ?_)
          exact rt_i (mFi) hQ hx hb hr hlk hP hD hS ⟨Nat.zero_le _, Nat.zero_le _⟩ dX9_told_67 h
        · have h := h.2 c_4
          by_cases c_6 : a1 = 4
          · have h := h.1 c_6
            refine lv_tableIn (tgt := 68) hx hb dX9_told_1 (by rw [c_6]; decide) (by rw [c_6]; decide) (by rw [c_6]; rfl) (by decide) ?_
            refine lv_aload_n hx hb dX9_told_68 rfl (lv_at hl 0 rfl) ?_
            refine va_get (D := D) (ci := 9) (C := RX9) (T := TX9) (N := 32) hx hb hts inn_X9_told_9 hown hAB.1 hP 0 rfl rfl 9 (by decide) (hts (.fieldLink RX9 275 "BarnBenchModel" "waiting" "I") (by decide +kernel)) (fun _ h9 => h9) rfl dX9_told_69 ?_
            exact rt_i (mFi) hQ hx hb hr hlk hP hD hS ⟨Nat.zero_le _, Nat.zero_le _⟩ dX9_told_72 h
          · have h := h.2 c_6
            by_cases c_7 : a1 = 5
            · have h := h.1 c_7
              refine lv_tableIn (tgt := 73) hx hb dX9_told_1 (by rw [c_7]; decide) (by rw [c_7]; decide) (by rw [c_7]; rfl) (by decide) ?_
              refine lv_aload_n hx hb dX9_told_73 rfl (lv_at hl 0 rfl) ?_
              refine va_get (D := D) (ci := 9) (C := RX9) (T := TX9) (N := 32) hx hb hts inn_X9_told_9 hown hAB.1 hP 0 rfl rfl 28 (by decide) (hts (.fieldLink RX9 121 "BarnBenchModel" "isPlanned" "Z") (by decide +kernel)) (fun _ h9 => h9) rfl dX9_told_74 ?_
              refine lv_if_eq (tgt := 84) hx hb dX9_told_77 (by decide) (fun c_8 => ?_) (fun c_8 => ?_)
              · have h := h.1 c_8
                refine lv_iconst (v := 0) hx hb dX9_told_84 (by decide) ?_
                exact rt_i (mFi) hQ hx hb hr hlk hP hD hS ⟨Nat.zero_le _, Nat.zero_le _⟩ dX9_told_85 h
              · have h := h.2 c_8
                refine lv_iconst (v := 1) hx hb dX9_told_80 (by decide) ?_
                refine lv_goto (tgt := 85) hx hb dX9_told_81 (by decide) ?_
                exact rt_i (mFi) hQ hx hb hr hlk hP hD hS ⟨Nat.zero_le _, Nat.zero_le _⟩ dX9_told_85 h
            · have h := h.2 c_7
              by_cases c_9 : a1 = 6
              · have h := h.1 c_9
                refine lv_tableIn (tgt := 86) hx hb dX9_told_1 (by rw [c_9]; decide) (by rw [c_9]; decide) (by rw [c_9]; rfl) (by decide) ?_
                refine lv_aload_n hx hb dX9_told_86 rfl (lv_at hl 0 rfl) ?_
                refine va_get (D := D) (ci := 9) (C := RX9) (T := TX9) (N := 32) hx hb hts inn_X9_told_9 hown hAB.1 hP 0 rfl rfl 6 (by decide) (hts (.fieldLink RX9 90 "BarnBenchModel" "findings" "I") (by decide +kernel)) (fun _ h9 => h9) rfl dX9_told_87 ?_
                exact rt_i (mFi) hQ hx hb hr hlk hP hD hS ⟨Nat.zero_le _, Nat.zero_le _⟩ dX9_told_90 h
              · have h := h.2 c_9
                refine lv_tableOut (tgt := 91) hx hb dX9_told_1 (tb_out7 c_1 c_2 c_3 c_4 c_6 c_7 c_9) (by decide) ?_
                refine lv_aload_n hx hb dX9_told_91 rfl (lv_at hl 0 rfl) ?_
                refine lv_iconst (v := (-1)) hx hb dX9_told_92 (by decide) ?_
                refine cl_i hD hS hA (va_runV (As := [.int (-1)]) (rest := []) ⟨hx, hb, hml, hown, hts⟩ (ct_X9_found h H.size) (cwV 1 hts gX9_told_X9_found rfl rfl rfl (by decide +kernel) ⟨Nat.le_of_ble_eq_true rfl, Nat.le_of_ble_eq_true rfl⟩) ⟨CPre.blind, va_recv hAB.1 hP (ci := 9) (q0 := 0) rfl rfl, wd_pre hAB hP hD hS hA⟩ rfl rfl hl.1 rfl (lv_room (Nat.le_of_ble_eq_true rfl)) dX9_told_93 ⟨Nat.zero_le _, Nat.zero_le _⟩) (fun r_10 mFi_11 H locs h hP hD hS => ?_)
                have hP : va_P D vwCl (WM cI cJ cZ cK ad ud pT pK pN pF pS qT qK qN qF qS mKe mUn mFi_11 mRi mBe mWc mAK mSh mIP mUS mWa mWi mSi mRo mSp mRw mSn mBg mLa mMo mRm mOw mGo mFr mQu mCh mPB mPS mFs ub uT uK uN uF uS) H := hP
                have hD : va_D A (WM cI cJ cZ cK ad ud pT pK pN pF pS qT qK qN qF qS mKe mUn mFi_11 mRi mBe mWc mAK mSh mIP mUS mWa mWi mSi mRo mSp mRw mSn mBg mLa mMo mRm mOw mGo mFr mQu mCh mPB mPS mFs ub uT uK uN uF uS) := hD
                exact rt_i (mFi_11) hQ hx hb hr hlk hP hD hS ⟨Nat.zero_le _, Nat.zero_le _⟩ dX9_told_96 h
def wp_X9_tell (mFi : Int32) (mWc : Int32) (mWa : Nat → Int32) (a1 : Int32) (Qp : Int32 → (Int32) → (Int32) → (Nat → Int32) → Prop) : Prop :=
  ((¬ mWc = 60 → vp_in mWc 60 ∧ ∀ mWa_2 : Nat → Int32, mWa_2 = upd mWa (Int32.toNatClampNeg mWc) a1 → ∀ mWc_4 : Int32, mWc_4 = (mWc + 1) → Qp mWc_4 mFi mWc_4 mWa_2) ∧
   (mWc = 60 → wp_X9_found mFi (-5) (fun (r_6 : Int32) (mFi_7 : Int32) => Qp r_6 mFi_7 mWc mWa)))
theorem inn_X9_tell_9 : ∀ w ∈ u_ws RX9 TX9 32, w ∈ wsX9_tell := fun _ h => List.mem_cons_of_mem _ (List.mem_append_right _ h)
def rm_X9_tell : Room := { frames := 1, cells := 0, slots := 0, locals := 21 }
set_option maxHeartbeats 4000000 in
set_option maxRecDepth 100000 in
theorem ct_X9_tell {l : Launch} {D : va_G} {cI cJ cZ cE cD cK : ClassId} {ad : Nat → Nat} {ud : Nat → Nat → Nat} {pT : Int32} {pK : Nat → Int32} {pN : Nat → Int32} {pF : Nat → Int32} {pS : Nat → Int32} {qT : Int32} {qK : Nat → Int32} {qN : Nat → Int32} {qF : Nat → Int32} {qS : Nat → Int32} {mKe : Int32} {mUn : Int32} {mFi : Int32} {mRi : Int32} {mBe : Int64} {mWc : Int32} {mAK : Int32} {mSh : Int32} {mIP : Int32} {mUS : Nat → Int32} {mWa : Nat → Int32} {mWi : Nat → Int32} {mSi : Nat → Int32} {mRo : Nat → Int64} {mSp : Nat → Int64} {mRw : Nat → Int32} {mSn : Nat → Int32} {mBg : Nat → Int32} {mLa : Nat → Int32} {mMo : Nat → Int32} {mRm : Nat → Int64} {mOw : Nat → Int64} {mGo : Nat → Int32} {mFr : Nat → Int32} {mQu : Nat → Int32} {mCh : Nat → Int64} {mPB : Nat → Int32} {mPS : Nat → Int32} {mFs : Nat → Int32} {ub : Nat → Nat} {uT : Nat → Int32} {uK : Nat → Nat → Int32} {uN : Nat → Nat → Int32} {uF : Nat → Nat → Int32} {uS : Nat → Nat → Int32}   {a1 : Int32} {Qp : Int32 → (Int32) → (Int32) → (Nat → Int32) → Prop}   (h : wp_X9_tell mFi mWc mWa a1 Qp) : CTi l yX9_tell wsX9_tell rm_X9_tell D (tyL cI cJ cZ cE cD cK) [.ref (ad 0), .int a1] (WM cI cJ cZ cK ad ud pT pK pN pF pS qT qK qN qF qS mKe mUn mFi mRi mBe mWc mAK mSh mIP mUS mWa mWi mSi mRo mSp mRw mSn mBg mLa mMo mRm mOw mGo mFr mQu mCh mPB mPS mFs ub uT uK uN uF uS) (fun (r : Int32) (u : (Int32) × (Int32) × (Nat → Int32)) => Qp r u.1 u.2.1 u.2.2) (fun u : (Int32) × (Int32) × (Nat → Int32) => (WM cI cJ cZ cK ad ud pT pK pN pF pS qT qK qN qF qS mKe mUn u.1 mRi mBe u.2.1 mAK mSh mIP mUS u.2.2 mWi mSi mRo mSp mRw mSn mBg mLa mMo mRm mOw mGo mFr mQu mCh mPB mPS mFs ub uT uK uN uF uS)) 0 0 := by
  refine ent_i (cc := cX9_tell) (maxL := 2) (ret := (some .int)) (by decide) rfl (Nat.le_of_ble_eq_true rfl) ?_
  intro p e s m args below meth c A Q hQ hx hb hr hml hown hts hlk hA hAB hP hD hS ls hl
  have hown : s.vm.findClass RX9 = some m.cls := hown
  have hl : lv_has ls 2 [(0, .ref (ad 0)), (1, .int a1)] := hl
  generalize hH : s.heap = H at hP ⊢
  have hS : va_S A s.heap H [] := by rw [← hH]; exact hS
  clear hH
  generalize ([] : List Loc) = locs at hS ⊢
  refine lv_aload_n hx hb dX9_tell_0 rfl (lv_at hl 0 rfl) ?_
  refine va_get (D := D) (ci := 9) (C := RX9) (T := TX9) (N := 32) hx hb hts inn_X9_tell_9 hown hAB.1 hP 0 rfl rfl 9 (by decide) (hts (.fieldLink RX9 275 "BarnBenchModel" "waiting" "I") (by decide +kernel)) (fun _ h9 => h9) rfl dX9_tell_1 ?_
  refine lv_bipush (v := 60) hx hb dX9_tell_4 (by decide) ?_
  refine lv_icmp_ne (tgt := 16) hx hb dX9_tell_6 (by decide) (fun c_1 => ?_) (fun c_1 => ?_)
  · have h := h.1 c_1
    refine lv_aload_n hx hb dX9_tell_16 rfl (lv_at hl 0 rfl) ?_
    refine va_get (D := D) (ci := 9) (C := RX9) (T := TX9) (N := 32) hx hb hts inn_X9_tell_9 hown hAB.1 hP 0 rfl rfl 10 (by decide) (hts (.fieldLink RX9 31 "BarnBenchModel" "wait" "[I") (by decide +kernel)) (fun _ h9 => h9) rfl dX9_tell_17 ?_
    refine lv_aload_n hx hb dX9_tell_20 rfl (lv_at hl 0 rfl) ?_
    refine va_get (D := D) (ci := 9) (C := RX9) (T := TX9) (N := 32) hx hb hts inn_X9_tell_9 hown hAB.1 hP 0 rfl rfl 9 (by decide) (hts (.fieldLink RX9 275 "BarnBenchModel" "waiting" "I") (by decide +kernel)) (fun _ h9 => h9) rfl dX9_tell_21 ?_
    refine lv_iload_n hx hb dX9_tell_24 rfl (lv_at hl 1 rfl) ?_
    refine sM_13 hx hb hAB hP hD hS h.1 dX9_tell_25 (fun mWa_2 H locs e_3 hP hD hS => ?_)
    have h := h.2
    have h := h mWa_2 e_3
    refine lv_aload_n hx hb dX9_tell_26 rfl (lv_at hl 0 rfl) ?_
    refine lv_dup hx hb dX9_tell_27 rfl ?_
    refine va_get (D := D) (ci := 9) (C := RX9) (T := TX9) (N := 32) hx hb hts inn_X9_tell_9 hown hAB.1 hP 0 rfl rfl 9 (by decide) (hts (.fieldLink RX9 275 "BarnBenchModel" "waiting" "I") (by decide +kernel)) (fun _ h9 => h9) rfl dX9_tell_28 ?_
    refine lv_iconst (v := 1) hx hb dX9_tell_31 (by decide) ?_
    refine lv_iadd hx hb dX9_tell_32 ?_
    refine fM_0_waiting hx hb hAB hP hD hS hts inn_X9_tell_9 hown (hts (.fieldLink RX9 275 "BarnBenchModel" "waiting" "I") (by decide +kernel)) dX9_tell_33 (fun mWc_4 H locs e_5 hP hD hS => ?_)
    have h := h mWc_4 e_5
    refine lv_aload_n hx hb dX9_tell_36 rfl (lv_at hl 0 rfl) ?_
    refine va_get (D := D) (ci := 9) (C := RX9) (T := TX9) (N := 32) hx hb hts inn_X9_tell_9 hown hAB.1 hP 0 rfl rfl 9 (by decide) (hts (.fieldLink RX9 275 "BarnBenchModel" "waiting" "I") (by decide +kernel)) (fun _ h9 => h9) rfl dX9_tell_37 ?_
    exact rt_i (mFi, mWc_4, mWa_2) hQ hx hb hr hlk hP hD hS ⟨Nat.zero_le _, Nat.zero_le _⟩ dX9_tell_40 h
  · have h := h.2 c_1
    refine lv_aload_n hx hb dX9_tell_9 rfl (lv_at hl 0 rfl) ?_
    refine lv_bipush (v := (-5)) hx hb dX9_tell_10 (by decide) ?_
    refine cl_i hD hS hA (va_runV (As := [.int (-5)]) (rest := []) ⟨hx, hb, hml, hown, hts⟩ (ct_X9_found h H.size) (cwV 1 hts gX9_tell_X9_found rfl rfl rfl (by decide +kernel) ⟨Nat.le_of_ble_eq_true rfl, Nat.le_of_ble_eq_true rfl⟩) ⟨CPre.blind, va_recv hAB.1 hP (ci := 9) (q0 := 0) rfl rfl, wd_pre hAB hP hD hS hA⟩ rfl rfl hl.1 rfl (lv_room (Nat.le_of_ble_eq_true rfl)) dX9_tell_12 ⟨Nat.zero_le _, Nat.zero_le _⟩) (fun r_6 mFi_7 H locs h hP hD hS => ?_)
    have hP : va_P D vwCl (WM cI cJ cZ cK ad ud pT pK pN pF pS qT qK qN qF qS mKe mUn mFi_7 mRi mBe mWc mAK mSh mIP mUS mWa mWi mSi mRo mSp mRw mSn mBg mLa mMo mRm mOw mGo mFr mQu mCh mPB mPS mFs ub uT uK uN uF uS) H := hP
    have hD : va_D A (WM cI cJ cZ cK ad ud pT pK pN pF pS qT qK qN qF qS mKe mUn mFi_7 mRi mBe mWc mAK mSh mIP mUS mWa mWi mSi mRo mSp mRw mSn mBg mLa mMo mRm mOw mGo mFr mQu mCh mPB mPS mFs ub uT uK uN uF uS) := hD
    exact rt_i (mFi_7, mWc, mWa) hQ hx hb hr hlk hP hD hS ⟨Nat.zero_le _, Nat.zero_le _⟩ dX9_tell_15 h
def wp_X9_keep (pT : Int32) (pK : Nat → Int32) (pN : Nat → Int32) (pF : Nat → Int32) (pS : Nat → Int32) (qT : Int32) (qK : Nat → Int32) (qN : Nat → Int32) (qF : Nat → Int32) (qS : Nat → Int32) (mKe : Int32)  (Qp : Int32 → (Int32) → (Nat → Int32) → (Nat → Int32) → (Nat → Int32) → (Nat → Int32) → (Int32) → Prop) : Prop :=
  wp_X8_be pT pK pN pF pS qT qK qN qF qS (fun (qT_1 : Int32) (qK_2 : Nat → Int32) (qN_3 : Nat → Int32) (qF_4 : Nat → Int32) (qS_5 : Nat → Int32) => ∀ mKe_6 : Int32, mKe_6 = 1 → Qp pT qT_1 qK_2 qN_3 qF_4 qS_5 mKe_6)
theorem inn_X9_keep_8 : ∀ w ∈ u_ws RX8 TX8 5, w ∈ wsX9_keep := fun _ h => List.mem_cons_of_mem _ (List.mem_append_right _ h)
theorem inn_X9_keep_9 : ∀ w ∈ u_ws RX9 TX9 32, w ∈ wsX9_keep := fun _ h => List.mem_cons_of_mem _ (List.mem_append_left _ (List.mem_append_right _ h))
def rm_X9_keep : Room := { frames := 1, cells := 0, slots := 0, locals := 22 }
set_option maxHeartbeats 4000000 in
set_option maxRecDepth 100000 in
theorem ct_X9_keep {l : Launch} {D : va_G} {cI cJ cZ cE cD cK : ClassId} {ad : Nat → Nat} {ud : Nat → Nat → Nat} {pT : Int32} {pK : Nat → Int32} {pN : Nat → Int32} {pF : Nat → Int32} {pS : Nat → Int32} {qT : Int32} {qK : Nat → Int32} {qN : Nat → Int32} {qF : Nat → Int32} {qS : Nat → Int32} {mKe : Int32} {mUn : Int32} {mFi : Int32} {mRi : Int32} {mBe : Int64} {mWc : Int32} {mAK : Int32} {mSh : Int32} {mIP : Int32} {mUS : Nat → Int32} {mWa : Nat → Int32} {mWi : Nat → Int32} {mSi : Nat → Int32} {mRo : Nat → Int64} {mSp : Nat → Int64} {mRw : Nat → Int32} {mSn : Nat → Int32} {mBg : Nat → Int32} {mLa : Nat → Int32} {mMo : Nat → Int32} {mRm : Nat → Int64} {mOw : Nat → Int64} {mGo : Nat → Int32} {mFr : Nat → Int32} {mQu : Nat → Int32} {mCh : Nat → Int64} {mPB : Nat → Int32} {mPS : Nat → Int32} {mFs : Nat → Int32} {ub : Nat → Nat} {uT : Nat → Int32} {uK : Nat → Nat → Int32} {uN : Nat → Nat → Int32} {uF : Nat → Nat → Int32} {uS : Nat → Nat → Int32}    {Qp : Int32 → (Int32) → (Nat → Int32) → (Nat → Int32) → (Nat → Int32) → (Nat → Int32) → (Int32) → Prop}   (h : wp_X9_keep pT pK pN pF pS qT qK qN qF qS mKe Qp) : CTi l yX9_keep wsX9_keep rm_X9_keep D (tyL cI cJ cZ cE cD cK) [.ref (ad 0)] (WM cI cJ cZ cK ad ud pT pK pN pF pS qT qK qN qF qS mKe mUn mFi mRi mBe mWc mAK mSh mIP mUS mWa mWi mSi mRo mSp mRw mSn mBg mLa mMo mRm mOw mGo mFr mQu mCh mPB mPS mFs ub uT uK uN uF uS) (fun (r : Int32) (u : (Int32) × (Nat → Int32) × (Nat → Int32) × (Nat → Int32) × (Nat → Int32) × (Int32)) => Qp r u.1 u.2.1 u.2.2.1 u.2.2.2.1 u.2.2.2.2.1 u.2.2.2.2.2) (fun u : (Int32) × (Nat → Int32) × (Nat → Int32) × (Nat → Int32) × (Nat → Int32) × (Int32) => (WM cI cJ cZ cK ad ud pT pK pN pF pS u.1 u.2.1 u.2.2.1 u.2.2.2.1 u.2.2.2.2.1 u.2.2.2.2.2 mUn mFi mRi mBe mWc mAK mSh mIP mUS mWa mWi mSi mRo mSp mRw mSn mBg mLa mMo mRm mOw mGo mFr mQu mCh mPB mPS mFs ub uT uK uN uF uS)) 0 0 := by
  refine ent_i (cc := cX9_keep) (maxL := 1) (ret := (some .int)) (by decide) rfl (Nat.le_of_ble_eq_true rfl) ?_
  intro p e s m args below meth c A Q hQ hx hb hr hml hown hts hlk hA hAB hP hD hS ls hl
  have hown : s.vm.findClass RX9 = some m.cls := hown
  have hl : lv_has ls 1 [(0, .ref (ad 0))] := hl
  generalize hH : s.heap = H at hP ⊢
  have hS : va_S A s.heap H [] := by rw [← hH]; exact hS
  clear hH
  generalize ([] : List Loc) = locs at hS ⊢
  refine lv_aload_n hx hb dX9_keep_0 rfl (lv_at hl 0 rfl) ?_
  refine va_get (D := D) (ci := 9) (C := RX9) (T := TX9) (N := 32) hx hb hts inn_X9_keep_9 hown hAB.1 hP 0 rfl rfl 1 (by decide) (hts (.fieldLink RX9 16 "BarnBenchModel" "kept" "LBarnBenchModel$Book;") (by decide +kernel)) (fun _ h9 => h9) rfl dX9_keep_1 ?_
  refine lv_aload_n hx hb dX9_keep_4 rfl (lv_at hl 0 rfl) ?_
  refine va_get (D := D) (ci := 9) (C := RX9) (T := TX9) (N := 32) hx hb hts inn_X9_keep_9 hown hAB.1 hP 0 rfl rfl 0 (by decide) (hts (.fieldLink RX9 10 "BarnBenchModel" "b" "LBarnBenchModel$Book;") (by decide +kernel)) (fun _ h9 => h9) rfl dX9_keep_5 ?_
  refine cl_v hD hS hA (va_runV (As := [.ref (ad 1)]) (rest := []) ⟨hx, hb, hml, hown, hts⟩ (ct_X8_be_1 h H.size) (cwV 1 hts gX9_keep_X8_be rfl rfl rfl (by decide +kernel) ⟨Nat.le_of_ble_eq_true rfl, Nat.le_of_ble_eq_true rfl⟩) ⟨CPre.blind, va_recv hAB.1 hP (ci := 8) (q0 := 6) rfl rfl, wd_pre hAB hP hD hS hA⟩ rfl rfl hl.1 rfl (lv_room (Nat.le_of_ble_eq_true rfl)) dX9_keep_8 ⟨Nat.zero_le _, Nat.zero_le _⟩) (fun u H locs h hP hD hS => ?_)
  obtain ⟨qT_1, qK_2, qN_3, qF_4, qS_5⟩ := u
  have hP : va_P D vwCl (WM cI cJ cZ cK ad ud pT pK pN pF pS qT_1 qK_2 qN_3 qF_4 qS_5 mKe mUn mFi mRi mBe mWc mAK mSh mIP mUS mWa mWi mSi mRo mSp mRw mSn mBg mLa mMo mRm mOw mGo mFr mQu mCh mPB mPS mFs ub uT uK uN uF uS) H := hP
  have hD : va_D A (WM cI cJ cZ cK ad ud pT pK pN pF pS qT_1 qK_2 qN_3 qF_4 qS_5 mKe mUn mFi mRi mBe mWc mAK mSh mIP mUS mWa mWi mSi mRo mSp mRw mSn mBg mLa mMo mRm mOw mGo mFr mQu mCh mPB mPS mFs ub uT uK uN uF uS) := hD
  refine lv_aload_n hx hb dX9_keep_11 rfl (lv_at hl 0 rfl) ?_
  refine lv_iconst (v := 1) hx hb dX9_keep_12 (by decide) ?_
  refine fM_0_keeps hx hb hAB hP hD hS hts inn_X9_keep_9 hown (hts (.fieldLink RX9 282 "BarnBenchModel" "keeps" "Z") (by decide +kernel)) (by decide) dX9_keep_13 (fun mKe_6 H locs e_7 hP hD hS => ?_)
  have h := h mKe_6 e_7
  refine lv_aload_n hx hb dX9_keep_16 rfl (lv_at hl 0 rfl) ?_
  refine va_get (D := D) (ci := 9) (C := RX9) (T := TX9) (N := 32) hx hb hts inn_X9_keep_9 hown hAB.1 hP 0 rfl rfl 0 (by decide) (hts (.fieldLink RX9 10 "BarnBenchModel" "b" "LBarnBenchModel$Book;") (by decide +kernel)) (fun _ h9 => h9) rfl dX9_keep_17 ?_
  refine va_get (D := D) (ci := 8) (C := RX8) (T := TX8) (N := 5) hx hb hts inn_X9_keep_8 hown hAB.1 hP 1 rfl rfl 0 (by decide) (hts (.fieldLink RX9 94 "BarnBenchModel$Book" "tasks" "I") (by decide +kernel)) (fun _ h9 => h9) rfl dX9_keep_20 ?_
  exact rt_i (qT_1, qK_2, qN_3, qF_4, qS_5, mKe_6) hQ hx hb hr hlk hP hD hS ⟨Nat.zero_le _, Nat.zero_le _⟩ dX9_keep_23 h
def wp_X9_back (pT : Int32) (pK : Nat → Int32) (pN : Nat → Int32) (pF : Nat → Int32) (pS : Nat → Int32) (qT : Int32) (qK : Nat → Int32) (qN : Nat → Int32) (qF : Nat → Int32) (qS : Nat → Int32) (mKe : Int32) (mUn : Int32) (mFi : Int32) (mAK : Int32) (mIP : Int32)  (Qp : Int32 → (Int32) → (Nat → Int32) → (Nat → Int32) → (Nat → Int32) → (Nat → Int32) → (Int32) → (Int32) → (Int32) → (Int32) → Prop) : Prop :=
  ((¬ mKe = 0 → wp_X8_be_2 pT pK pN pF pS qT qK qN qF qS (fun (pT_2 : Int32) (pK_3 : Nat → Int32) (pN_4 : Nat → Int32) (pF_5 : Nat → Int32) (pS_6 : Nat → Int32) => ∀ mUn_7 : Int32, mUn_7 = 0 → wp_X9_changes mAK mIP (fun (mAK_9 : Int32) (mIP_10 : Int32) => Qp pT_2 pT_2 pK_3 pN_4 pF_5 pS_6 mUn_7 mFi mAK_9 mIP_10))) ∧
   (mKe = 0 → wp_X9_found mFi (-7) (fun (r_11 : Int32) (mFi_12 : Int32) => Qp r_11 pT pK pN pF pS mUn mFi_12 mAK mIP)))
theorem inn_X9_back_8 : ∀ w ∈ u_ws RX8 TX8 5, w ∈ wsX9_back := fun _ h => List.mem_cons_of_mem _ (List.mem_append_right _ h)
theorem inn_X9_back_9 : ∀ w ∈ u_ws RX9 TX9 32, w ∈ wsX9_back := fun _ h => List.mem_cons_of_mem _ (List.mem_append_left _ (List.mem_append_right _ h))
def rm_X9_back : Room := { frames := 1, cells := 0, slots := 0, locals := 22 }
set_option maxHeartbeats 4000000 in
set_option maxRecDepth 100000 in
theorem ct_X9_back {l : Launch} {D : va_G} {cI cJ cZ cE cD cK : ClassId} {ad : Nat → Nat} {ud : Nat → Nat → Nat} {pT : Int32} {pK : Nat → Int32} {pN : Nat → Int32} {pF : Nat → Int32} {pS : Nat → Int32} {qT : Int32} {qK : Nat → Int32} {qN : Nat → Int32} {qF : Nat → Int32} {qS : Nat → Int32} {mKe : Int32} {mUn : Int32} {mFi : Int32} {mRi : Int32} {mBe : Int64} {mWc : Int32} {mAK : Int32} {mSh : Int32} {mIP : Int32} {mUS : Nat → Int32} {mWa : Nat → Int32} {mWi : Nat → Int32} {mSi : Nat → Int32} {mRo : Nat → Int64} {mSp : Nat → Int64} {mRw : Nat → Int32} {mSn : Nat → Int32} {mBg : Nat → Int32} {mLa : Nat → Int32} {mMo : Nat → Int32} {mRm : Nat → Int64} {mOw : Nat → Int64} {mGo : Nat → Int32} {mFr : Nat → Int32} {mQu : Nat → Int32} {mCh : Nat → Int64} {mPB : Nat → Int32} {mPS : Nat → Int32} {mFs : Nat → Int32} {ub : Nat → Nat} {uT : Nat → Int32} {uK : Nat → Nat → Int32} {uN : Nat → Nat → Int32} {uF : Nat → Nat → Int32} {uS : Nat → Nat → Int32}    {Qp : Int32 → (Int32) → (Nat → Int32) → (Nat → Int32) → (Nat → Int32) → (Nat → Int32) → (Int32) → (Int32) → (Int32) → (Int32) → Prop}   (h : wp_X9_back pT pK pN pF pS qT qK qN qF qS mKe mUn mFi mAK mIP Qp) : CTi l yX9_back wsX9_back rm_X9_back D (tyL cI cJ cZ cE cD cK) [.ref (ad 0)] (WM cI cJ cZ cK ad ud pT pK pN pF pS qT qK qN qF qS mKe mUn mFi mRi mBe mWc mAK mSh mIP mUS mWa mWi mSi mRo mSp mRw mSn mBg mLa mMo mRm mOw mGo mFr mQu mCh mPB mPS mFs ub uT uK uN uF uS) (fun (r : Int32) (u : (Int32) × (Nat → Int32) × (Nat → Int32) × (Nat → Int32) × (Nat → Int32) × (Int32) × (Int32) × (Int32) × (Int32)) => Qp r u.1 u.2.1 u.2.2.1 u.2.2.2.1 u.2.2.2.2.1 u.2.2.2.2.2.1 u.2.2.2.2.2.2.1 u.2.2.2.2.2.2.2.1 u.2.2.2.2.2.2.2.2) (fun u : (Int32) × (Nat → Int32) × (Nat → Int32) × (Nat → Int32) × (Nat → Int32) × (Int32) × (Int32) × (Int32) × (Int32) => (WM cI cJ cZ cK ad ud u.1 u.2.1 u.2.2.1 u.2.2.2.1 u.2.2.2.2.1 qT qK qN qF qS mKe u.2.2.2.2.2.1 u.2.2.2.2.2.2.1 mRi mBe mWc u.2.2.2.2.2.2.2.1 mSh u.2.2.2.2.2.2.2.2 mUS mWa mWi mSi mRo mSp mRw mSn mBg mLa mMo mRm mOw mGo mFr mQu mCh mPB mPS mFs ub uT uK uN uF uS)) 0 0 := by
  refine ent_i (cc := cX9_back) (maxL := 1) (ret := (some .int)) (by decide) rfl (Nat.le_of_ble_eq_true rfl) ?_
  intro p e s m args below meth c A Q hQ hx hb hr hml hown hts hlk hA hAB hP hD hS ls hl
  have hown : s.vm.findClass RX9 = some m.cls := hown
  have hl : lv_has ls 1 [(0, .ref (ad 0))] := hl
  generalize hH : s.heap = H at hP ⊢
  have hS : va_S A s.heap H [] := by rw [← hH]; exact hS
  clear hH
  generalize ([] : List Loc) = locs at hS ⊢
  refine lv_aload_n hx hb dX9_back_0 rfl (lv_at hl 0 rfl) ?_
  refine va_get (D := D) (ci := 9) (C := RX9) (T := TX9) (N := 32) hx hb hts inn_X9_back_9 hown hAB.1 hP 0 rfl rfl 2 (by decide) (hts (.fieldLink RX9 282 "BarnBenchModel" "keeps" "Z") (by decide +kernel)) (fun _ h9 => h9) rfl dX9_back_1 ?_
  refine lv_if_ne (tgt := 14) hx hb dX9_back_4 (by decide) (fun c_1 => ?_) (fun c_1 => ?_)
  · have h := h.1 c_1
    refine lv_aload_n hx hb dX9_back_14 rfl (lv_at hl 0 rfl) ?_
    refine va_get (D := D) (ci := 9) (C := RX9) (T := TX9) (N := 32) hx hb hts inn_X9_back_9 hown hAB.1 hP 0 rfl rfl 0 (by decide) (hts (.fieldLink RX9 10 "BarnBenchModel" "b" "LBarnBenchModel$Book;") (by decide +kernel)) (fun _ h9 => h9) rfl dX9_back_15 ?_
    refine lv_aload_n hx hb dX9_back_18 rfl (lv_at hl 0 rfl) ?_
    refine va_get (D := D) (ci := 9) (C := RX9) (T := TX9) (N := 32) hx hb hts inn_X9_back_9 hown hAB.1 hP 0 rfl rfl 1 (by decide) (hts (.fieldLink RX9 16 "BarnBenchModel" "kept" "LBarnBenchModel$Book;") (by decide +kernel)) (fun _ h9 => h9) rfl dX9_back_19 ?_
    refine cl_v hD hS hA (va_runV (As := [.ref (ad 6)]) (rest := []) ⟨hx, hb, hml, hown, hts⟩ (ct_X8_be_2 h H.size) (cwV 1 hts gX9_back_X8_be rfl rfl rfl (by decide +kernel) ⟨Nat.le_of_ble_eq_true rfl, Nat.le_of_ble_eq_true rfl⟩) ⟨CPre.blind, va_recv hAB.1 hP (ci := 8) (q0 := 1) rfl rfl, wd_pre hAB hP hD hS hA⟩ rfl rfl hl.1 rfl (lv_room (Nat.le_of_ble_eq_true rfl)) dX9_back_22 ⟨Nat.zero_le _, Nat.zero_le _⟩) (fun u H locs h hP hD hS => ?_)
    obtain ⟨pT_2, pK_3, pN_4, pF_5, pS_6⟩ := u
    have hP : va_P D vwCl (WM cI cJ cZ cK ad ud pT_2 pK_3 pN_4 pF_5 pS_6 qT qK qN qF qS mKe mUn mFi mRi mBe mWc mAK mSh mIP mUS mWa mWi mSi mRo mSp mRw mSn mBg mLa mMo mRm mOw mGo mFr mQu mCh mPB mPS mFs ub uT uK uN uF uS) H := hP
    have hD : va_D A (WM cI cJ cZ cK ad ud pT_2 pK_3 pN_4 pF_5 pS_6 qT qK qN qF qS mKe mUn mFi mRi mBe mWc mAK mSh mIP mUS mWa mWi mSi mRo mSp mRw mSn mBg mLa mMo mRm mOw mGo mFr mQu mCh mPB mPS mFs ub uT uK uN uF uS) := hD
    refine lv_aload_n hx hb dX9_back_25 rfl (lv_at hl 0 rfl) ?_
    refine lv_iconst (v := 0) hx hb dX9_back_26 (by decide) ?_
    refine fM_0_undos hx hb hAB hP hD hS hts inn_X9_back_9 hown (hts (.fieldLink RX9 111 "BarnBenchModel" "undos" "I") (by decide +kernel)) dX9_back_27 (fun mUn_7 H locs e_8 hP hD hS => ?_)
    have h := h mUn_7 e_8
    refine lv_aload_n hx hb dX9_back_30 rfl (lv_at hl 0 rfl) ?_
    refine cl_v hD hS hA (va_runV (As := []) (rest := []) ⟨hx, hb, hml, hown, hts⟩ (ct_X9_changes h H.size) (cwV 0 hts gX9_back_X9_changes rfl rfl rfl (by decide +kernel) ⟨Nat.le_of_ble_eq_true rfl, Nat.le_of_ble_eq_true rfl⟩) ⟨CPre.blind, va_recv hAB.1 hP (ci := 9) (q0 := 0) rfl rfl, wd_pre hAB hP hD hS hA⟩ rfl rfl hl.1 rfl (lv_room (Nat.le_of_ble_eq_true rfl)) dX9_back_31 ⟨Nat.zero_le _, Nat.zero_le _⟩) (fun u H locs h hP hD hS => ?_)
    obtain ⟨mAK_9, mIP_10⟩ := u
    have hP : va_P D vwCl (WM cI cJ cZ cK ad ud pT_2 pK_3 pN_4 pF_5 pS_6 qT qK qN qF qS mKe mUn_7 mFi mRi mBe mWc mAK_9 mSh mIP_10 mUS mWa mWi mSi mRo mSp mRw mSn mBg mLa mMo mRm mOw mGo mFr mQu mCh mPB mPS mFs ub uT uK uN uF uS) H := hP
    have hD : va_D A (WM cI cJ cZ cK ad ud pT_2 pK_3 pN_4 pF_5 pS_6 qT qK qN qF qS mKe mUn_7 mFi mRi mBe mWc mAK_9 mSh mIP_10 mUS mWa mWi mSi mRo mSp mRw mSn mBg mLa mMo mRm mOw mGo mFr mQu mCh mPB mPS mFs ub uT uK uN uF uS) := hD
    refine lv_aload_n hx hb dX9_back_34 rfl (lv_at hl 0 rfl) ?_
    refine va_get (D := D) (ci := 9) (C := RX9) (T := TX9) (N := 32) hx hb hts inn_X9_back_9 hown hAB.1 hP 0 rfl rfl 0 (by decide) (hts (.fieldLink RX9 10 "BarnBenchModel" "b" "LBarnBenchModel$Book;") (by decide +kernel)) (fun _ h9 => h9) rfl dX9_back_35 ?_
    refine va_get (D := D) (ci := 8) (C := RX8) (T := TX8) (N := 5) hx hb hts inn_X9_back_8 hown hAB.1 hP 1 rfl rfl 0 (by decide) (hts (.fieldLink RX9 94 "BarnBenchModel$Book" "tasks" "I") (by decide +kernel)) (fun _ h9 => h9) rfl dX9_back_38 ?_
    exact rt_i (pT_2, pK_3, pN_4, pF_5, pS_6, mUn_7, mFi, mAK_9, mIP_10) hQ hx hb hr hlk hP hD hS ⟨Nat.zero_le _, Nat.zero_le _⟩ dX9_back_41 h
  · have h := h.2 c_1
    refine lv_aload_n hx hb dX9_back_7 rfl (lv_at hl 0 rfl) ?_
    refine lv_bipush (v := (-7)) hx hb dX9_back_8 (by decide) ?_
    refine cl_i hD hS hA (va_runV (As := [.int (-7)]) (rest := []) ⟨hx, hb, hml, hown, hts⟩ (ct_X9_found h H.size) (cwV 1 hts gX9_back_X9_found rfl rfl rfl (by decide +kernel) ⟨Nat.le_of_ble_eq_true rfl, Nat.le_of_ble_eq_true rfl⟩) ⟨CPre.blind, va_recv hAB.1 hP (ci := 9) (q0 := 0) rfl rfl, wd_pre hAB hP hD hS hA⟩ rfl rfl hl.1 rfl (lv_room (Nat.le_of_ble_eq_true rfl)) dX9_back_10 ⟨Nat.zero_le _, Nat.zero_le _⟩) (fun r_11 mFi_12 H locs h hP hD hS => ?_)
    have hP : va_P D vwCl (WM cI cJ cZ cK ad ud pT pK pN pF pS qT qK qN qF qS mKe mUn mFi_12 mRi mBe mWc mAK mSh mIP mUS mWa mWi mSi mRo mSp mRw mSn mBg mLa mMo mRm mOw mGo mFr mQu mCh mPB mPS mFs ub uT uK uN uF uS) H := hP
    have hD : va_D A (WM cI cJ cZ cK ad ud pT pK pN pF pS qT qK qN qF qS mKe mUn mFi_12 mRi mBe mWc mAK mSh mIP mUS mWa mWi mSi mRo mSp mRw mSn mBg mLa mMo mRm mOw mGo mFr mQu mCh mPB mPS mFs ub uT uK uN uF uS) := hD
    exact rt_i (pT, pK, pN, pF, pS, mUn, mFi_12, mAK, mIP) hQ hx hb hr hlk hP hD hS ⟨Nat.zero_le _, Nat.zero_le _⟩ dX9_back_13 h
def wp_X9_undo_b56 (Qp : Int32 → (Int32) → (Nat → Int32) → (Nat → Int32) → (Nat → Int32) → (Nat → Int32) → (Int32) → (Int32) → (Int32) → (Int32) → Prop) (pT_1 : Int32) (pK_2 : Nat → Int32) (pN_3 : Nat → Int32) (pF_4 : Nat → Int32) (pS_5 : Nat → Int32) (mUn_6 : Int32) (mFi_7 : Int32) (mAK_8 : Int32) (mIP_9 : Int32) : Prop :=
  Qp mUn_6 pT_1 pK_2 pN_3 pF_4 pS_5 mUn_6 mFi_7 mAK_8 mIP_9
def wp_X9_undo (pT : Int32) (pK : Nat → Int32) (pN : Nat → Int32) (pF : Nat → Int32) (pS : Nat → Int32) (mUn : Int32) (mFi : Int32) (mAK : Int32) (mIP : Int32) (mUS : Nat → Int32) (ub : Nat → Nat) (uT : Nat → Int32) (uK : Nat → Nat → Int32) (uN : Nat → Nat → Int32) (uF : Nat → Nat → Int32) (uS : Nat → Nat → Int32)  (Qp : Int32 → (Int32) → (Nat → Int32) → (Nat → Int32) → (Nat → Int32) → (Nat → Int32) → (Int32) → (Int32) → (Int32) → (Int32) → Prop) : Prop :=
  ((¬ mUn = 0 → ∀ mUn_11 : Int32, mUn_11 = (mUn - 1) → vp_in mUn_11 30 ∧ (ub (Int32.toNatClampNeg mUn_11)) < 30 ∧ wp_X8_be_4 (uF (ub (Int32.toNatClampNeg mUn_11))) (uK (ub (Int32.toNatClampNeg mUn_11))) (uN (ub (Int32.toNatClampNeg mUn_11))) (uS (ub (Int32.toNatClampNeg mUn_11))) (uT (ub (Int32.toNatClampNeg mUn_11))) pT pK pN pF pS (fun (pT_14 : Int32) (pK_15 : Nat → Int32) (pN_16 : Nat → Int32) (pF_17 : Nat → Int32) (pS_18 : Nat → Int32) => vp_in mUn_11 30 ∧ ((¬ (mUS (Int32.toNatClampNeg mUn_11)) = 0 → wp_X9_undo_b56 Qp pT_14 pK_15 pN_16 pF_17 pS_18 mUn_11 mFi mAK mIP) ∧
   ((mUS (Int32.toNatClampNeg mUn_11)) = 0 → wp_X9_changes mAK mIP (fun (mAK_20 : Int32) (mIP_21 : Int32) => wp_X9_undo_b56 Qp pT_14 pK_15 pN_16 pF_17 pS_18 mUn_11 mFi mAK_20 mIP_21))))) ∧
   (mUn = 0 → wp_X9_found mFi (-7) (fun (r_22 : Int32) (mFi_23 : Int32) => Qp r_22 pT pK pN pF pS mUn mFi_23 mAK mIP)))
theorem inn_X9_undo_9 : ∀ w ∈ u_ws RX9 TX9 32, w ∈ wsX9_undo := fun _ h => List.mem_cons_of_mem _ (List.mem_append_left _ (List.mem_append_right _ h))
def rm_X9_undo : Room := { frames := 1, cells := 0, slots := 0, locals := 22 }
set_option maxHeartbeats 4000000 in
set_option maxRecDepth 100000 in
theorem ct_X9_undo {l : Launch} {D : va_G} {cI cJ cZ cE cD cK : ClassId} {ad : Nat → Nat} {ud : Nat → Nat → Nat} {pT : Int32} {pK : Nat → Int32} {pN : Nat → Int32} {pF : Nat → Int32} {pS : Nat → Int32} {qT : Int32} {qK : Nat → Int32} {qN : Nat → Int32} {qF : Nat → Int32} {qS : Nat → Int32} {mKe : Int32} {mUn : Int32} {mFi : Int32} {mRi : Int32} {mBe : Int64} {mWc : Int32} {mAK : Int32} {mSh : Int32} {mIP : Int32} {mUS : Nat → Int32} {mWa : Nat → Int32} {mWi : Nat → Int32} {mSi : Nat → Int32} {mRo : Nat → Int64} {mSp : Nat → Int64} {mRw : Nat → Int32} {mSn : Nat → Int32} {mBg : Nat → Int32} {mLa : Nat → Int32} {mMo : Nat → Int32} {mRm : Nat → Int64} {mOw : Nat → Int64} {mGo : Nat → Int32} {mFr : Nat → Int32} {mQu : Nat → Int32} {mCh : Nat → Int64} {mPB : Nat → Int32} {mPS : Nat → Int32} {mFs : Nat → Int32} {ub : Nat → Nat} {uT : Nat → Int32} {uK : Nat → Nat → Int32} {uN : Nat → Nat → Int32} {uF : Nat → Nat → Int32} {uS : Nat → Nat → Int32}    {Qp : Int32 → (Int32) → (Nat → Int32) → (Nat → Int32) → (Nat → Int32) → (Nat → Int32) → (Int32) → (Int32) → (Int32) → (Int32) → Prop}   (h : wp_X9_undo pT pK pN pF pS mUn mFi mAK mIP mUS ub uT uK uN uF uS Qp) : CTi l yX9_undo wsX9_undo rm_X9_undo D (tyL cI cJ cZ cE cD cK) [.ref (ad 0)] (WM cI cJ cZ cK ad ud pT pK pN pF pS qT qK qN qF qS mKe mUn mFi mRi mBe mWc mAK mSh mIP mUS mWa mWi mSi mRo mSp mRw mSn mBg mLa mMo mRm mOw mGo mFr mQu mCh mPB mPS mFs ub uT uK uN uF uS) (fun (r : Int32) (u : (Int32) × (Nat → Int32) × (Nat → Int32) × (Nat → Int32) × (Nat → Int32) × (Int32) × (Int32) × (Int32) × (Int32)) => Qp r u.1 u.2.1 u.2.2.1 u.2.2.2.1 u.2.2.2.2.1 u.2.2.2.2.2.1 u.2.2.2.2.2.2.1 u.2.2.2.2.2.2.2.1 u.2.2.2.2.2.2.2.2) (fun u : (Int32) × (Nat → Int32) × (Nat → Int32) × (Nat → Int32) × (Nat → Int32) × (Int32) × (Int32) × (Int32) × (Int32) => (WM cI cJ cZ cK ad ud u.1 u.2.1 u.2.2.1 u.2.2.2.1 u.2.2.2.2.1 qT qK qN qF qS mKe u.2.2.2.2.2.1 u.2.2.2.2.2.2.1 mRi mBe mWc u.2.2.2.2.2.2.2.1 mSh u.2.2.2.2.2.2.2.2 mUS mWa mWi mSi mRo mSp mRw mSn mBg mLa mMo mRm mOw mGo mFr mQu mCh mPB mPS mFs ub uT uK uN uF uS)) 0 0 := by
  refine ent_i (cc := cX9_undo) (maxL := 1) (ret := (some .int)) (by decide) rfl (Nat.le_of_ble_eq_true rfl) ?_
  intro p e s m args below meth c A Q hQ hx hb hr hml hown hts hlk hA hAB hP hD hS ls hl
  have hown : s.vm.findClass RX9 = some m.cls := hown
  have hl : lv_has ls 1 [(0, .ref (ad 0))] := hl
  generalize hH : s.heap = H at hP ⊢
  have hS : va_S A s.heap H [] := by rw [← hH]; exact hS
  clear hH
  generalize ([] : List Loc) = locs at hS ⊢
  have B56 : ∀ (pT_1 : Int32) (pK_2 : Nat → Int32) (pN_3 : Nat → Int32) (pF_4 : Nat → Int32) (pS_5 : Nat → Int32) (mUn_6 : Int32) (mFi_7 : Int32) (mAK_8 : Int32) (mIP_9 : Int32), wp_X9_undo_b56 Qp pT_1 pK_2 pN_3 pF_4 pS_5 mUn_6 mFi_7 mAK_8 mIP_9 → ∀ (H : Heap) (locs : List Loc) (ls : Array Slot), va_P D vwCl (WM cI cJ cZ cK ad ud pT_1 pK_2 pN_3 pF_4 pS_5 qT qK qN qF qS mKe mUn_6 mFi_7 mRi mBe mWc mAK_8 mSh mIP_9 mUS mWa mWi mSi mRo mSp mRw mSn mBg mLa mMo mRm mOw mGo mFr mQu mCh mPB mPS mFs ub uT uK uN uF uS) H → va_D A (WM cI cJ cZ cK ad ud pT_1 pK_2 pN_3 pF_4 pS_5 qT qK qN qF qS mKe mUn_6 mFi_7 mRi mBe mWc mAK_8 mSh mIP_9 mUS mWa mWi mSi mRo mSp mRw mSn mBg mLa mMo mRm mOw mGo mFr mQu mCh mPB mPS mFs ub uT uK uN uF uS) → va_S A s.heap H locs → lv_has ls 1 [(0, .ref (ad 0))] → W p l e (headSpec wsX9_undo rm_X9_undo).room s m args below meth c H locs 0 0 Q (F0 m 56 ls []) := by
    intro pT_1 pK_2 pN_3 pF_4 pS_5 mUn_6 mFi_7 mAK_8 mIP_9 h H locs ls hP hD hS hl
    refine lv_aload_n hx hb dX9_undo_56 rfl (lv_at hl 0 rfl) ?_
    refine va_get (D := D) (ci := 9) (C := RX9) (T := TX9) (N := 32) hx hb hts inn_X9_undo_9 hown hAB.1 hP 0 rfl rfl 3 (by decide) (hts (.fieldLink RX9 111 "BarnBenchModel" "undos" "I") (by decide +kernel)) (fun _ h9 => h9) rfl dX9_undo_57 ?_
    exact rt_i (pT_1, pK_2, pN_3, pF_4, pS_5, mUn_6, mFi_7, mAK_8, mIP_9) hQ hx hb hr hlk hP hD hS ⟨Nat.zero_le _, Nat.zero_le _⟩ dX9_undo_60 h
  refine lv_aload_n hx hb dX9_undo_0 rfl (lv_at hl 0 rfl) ?_
  refine va_get (D := D) (ci := 9) (C := RX9) (T := TX9) (N := 32) hx hb hts inn_X9_undo_9 hown hAB.1 hP 0 rfl rfl 3 (by decide) (hts (.fieldLink RX9 111 "BarnBenchModel" "undos" "I") (by decide +kernel)) (fun _ h9 => h9) rfl dX9_undo_1 ?_
  refine lv_if_ne (tgt := 14) hx hb dX9_undo_4 (by decide) (fun c_10 => ?_) (fun c_10 => ?_)
  · have h := h.1 c_10
    refine lv_aload_n hx hb dX9_undo_14 rfl (lv_at hl 0 rfl) ?_
    refine lv_dup hx hb dX9_undo_15 rfl ?_
    refine va_get (D := D) (ci := 9) (C := RX9) (T := TX9) (N := 32) hx hb hts inn_X9_undo_9 hown hAB.1 hP 0 rfl rfl 3 (by decide) (hts (.fieldLink RX9 111 "BarnBenchModel" "undos" "I") (by decide +kernel)) (fun _ h9 => h9) rfl dX9_undo_16 ?_
    refine lv_iconst (v := 1) hx hb dX9_undo_19 (by decide) ?_
    refine lv_isub hx hb dX9_undo_20 ?_
    refine fM_0_undos hx hb hAB hP hD hS hts inn_X9_undo_9 hown (hts (.fieldLink RX9 111 "BarnBenchModel" "undos" "I") (by decide +kernel)) dX9_undo_21 (fun mUn_11 H locs e_12 hP hD hS => ?_)
    have h := h mUn_11 e_12
    refine lv_aload_n hx hb dX9_undo_24 rfl (lv_at hl 0 rfl) ?_
    refine va_get (D := D) (ci := 9) (C := RX9) (T := TX9) (N := 32) hx hb hts inn_X9_undo_9 hown hAB.1 hP 0 rfl rfl 0 (by decide) (hts (.fieldLink RX9 10 "BarnBenchModel" "b" "LBarnBenchModel$Book;") (by decide +kernel)) (fun _ h9 => h9) rfl dX9_undo_25 ?_
    refine lv_aload_n hx hb dX9_undo_28 rfl (lv_at hl 0 rfl) ?_
    refine va_get (D := D) (ci := 9) (C := RX9) (T := TX9) (N := 32) hx hb hts inn_X9_undo_9 hown hAB.1 hP 0 rfl rfl 4 (by decide) (hts (.fieldLink RX9 19 "BarnBenchModel" "undoBooks" "[LBarnBenchModel$Book;") (by decide +kernel)) (fun _ h9 => h9) rfl dX9_undo_29 ?_
    refine lv_aload_n hx hb dX9_undo_32 rfl (lv_at hl 0 rfl) ?_
    refine va_get (D := D) (ci := 9) (C := RX9) (T := TX9) (N := 32) hx hb hts inn_X9_undo_9 hown hAB.1 hP 0 rfl rfl 3 (by decide) (hts (.fieldLink RX9 111 "BarnBenchModel" "undos" "I") (by decide +kernel)) (fun _ h9 => h9) rfl dX9_undo_33 ?_
    have hi_13 := h.2.1
    refine va_aldq hx hb hAB.1 hP 11 5 rfl rfl h.1 dX9_undo_36 ?_
    rw [if_pos (vp_lt h.1)]
    have h := h.2.2
    show W _ _ _ _ _ _ _ _ _ _ _ _ _ _ _ (F0 _ _ _ (.ref (ud (ub (Int32.toNatClampNeg mUn_11)) 0) :: _))
    refine cl_v hD hS hA (va_runV (As := [.ref (ud (ub (Int32.toNatClampNeg mUn_11)) 0)]) (rest := []) ⟨hx, hb, hml, hown, hts⟩ (ct_X8_be_4 hi_13 rfl rfl rfl rfl rfl h H.size) (cwV 1 hts gX9_undo_X8_be rfl rfl rfl (by decide +kernel) ⟨Nat.le_of_ble_eq_true rfl, Nat.le_of_ble_eq_true rfl⟩) ⟨CPre.blind, va_recv hAB.1 hP (ci := 8) (q0 := 1) rfl rfl, wd_pre hAB hP hD hS hA⟩ rfl rfl hl.1 rfl (lv_room (Nat.le_of_ble_eq_true rfl)) dX9_undo_37 ⟨Nat.zero_le _, Nat.zero_le _⟩) (fun u H locs h hP hD hS => ?_)
    obtain ⟨pT_14, pK_15, pN_16, pF_17, pS_18⟩ := u
    have hP : va_P D vwCl (WM cI cJ cZ cK ad ud pT_14 pK_15 pN_16 pF_17 pS_18 qT qK qN qF qS mKe mUn_11 mFi mRi mBe mWc mAK mSh mIP mUS mWa mWi mSi mRo mSp mRw mSn mBg mLa mMo mRm mOw mGo mFr mQu mCh mPB mPS mFs ub uT uK uN uF uS) H := hP
    have hD : va_D A (WM cI cJ cZ cK ad ud pT_14 pK_15 pN_16 pF_17 pS_18 qT qK qN qF qS mKe mUn_11 mFi mRi mBe mWc mAK mSh mIP mUS mWa mWi mSi mRo mSp mRw mSn mBg mLa mMo mRm mOw mGo mFr mQu mCh mPB mPS mFs ub uT uK uN uF uS) := hD
    refine lv_aload_n hx hb dX9_undo_40 rfl (lv_at hl 0 rfl) ?_
    refine va_get (D := D) (ci := 9) (C := RX9) (T := TX9) (N := 32) hx hb hts inn_X9_undo_9 hown hAB.1 hP 0 rfl rfl 5 (by decide) (hts (.fieldLink RX9 23 "BarnBenchModel" "undoSpan" "[Z") (by decide +kernel)) (fun _ h9 => h9) rfl dX9_undo_41 ?_
    refine lv_aload_n hx hb dX9_undo_44 rfl (lv_at hl 0 rfl) ?_
    refine va_get (D := D) (ci := 9) (C := RX9) (T := TX9) (N := 32) hx hb hts inn_X9_undo_9 hown hAB.1 hP 0 rfl rfl 3 (by decide) (hts (.fieldLink RX9 111 "BarnBenchModel" "undos" "I") (by decide +kernel)) (fun _ h9 => h9) rfl dX9_undo_45 ?_
    refine va_zald hx hb hAB.1 hP 12 2 rfl rfl h.1 dX9_undo_48 ?_
    have h := h.2
    refine lv_if_ne (tgt := 56) hx hb dX9_undo_49 (by decide) (fun c_19 => ?_) (fun c_19 => ?_)
    · have h := h.1 c_19
      exact B56 pT_14 pK_15 pN_16 pF_17 pS_18 mUn_11 mFi mAK mIP h H locs ls hP hD hS (lv_sub hl [0] rfl)
    · have h := h.2 c_19
      refine lv_aload_n hx hb dX9_undo_52 rfl (lv_at hl 0 rfl) ?_
      refine cl_v hD hS hA (va_runV (As := []) (rest := []) ⟨hx, hb, hml, hown, hts⟩ (ct_X9_changes h H.size) (cwV 0 hts gX9_undo_X9_changes rfl rfl rfl (by decide +kernel) ⟨Nat.le_of_ble_eq_true rfl, Nat.le_of_ble_eq_true rfl⟩) ⟨CPre.blind, va_recv hAB.1 hP (ci := 9) (q0 := 0) rfl rfl, wd_pre hAB hP hD hS hA⟩ rfl rfl hl.1 rfl (lv_room (Nat.le_of_ble_eq_true rfl)) dX9_undo_53 ⟨Nat.zero_le _, Nat.zero_le _⟩) (fun u H locs h hP hD hS => ?_)
      obtain ⟨mAK_20, mIP_21⟩ := u
      have hP : va_P D vwCl (WM cI cJ cZ cK ad ud pT_14 pK_15 pN_16 pF_17 pS_18 qT qK qN qF qS mKe mUn_11 mFi mRi mBe mWc mAK_20 mSh mIP_21 mUS mWa mWi mSi mRo mSp mRw mSn mBg mLa mMo mRm mOw mGo mFr mQu mCh mPB mPS mFs ub uT uK uN uF uS) H := hP
      have hD : va_D A (WM cI cJ cZ cK ad ud pT_14 pK_15 pN_16 pF_17 pS_18 qT qK qN qF qS mKe mUn_11 mFi mRi mBe mWc mAK_20 mSh mIP_21 mUS mWa mWi mSi mRo mSp mRw mSn mBg mLa mMo mRm mOw mGo mFr mQu mCh mPB mPS mFs ub uT uK uN uF uS) := hD
      exact B56 pT_14 pK_15 pN_16 pF_17 pS_18 mUn_11 mFi mAK_20 mIP_21 h H locs ls hP hD hS (lv_sub hl [0] rfl)
  · have h := h.2 c_10
    refine lv_aload_n hx hb dX9_undo_7 rfl (lv_at hl 0 rfl) ?_
    refine lv_bipush (v := (-7)) hx hb dX9_undo_8 (by decide) ?_
    refine cl_i hD hS hA (va_runV (As := [.int (-7)]) (rest := []) ⟨hx, hb, hml, hown, hts⟩ (ct_X9_found h H.size) (cwV 1 hts gX9_undo_X9_found rfl rfl rfl (by decide +kernel) ⟨Nat.le_of_ble_eq_true rfl, Nat.le_of_ble_eq_true rfl⟩) ⟨CPre.blind, va_recv hAB.1 hP (ci := 9) (q0 := 0) rfl rfl, wd_pre hAB hP hD hS hA⟩ rfl rfl hl.1 rfl (lv_room (Nat.le_of_ble_eq_true rfl)) dX9_undo_10 ⟨Nat.zero_le _, Nat.zero_le _⟩) (fun r_22 mFi_23 H locs h hP hD hS => ?_)
    have hP : va_P D vwCl (WM cI cJ cZ cK ad ud pT pK pN pF pS qT qK qN qF qS mKe mUn mFi_23 mRi mBe mWc mAK mSh mIP mUS mWa mWi mSi mRo mSp mRw mSn mBg mLa mMo mRm mOw mGo mFr mQu mCh mPB mPS mFs ub uT uK uN uF uS) H := hP
    have hD : va_D A (WM cI cJ cZ cK ad ud pT pK pN pF pS qT qK qN qF qS mKe mUn mFi_23 mRi mBe mWc mAK mSh mIP mUS mWa mWi mSi mRo mSp mRw mSn mBg mLa mMo mRm mOw mGo mFr mQu mCh mPB mPS mFs ub uT uK uN uF uS) := hD
    exact rt_i (pT, pK, pN, pF, pS, mUn, mFi_23, mAK, mIP) hQ hx hb hr hlk hP hD hS ⟨Nat.zero_le _, Nat.zero_le _⟩ dX9_undo_13 h
