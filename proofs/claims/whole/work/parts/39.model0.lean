section UBROW
variable {p : Program} {l : Launch} {e : Env} {R : Room} {s : State} {m : MethodId} {args : Array Value} {below : List Frame} {meth : Method} {c : Code} {H : Heap} {locs : List Loc} {cells slots : Nat} {Q : State → Prop} {cc : ByteArray} {pc : Nat} {ls : Array Slot} {rest : List Value} {D : va_G} {A : Nat → Prop} {Ts : List Cond} {own ref : String} {index : Nat}
variable {cI cJ cZ cE cD cK : ClassId} {ad : Nat → Nat} {ud : Nat → Nat → Nat} {pT : Int32} {pK : Nat → Int32} {pN : Nat → Int32} {pF : Nat → Int32} {pS : Nat → Int32} {qT : Int32} {qK : Nat → Int32} {qN : Nat → Int32} {qF : Nat → Int32} {qS : Nat → Int32} {mKe : Int32} {mUn : Int32} {mFi : Int32} {mRi : Int32} {mBe : Int64} {mWc : Int32} {mAK : Int32} {mSh : Int32} {mIP : Int32} {mUS : Nat → Int32} {mWa : Nat → Int32} {mWi : Nat → Int32} {mSi : Nat → Int32} {mRo : Nat → Int64} {mSp : Nat → Int64} {mRw : Nat → Int32} {mSn : Nat → Int32} {mBg : Nat → Int32} {mLa : Nat → Int32} {mMo : Nat → Int32} {mRm : Nat → Int64} {mOw : Nat → Int64} {mGo : Nat → Int32} {mFr : Nat → Int32} {mQu : Nat → Int32} {mCh : Nat → Int64} {mPB : Nat → Int32} {mPS : Nat → Int32} {mFs : Nat → Int32} {ub : Nat → Nat} {uT : Nat → Int32} {uK : Nat → Nat → Int32} {uN : Nat → Nat → Int32} {uF : Nat → Nat → Int32} {uS : Nat → Nat → Int32}
/-- which book stands in a place of undoBooks -/
theorem sM_ub {bk : Nat} {i : Int32} (hx : p.tables.exec = Jvm.exec) (hb : c.code = cc) (hAB : AMB D (tyL cI cJ cZ cE cD cK) A s) (hP : va_P D vwCl (WM cI cJ cZ cK ad ud pT pK pN pF pS qT qK qN qF qS mKe mUn mFi mRi mBe mWc mAK mSh mIP mUS mWa mWi mSi mRo mSp mRw mSn mBg mLa mMo mRm mOw mGo mFr mQu mCh mPB mPS mFs ub uT uK uN uF uS) H) (hD : va_D A (WM cI cJ cZ cK ad ud pT pK pN pF pS qT qK qN qF qS mKe mUn mFi mRi mBe mWc mAK mSh mIP mUS mWa mWi mSi mRo mSp mRw mSn mBg mLa mMo mRm mOw mGo mFr mQu mCh mPB mPS mFs ub uT uK uN uF uS)) (hS : va_S A s.heap H locs) (hi : bk < 30) (hin : vp_in i 30) (hdg : decode cc pc = .ok (.aastore, 1)) (kk : ∀ (ub1 : Nat → Nat) (H1 : Heap) (locs1 : List Loc), ub1 = va_up ub i.toNatClampNeg bk → va_P D vwCl (WM cI cJ cZ cK ad ud pT pK pN pF pS qT qK qN qF qS mKe mUn mFi mRi mBe mWc mAK mSh mIP mUS mWa mWi mSi mRo mSp mRw mSn mBg mLa mMo mRm mOw mGo mFr mQu mCh mPB mPS mFs ub1 uT uK uN uF uS) H1 → va_D A (WM cI cJ cZ cK ad ud pT pK pN pF pS qT qK qN qF qS mKe mUn mFi mRi mBe mWc mAK mSh mIP mUS mWa mWi mSi mRo mSp mRw mSn mBg mLa mMo mRm mOw mGo mFr mQu mCh mPB mPS mFs ub1 uT uK uN uF uS) → va_S A s.heap H1 locs1 → W p l e R s m args below meth c H1 locs1 cells slots Q (F0 m (pc + 1) ls rest)) : W p l e R s m args below meth c H locs cells slots Q (F0 m pc ls (.ref (ud bk 0) :: .int i :: .ref (ad 11) :: rest)) := by
  have e : (va_up (fun k => if k < 30 then some (ud (ub k) 0) else none) i.toNatClampNeg (some (ud bk 0)) : Nat → Option Nat) = fun k => if k < 30 then some (ud (va_up ub i.toNatClampNeg bk k) 0) else none := by
    funext k
    by_cases h : k = i.toNatClampNeg
    · subst h; rw [va_up_at, if_pos (vp_lt hin), va_up_at]
    · rw [va_up_of _ _ _ h, va_up_of _ _ _ h]
  refine va_astq hx hb hAB.1 hP hD hS 11 5 (32 + (bk * 5 + 0)) 8 (r := (RX8, TX8, 5)) rfl rfl (gU_0 hi) rfl hin hdg (fun H1 locs1 hP hD hS => ?_)
  rw [e] at hP hD
  exact kk _ H1 locs1 rfl hP hD hS
end UBROW
def undR : Nat → Int32 → Int32 → Int32 → Prop
  | 0, k, o, j => (k = o ∧ j = 1) ∨ (¬ k = o ∧ k ≤ 0 ∧ j = 0)
  | d + 1, k, o, j => (k = o ∧ j = 1) ∨ (¬ k = o ∧ k ≤ 0 ∧ j = 0) ∨ (¬ k = o ∧ ¬ k ≤ 0 ∧ ∃ j0, undR d (if k = 3 then 1 else 0) o j0 ∧ j = (if j0 = 0 then 0 else 1))
def jUnder (k o : Int32) : Int32 := if k = o then 1 else if k ≤ 0 then 0 else if k = 3 then (if (1 : Int32) = o then 1 else if (0 : Int32) = o then 1 else 0) else (if (0 : Int32) = o then 1 else 0)
theorem undR_0 (o : Int32) : undR 0 0 o (if (0 : Int32) = o then 1 else 0) := by
  by_cases h : (0 : Int32) = o
  · exact Or.inl ⟨h, by rw [if_pos h]⟩
  · exact Or.inr ⟨h, by decide, by rw [if_neg h]⟩
theorem undR_z {o : Int32} : undR 1 0 o (if (0 : Int32) = o then 1 else 0) := by
  by_cases h : (0 : Int32) = o
  · exact Or.inl ⟨h, by rw [if_pos h]⟩
  · exact Or.inr (Or.inl ⟨h, by decide, by rw [if_neg h]⟩)
theorem undR_1 (o : Int32) : undR 1 1 o (if (1 : Int32) = o then 1 else if (0 : Int32) = o then 1 else 0) := by
  by_cases h : (1 : Int32) = o
  · exact Or.inl ⟨h, by rw [if_pos h]⟩
  · refine Or.inr (Or.inr ⟨h, by decide, _, undR_0 o, ?_⟩)
    rw [if_neg h]
    by_cases h0 : (0 : Int32) = o
    · rw [if_pos h0]; rfl
    · rw [if_neg h0]; rfl
theorem undR_j (k o : Int32) : undR 2 k o (jUnder k o) := by
  unfold jUnder
  by_cases h : k = o
  · exact Or.inl ⟨h, by rw [if_pos h]⟩
  · rw [if_neg h]
    by_cases h2 : k ≤ 0
    · exact Or.inr (Or.inl ⟨h, h2, by rw [if_pos h2]⟩)
    · rw [if_neg h2]
      by_cases h3 : k = 3
      · refine Or.inr (Or.inr ⟨h, h2, _, by rw [if_pos h3]; exact undR_1 o, ?_⟩)
        rw [if_pos h3]
        by_cases a : (1 : Int32) = o
        · rw [if_pos a]; rfl
        · rw [if_neg a]
          by_cases b : (0 : Int32) = o
          · rw [if_pos b]; rfl
          · rw [if_neg b]; rfl
      · refine Or.inr (Or.inr ⟨h, h2, _, by rw [if_neg h3]; exact undR_z, ?_⟩)
        rw [if_neg h3]
        by_cases b : (0 : Int32) = o
        · rw [if_pos b]; rfl
        · rw [if_neg b]; rfl
def rm_und (d : Nat) : Room := { frames := d, cells := 0, slots := 0, locals := 21 * d }
set_option maxHeartbeats 4000000 in
set_option maxRecDepth 100000 in
theorem ct_und {l : Launch} {D : va_G} {cI cJ cZ cE cD cK : ClassId} {wd : va_W} : ∀ (d : Nat) (k o j : Int32), undR d k o j → ∀ (Qp : Int32 → Prop), Qp j → CTi l yX9_isUnder wsX9_isUnder (rm_und d) D (tyL cI cJ cZ cE cD cK) [.int k, .int o] wd (fun (r : Int32) (_ : Unit) => Qp r) (fun _ : Unit => wd) 0 0 := by
  intro d
  induction d with
  | zero =>
    intro k o j hu Qp hq
    refine ent_i (cc := cX9_isUnder) (maxL := 2) (ret := (some .boolean)) (by decide) rfl (Nat.le_of_ble_eq_true rfl) ?_
    intro p e s m args below meth c A Q hQ hx hb hr hml hown hts hlk hA hAB hP hD hS ls hl
    have hl : lv_has ls 2 [(0, .int k), (1, .int o)] := hl
    refine lv_iload_n hx hb dX9_isUnder_0 rfl (lv_at hl 0 rfl) ?_
    refine lv_iload_n hx hb dX9_isUnder_1 rfl (lv_at hl 1 rfl) ?_
    refine lv_icmp_eq (tgt := 26) hx hb dX9_isUnder_2 (by decide) (fun c1 => ?_) (fun c1 => ?_)
    · refine lv_iconst (v := 1) hx hb dX9_isUnder_26 (by decide) ?_
      refine lv_goto (tgt := 31) hx hb dX9_isUnder_27 (by decide) ?_
      exact rt_z () hQ hx hb hr hlk hP hD hS ⟨Nat.zero_le _, Nat.zero_le _⟩ (by decide) dX9_isUnder_31 ((show j = 1 by rcases hu with h | h; exact h.2; exact absurd c1 h.1) ▸ hq)
    · refine lv_iload_n hx hb dX9_isUnder_5 rfl (lv_at hl 0 rfl) ?_
      refine lv_if_le (tgt := 30) hx hb dX9_isUnder_6 (by decide) (fun c2 => ?_) (fun c2 => ?_)
      · refine lv_iconst (v := 0) hx hb dX9_isUnder_30 (by decide) ?_
        exact rt_z () hQ hx hb hr hlk hP hD hS ⟨Nat.zero_le _, Nat.zero_le _⟩ (by decide) dX9_isUnder_31 ((show j = 0 by rcases hu with h | h; exact absurd h.1 c1; exact h.2.2) ▸ hq)
      · exact absurd hu (by rintro (h | h); exact c1 h.1; exact c2 h.2.1)
  | succ d ih =>
    intro k o j hu Qp hq
    refine ent_i (cc := cX9_isUnder) (maxL := 2) (ret := (some .boolean)) (by decide) rfl (Nat.le_of_ble_eq_true rfl) ?_
    intro p e s m args below meth c A Q hQ hx hb hr hml hown hts hlk hA hAB hP hD hS ls hl
    have hown : s.vm.findClass RX9 = some m.cls := hown
    have hl : lv_has ls 2 [(0, .int k), (1, .int o)] := hl
    generalize hH : s.heap = H at hP ⊢
    have hS : va_S A s.heap H [] := by rw [← hH]; exact hS
    clear hH
    generalize ([] : List Loc) = locs at hS ⊢
    refine lv_iload_n hx hb dX9_isUnder_0 rfl (lv_at hl 0 rfl) ?_
    refine lv_iload_n hx hb dX9_isUnder_1 rfl (lv_at hl 1 rfl) ?_
    refine lv_icmp_eq (tgt := 26) hx hb dX9_isUnder_2 (by decide) (fun c1 => ?_) (fun c1 => ?_)
    · refine lv_iconst (v := 1) hx hb dX9_isUnder_26 (by decide) ?_
      refine lv_goto (tgt := 31) hx hb dX9_isUnder_27 (by decide) ?_
      exact rt_z () hQ hx hb hr hlk hP hD hS ⟨Nat.zero_le _, Nat.zero_le _⟩ (by decide) dX9_isUnder_31 ((show j = 1 by rcases hu with h | h | h; exact h.2; exact absurd c1 h.1; exact absurd c1 h.1) ▸ hq)
    · refine lv_iload_n hx hb dX9_isUnder_5 rfl (lv_at hl 0 rfl) ?_
      refine lv_if_le (tgt := 30) hx hb dX9_isUnder_6 (by decide) (fun c2 => ?_) (fun c2 => ?_)
      · refine lv_iconst (v := 0) hx hb dX9_isUnder_30 (by decide) ?_
        exact rt_z () hQ hx hb hr hlk hP hD hS ⟨Nat.zero_le _, Nat.zero_le _⟩ (by decide) dX9_isUnder_31 ((show j = 0 by rcases hu with h | h | h; exact absurd h.1 c1; exact h.2.2; exact absurd c2 h.2.1) ▸ hq)
      · obtain ⟨j0, hu0, hj⟩ : ∃ j0, undR d (if k = 3 then 1 else 0) o j0 ∧ j = (if j0 = 0 then 0 else 1) := by
          rcases hu with h | h | h
          · exact absurd h.1 c1
          · exact absurd h.2.1 c2
          · exact h.2.2
        have J19 : W p l e (headSpec wsX9_isUnder (rm_und (d + 1))).room s m args below meth c H locs 0 0 Q (F0 m 19 ls [.int (if k = 3 then 1 else 0)]) := by
          refine lv_iload_n hx hb dX9_isUnder_19 rfl (lv_at hl 1 rfl) ?_
          refine cl_i hD hS hA (va_runS (As := [.int (if k = 3 then 1 else 0), .int o]) (rest := []) ⟨hx, hb, hml, hown, hts⟩ (ih _ o j0 hu0 (fun r => r = j0) rfl H.size) (va_cwS 2 hts gX9_isUnder_X9_isUnder rfl rfl rfl (by decide +kernel) ⟨Nat.le_refl _, (show 8 + (2 + 11) + 21 * d ≤ 21 * (d + 1) by omega)⟩) ⟨CPre.blind, wd_pre hAB hP hD hS hA⟩ rfl rfl hl.1 rfl (lv_room (Nat.le_of_ble_eq_true rfl)) dX9_isUnder_20 ⟨Nat.zero_le _, Nat.zero_le _⟩) (fun r u H locs er hP hD hS => ?_)
          subst er
          refine lv_if_eq (tgt := 30) hx hb dX9_isUnder_23 (by decide) (fun c3 => ?_) (fun c3 => ?_)
          · refine lv_iconst (v := 0) hx hb dX9_isUnder_30 (by decide) ?_
            exact rt_z () hQ hx hb hr hlk hP hD hS ⟨Nat.zero_le _, Nat.zero_le _⟩ (by decide) dX9_isUnder_31 ((show j = 0 by rw [hj, if_pos c3]) ▸ hq)
          · refine lv_iconst (v := 1) hx hb dX9_isUnder_26 (by decide) ?_
            refine lv_goto (tgt := 31) hx hb dX9_isUnder_27 (by decide) ?_
            exact rt_z () hQ hx hb hr hlk hP hD hS ⟨Nat.zero_le _, Nat.zero_le _⟩ (by decide) dX9_isUnder_31 ((show j = 1 by rw [hj, if_neg c3]) ▸ hq)
        refine lv_iload_n hx hb dX9_isUnder_9 rfl (lv_at hl 0 rfl) ?_
        refine lv_iconst (v := 3) hx hb dX9_isUnder_10 (by decide) ?_
        refine lv_icmp_ne (tgt := 18) hx hb dX9_isUnder_11 (by decide) (fun c3 => ?_) (fun c3 => ?_)
        · refine lv_iconst (v := 0) hx hb dX9_isUnder_18 (by decide) ?_
          rw [if_neg c3] at J19
          exact J19
        · refine lv_iconst (v := 1) hx hb dX9_isUnder_14 (by decide) ?_
          refine lv_goto (tgt := 19) hx hb dX9_isUnder_15 (by decide) ?_
          rw [if_pos c3] at J19
          exact J19
def wp_X9_isUnder (a0 a1 : Int32) (Qp : Int32 → Prop) : Prop := Qp (jUnder a0 a1)
theorem ct_X9_isUnder {l : Launch} {D : va_G} {cI cJ cZ cE cD cK : ClassId} {wd : va_W} {a0 a1 : Int32} {Qp : Int32 → Prop} (h : wp_X9_isUnder a0 a1 Qp) : CTi l yX9_isUnder wsX9_isUnder (rm_und 2) D (tyL cI cJ cZ cE cD cK) [.int a0, .int a1] wd (fun (r : Int32) (_ : Unit) => Qp r) (fun _ : Unit => wd) 0 0 := by
  exact ct_und 2 a0 a1 _ (undR_j a0 a1) Qp h
