set_option maxHeartbeats 8000000 in
set_option maxRecDepth 100000 in
/-- THE LAW'S LOOP, over steps that keep the relation -/
theorem law_loop {p : Program} {l : Launch} {e : Env} {s : State} {m : MethodId} {below : List Frame} {meth : Method} {c : Code} {b L : Nat} {xs : Nat → Int32} {D : va_G} {cI cJ cZ cE cD cK : ClassId} {ad : Nat → Nat} {dd : Nat → Nat → Nat} {am : Nat → Nat} {ud : Nat → Nat → Nat} {Rel : LRT} (hL : L ≤ 3072) (C0 : lw_At p s m meth c b L xs) (hAB : AMB D (tyL cI cJ cZ cE cD cK) (fun q : Nat => s.heap.size ≤ q) s) (sM : STEP_M Rel) (s0 : STEP_0 Rel) (s1 : STEP_1 Rel) (s2 : STEP_2 Rel) (s3 : STEP_3 Rel) (s4 : STEP_4 Rel) (s5 : STEP_5 Rel) (s6 : STEP_6 Rel) (s7 : STEP_7 Rel) (s8 : STEP_8 Rel) (s9 : STEP_9 Rel) (s10 : STEP_10 Rel) (s11 : STEP_11 Rel) (s12 : STEP_12 Rel) (s13 : STEP_13 Rel) (s14 : STEP_14 Rel) (s15 : STEP_15 Rel) (s16 : STEP_16 Rel) (s17 : STEP_17 Rel) (s18 : STEP_18 Rel) (s19 : STEP_19 Rel) (s20 : STEP_20 Rel) (s21 : STEP_21 Rel) (s22 : STEP_22 Rel) (s23 : STEP_23 Rel) (s24 : STEP_24 Rel) (s25 : STEP_25 Rel) (s26 : STEP_26 Rel) (s27 : STEP_27 Rel) (s28 : STEP_28 Rel) (s29 : STEP_29 Rel) (s30 : STEP_30 Rel) : ∀ (n j : Nat), j ≤ L → L + 1 ≤ j + n → LKN p l e s m below meth c b D cI cJ cZ cE cD cK ad dd am ud Rel (lw_Z below #[Value.ref b] s) (nI j) 18 := by
  intro n
  induction n with
  | zero => intro j h1 h2; exact absurd h2 (by omega)
  | succ n ih =>
    intro j hj hn bd bHK bHP bPF bWC bRi bBe bFi bWa dB dS dN tC tKi tEa tHa tPr tEx tSt tTo tBe kC kKi kEa kHa kPr kEx kSt kTo kBe aC aWh aTa aWa iRo iEa iLa cC nC nFo nQd nRo nBe nEa nMi nHa nER nMR nTh nPa nOu nFr nQu eM eL eC eS eB eE eF eG pT pK pN pF pS qT qK qN qF qS mKe mUn mFi mRi mBe mWc mAK mSh mIP mUS mWa mWi mSi mRo mSp mRw mSn mBg mLa mMo mRm mOw mGo mFr mQu mCh mPB mPS mFs ub uT uK uN uF uS hR H locs ls hP hD hS hl
    obtain ⟨hx, hb, hr, hml, hown, hts0, hX, hbl, hlocks, hgv⟩ := id C0
    have hbA : ¬ (fun q : Nat => s.heap.size ≤ q) b := Nat.not_le.mpr hbl
    have hM := sM _ _ _ _ _ _ _ _ _ _ _ _ _ _ _ _ _ _ _ _ _ _ _ _ _ _ _ _ _ _ _ _ _ _ _ _ _ _ _ _ _ _ _ _ _ _ _ _ _ _ _ _ _ _ _ _ _ _ _ _ _ _ _ _ _ _ _ _ _ _ _ _ _ _ _ _ _ _ _ _ _ _ _ _ _ _ _ _ _ _ _ _ _ _ _ _ _ _ _ _ _ _ _ _ _ hR
    refine lv_iload_n hx hb dL_law_18 rfl (lv_at hl 3 rfl) ?_
    refine lv_aload_n hx hb dL_law_19 rfl (lv_at hl 0 rfl) ?_
    refine va_slen hx hb hX hbl hbA hS dL_law_20 ?_
    refine lv_bipush (v := 6) hx hb dL_law_21 (by decide) ?_
    refine lv_isub hx hb dL_law_23 ?_
    refine lv_icmp_gt (tgt := 1140) hx hb dL_law_24 (by decide) (fun _ => ?_) (fun cc => ?_)
    · refine lv_iconst (v := 1) hx hb dL_law_1140 (by decide) ?_
      refine va_forget (fun q hq => hS.2.2 q hq) ?_
      refine W.widen (k := 600000) (n := 7302250) (by omega) (by omega) ?_
      exact lw_ret hx hb hr hlocks dL_law_1141
    · have hle : j + 6 ≤ L := by
        have a1 : (nI j).toInt = (j : Int) := nI_toInt (by omega)
        have e1 : (nI L).toInt = (L : Int) := nI_toInt (by omega)
        have e6 : (6 : Int32).toInt = 6 := rfl
        have a2 : (nI L - 6).toInt = (L : Int) - 6 := by rw [i_sub (by rw [e1, e6]; omega) (by rw [e1, e6]; omega), e1, e6]
        have a3 : (nI j).toInt ≤ (nI L - 6).toInt := i_le.mp (Int32.not_lt.mp cc)
        rw [a1, a2] at a3
        omega
      have h0 : vp_in (nI j) L := vp_in_nI (by omega) (by omega)
      have h1 : vp_in (nI j + 1) L := by rw [nI_1]; exact vp_in_nI (by omega) (by omega)
      have h2 : vp_in (nI j + 2) L := by rw [show nI j + 2 = nI (j + 2) from nI_add j 2]; exact vp_in_nI (by omega) (by omega)
      have h3 : vp_in (nI j + 3) L := by rw [show nI j + 3 = nI (j + 3) from nI_add j 3]; exact vp_in_nI (by omega) (by omega)
      have h4 : vp_in (nI j + 4) L := by rw [show nI j + 4 = nI (j + 4) from nI_add j 4]; exact vp_in_nI (by omega) (by omega)
      have h5 : vp_in (nI j + 5) L := by rw [show nI j + 5 = nI (j + 5) from nI_add j 5]; exact vp_in_nI (by omega) (by omega)
      have kn : LKN p l e s m below meth c b D cI cJ cZ cE cD cK ad dd am ud Rel (lw_Z below #[Value.ref b] s) (nI j) 1134 := by
        intro bd bHK bHP bPF bWC bRi bBe bFi bWa dB dS dN tC tKi tEa tHa tPr tEx tSt tTo tBe kC kKi kEa kHa kPr kEx kSt kTo kBe aC aWh aTa aWa iRo iEa iLa cC nC nFo nQd nRo nBe nEa nMi nHa nER nMR nTh nPa nOu nFr nQu eM eL eC eS eB eE eF eG pT pK pN pF pS qT qK qN qF qS mKe mUn mFi mRi mBe mWc mAK mSh mIP mUS mWa mWi mSi mRo mSp mRw mSn mBg mLa mMo mRm mOw mGo mFr mQu mCh mPB mPS mFs ub uT uK uN uF uS hR H locs ls hP hD hS hl
        refine lv_iinc (v := nI (j + 6)) (lv' := [(3, .int (nI (j + 6))), (0, .ref b), (1, .ref (ad 0)), (2, .ref (am 0))]) hx hb dL_law_1134 hl (k := 3) rfl (nI_add j 6) (by decide) rfl (fun ls hl => ?_)
        refine lv_goto (tgt := 18) hx hb dL_law_1137 (by decide) ?_
        exact ih (j + 6) hle (by omega) bd bHK bHP bPF bWC bRi bBe bFi bWa dB dS dN tC tKi tEa tHa tPr tEx tSt tTo tBe kC kKi kEa kHa kPr kEx kSt kTo kBe aC aWh aTa aWa iRo iEa iLa cC nC nFo nQd nRo nBe nEa nMi nHa nER nMR nTh nPa nOu nFr nQu eM eL eC eS eB eE eF eG pT pK pN pF pS qT qK qN qF qS mKe mUn mFi mRi mBe mWc mAK mSh mIP mUS mWa mWi mSi mRo mSp mRw mSn mBg mLa mMo mRm mOw mGo mFr mQu mCh mPB mPS mFs ub uT uK uN uF uS hR H locs ls hP hD hS (lv_sub hl [1, 2, 3, 0] rfl)
      refine lv_aload_n hx hb dL_law_27 rfl (lv_at hl 0 rfl) ?_
      refine lv_iload_n hx hb dL_law_28 rfl (lv_at hl 3 rfl) ?_
      refine va_sld hx hb hX hbl hbA hS h0 dL_law_29 ?_
      refine lv_bipush (v := 31) hx hb dL_law_30 (by decide) ?_
      refine lv_iand hx hb dL_law_32 ?_
      generalize xs (nI j).toNatClampNeg &&& 31 = v
      by_cases c0 : v = 0
      · refine lv_tableIn (tgt := 172) hx hb dL_law_33 (by rw [c0]; decide) (by rw [c0]; decide) (by rw [c0]; rfl) (by decide) ?_
        exact law_c0 C0 hAB h0 h1 h2 h3 h4 h5 hM (s0 bHK bHP bPF bWC bRi bBe bFi bWa dB dS dN tC tKi tEa tHa tPr tEx tSt tTo tBe kC kKi kEa kHa kPr kEx kSt kTo kBe aC aWh aTa aWa iRo iEa iLa cC nC nFo nQd nRo nBe nEa nMi nHa nER nMR nTh nPa nOu nFr nQu eM eL eC eS eB eE eF eG pT pK pN pF pS qT qK qN qF qS mKe mUn mFi mRi mBe mWc mAK mSh mIP mUS mWa mWi mSi mRo mSp mRw mSn mBg mLa mMo mRm mOw mGo mFr mQu mCh mPB mPS mFs ub uT uK uN uF uS hR _ _ _) kn H locs ls hP hD hS hl
      by_cases c1 : v = 1
      · refine lv_tableIn (tgt := 215) hx hb dL_law_33 (by rw [c1]; decide) (by rw [c1]; decide) (by rw [c1]; rfl) (by decide) ?_
        exact law_c1 C0 hAB h0 h1 h2 h3 h4 h5 hM (s1 bHK bHP bPF bWC bRi bBe bFi bWa dB dS dN tC tKi tEa tHa tPr tEx tSt tTo tBe kC kKi kEa kHa kPr kEx kSt kTo kBe aC aWh aTa aWa iRo iEa iLa cC nC nFo nQd nRo nBe nEa nMi nHa nER nMR nTh nPa nOu nFr nQu eM eL eC eS eB eE eF eG pT pK pN pF pS qT qK qN qF qS mKe mUn mFi mRi mBe mWc mAK mSh mIP mUS mWa mWi mSi mRo mSp mRw mSn mBg mLa mMo mRm mOw mGo mFr mQu mCh mPB mPS mFs ub uT uK uN uF uS hR _ _ _) kn H locs ls hP hD hS hl
      by_cases c2 : v = 2
      · refine lv_tableIn (tgt := 288) hx hb dL_law_33 (by rw [c2]; decide) (by rw [c2]; decide) (by rw [c2]; rfl) (by decide) ?_
        exact law_c2 C0 hAB h0 h1 h2 h3 h4 h5 hM (s2 bHK bHP bPF bWC bRi bBe bFi bWa dB dS dN tC tKi tEa tHa tPr tEx tSt tTo tBe kC kKi kEa kHa kPr kEx kSt kTo kBe aC aWh aTa aWa iRo iEa iLa cC nC nFo nQd nRo nBe nEa nMi nHa nER nMR nTh nPa nOu nFr nQu eM eL eC eS eB eE eF eG pT pK pN pF pS qT qK qN qF qS mKe mUn mFi mRi mBe mWc mAK mSh mIP mUS mWa mWi mSi mRo mSp mRw mSn mBg mLa mMo mRm mOw mGo mFr mQu mCh mPB mPS mFs ub uT uK uN uF uS hR _ _ _ _ _) kn H locs ls hP hD hS hl
      by_cases c3 : v = 3
      · refine lv_tableIn (tgt := 351) hx hb dL_law_33 (by rw [c3]; decide) (by rw [c3]; decide) (by rw [c3]; rfl) (by decide) ?_
        exact law_c3 C0 hAB h0 h1 h2 h3 h4 h5 hM (s3 bHK bHP bPF bWC bRi bBe bFi bWa dB dS dN tC tKi tEa tHa tPr tEx tSt tTo tBe kC kKi kEa kHa kPr kEx kSt kTo kBe aC aWh aTa aWa iRo iEa iLa cC nC nFo nQd nRo nBe nEa nMi nHa nER nMR nTh nPa nOu nFr nQu eM eL eC eS eB eE eF eG pT pK pN pF pS qT qK qN qF qS mKe mUn mFi mRi mBe mWc mAK mSh mIP mUS mWa mWi mSi mRo mSp mRw mSn mBg mLa mMo mRm mOw mGo mFr mQu mCh mPB mPS mFs ub uT uK uN uF uS hR _ _ _) kn H locs ls hP hD hS hl
      by_cases c4 : v = 4
      · refine lv_tableIn (tgt := 394) hx hb dL_law_33 (by rw [c4]; decide) (by rw [c4]; decide) (by rw [c4]; rfl) (by decide) ?_
        exact law_c4 C0 hAB h0 h1 h2 h3 h4 h5 hM (s4 bHK bHP bPF bWC bRi bBe bFi bWa dB dS dN tC tKi tEa tHa tPr tEx tSt tTo tBe kC kKi kEa kHa kPr kEx kSt kTo kBe aC aWh aTa aWa iRo iEa iLa cC nC nFo nQd nRo nBe nEa nMi nHa nER nMR nTh nPa nOu nFr nQu eM eL eC eS eB eE eF eG pT pK pN pF pS qT qK qN qF qS mKe mUn mFi mRi mBe mWc mAK mSh mIP mUS mWa mWi mSi mRo mSp mRw mSn mBg mLa mMo mRm mOw mGo mFr mQu mCh mPB mPS mFs ub uT uK uN uF uS hR _ _) kn H locs ls hP hD hS hl
      by_cases c5 : v = 5
      · refine lv_tableIn (tgt := 427) hx hb dL_law_33 (by rw [c5]; decide) (by rw [c5]; decide) (by rw [c5]; rfl) (by decide) ?_
        exact law_c5 C0 hAB h0 h1 h2 h3 h4 h5 hM (s5 bHK bHP bPF bWC bRi bBe bFi bWa dB dS dN tC tKi tEa tHa tPr tEx tSt tTo tBe kC kKi kEa kHa kPr kEx kSt kTo kBe aC aWh aTa aWa iRo iEa iLa cC nC nFo nQd nRo nBe nEa nMi nHa nER nMR nTh nPa nOu nFr nQu eM eL eC eS eB eE eF eG pT pK pN pF pS qT qK qN qF qS mKe mUn mFi mRi mBe mWc mAK mSh mIP mUS mWa mWi mSi mRo mSp mRw mSn mBg mLa mMo mRm mOw mGo mFr mQu mCh mPB mPS mFs ub uT uK uN uF uS hR _ _) kn H locs ls hP hD hS hl
      by_cases c6 : v = 6
      · refine lv_tableIn (tgt := 460) hx hb dL_law_33 (by rw [c6]; decide) (by rw [c6]; decide) (by rw [c6]; rfl) (by decide) ?_
        exact law_c6 C0 hAB h0 h1 h2 h3 h4 h5 hM (s6 bHK bHP bPF bWC bRi bBe bFi bWa dB dS dN tC tKi tEa tHa tPr tEx tSt tTo tBe kC kKi kEa kHa kPr kEx kSt kTo kBe aC aWh aTa aWa iRo iEa iLa cC nC nFo nQd nRo nBe nEa nMi nHa nER nMR nTh nPa nOu nFr nQu eM eL eC eS eB eE eF eG pT pK pN pF pS qT qK qN qF qS mKe mUn mFi mRi mBe mWc mAK mSh mIP mUS mWa mWi mSi mRo mSp mRw mSn mBg mLa mMo mRm mOw mGo mFr mQu mCh mPB mPS mFs ub uT uK uN uF uS hR _ _) kn H locs ls hP hD hS hl
      by_cases c7 : v = 7
      · refine lv_tableIn (tgt := 493) hx hb dL_law_33 (by rw [c7]; decide) (by rw [c7]; decide) (by rw [c7]; rfl) (by decide) ?_
        exact law_c7 C0 hAB h0 h1 h2 h3 h4 h5 hM (s7 bHK bHP bPF bWC bRi bBe bFi bWa dB dS dN tC tKi tEa tHa tPr tEx tSt tTo tBe kC kKi kEa kHa kPr kEx kSt kTo kBe aC aWh aTa aWa iRo iEa iLa cC nC nFo nQd nRo nBe nEa nMi nHa nER nMR nTh nPa nOu nFr nQu eM eL eC eS eB eE eF eG pT pK pN pF pS qT qK qN qF qS mKe mUn mFi mRi mBe mWc mAK mSh mIP mUS mWa mWi mSi mRo mSp mRw mSn mBg mLa mMo mRm mOw mGo mFr mQu mCh mPB mPS mFs ub uT uK uN uF uS hR _ _) kn H locs ls hP hD hS hl
      by_cases c8 : v = 8
      · refine lv_tableIn (tgt := 526) hx hb dL_law_33 (by rw [c8]; decide) (by rw [c8]; decide) (by rw [c8]; rfl) (by decide) ?_
        exact law_c8 C0 hAB h0 h1 h2 h3 h4 h5 hM (s8 bHK bHP bPF bWC bRi bBe bFi bWa dB dS dN tC tKi tEa tHa tPr tEx tSt tTo tBe kC kKi kEa kHa kPr kEx kSt kTo kBe aC aWh aTa aWa iRo iEa iLa cC nC nFo nQd nRo nBe nEa nMi nHa nER nMR nTh nPa nOu nFr nQu eM eL eC eS eB eE eF eG pT pK pN pF pS qT qK qN qF qS mKe mUn mFi mRi mBe mWc mAK mSh mIP mUS mWa mWi mSi mRo mSp mRw mSn mBg mLa mMo mRm mOw mGo mFr mQu mCh mPB mPS mFs ub uT uK uN uF uS hR _ _) kn H locs ls hP hD hS hl
      by_cases c9 : v = 9
      · refine lv_tableIn (tgt := 559) hx hb dL_law_33 (by rw [c9]; decide) (by rw [c9]; decide) (by rw [c9]; rfl) (by decide) ?_
        exact law_c9 C0 hAB h0 h1 h2 h3 h4 h5 hM (s9 bHK bHP bPF bWC bRi bBe bFi bWa dB dS dN tC tKi tEa tHa tPr tEx tSt tTo tBe kC kKi kEa kHa kPr kEx kSt kTo kBe aC aWh aTa aWa iRo iEa iLa cC nC nFo nQd nRo nBe nEa nMi nHa nER nMR nTh nPa nOu nFr nQu eM eL eC eS eB eE eF eG pT pK pN pF pS qT qK qN qF qS mKe mUn mFi mRi mBe mWc mAK mSh mIP mUS mWa mWi mSi mRo mSp mRw mSn mBg mLa mMo mRm mOw mGo mFr mQu mCh mPB mPS mFs ub uT uK uN uF uS hR _) kn H locs ls hP hD hS hl
      by_cases c10 : v = 10
      · refine lv_tableIn (tgt := 582) hx hb dL_law_33 (by rw [c10]; decide) (by rw [c10]; decide) (by rw [c10]; rfl) (by decide) ?_
        exact law_c10 C0 hAB h0 h1 h2 h3 h4 h5 hM (s10 bHK bHP bPF bWC bRi bBe bFi bWa dB dS dN tC tKi tEa tHa tPr tEx tSt tTo tBe kC kKi kEa kHa kPr kEx kSt kTo kBe aC aWh aTa aWa iRo iEa iLa cC nC nFo nQd nRo nBe nEa nMi nHa nER nMR nTh nPa nOu nFr nQu eM eL eC eS eB eE eF eG pT pK pN pF pS qT qK qN qF qS mKe mUn mFi mRi mBe mWc mAK mSh mIP mUS mWa mWi mSi mRo mSp mRw mSn mBg mLa mMo mRm mOw mGo mFr mQu mCh mPB mPS mFs ub uT uK uN uF uS hR _ _) kn H locs ls hP hD hS hl
      by_cases c11 : v = 11
      · refine lv_tableIn (tgt := 615) hx hb dL_law_33 (by rw [c11]; decide) (by rw [c11]; decide) (by rw [c11]; rfl) (by decide) ?_
        exact law_c11 C0 hAB h0 h1 h2 h3 h4 h5 hM (s11 bHK bHP bPF bWC bRi bBe bFi bWa dB dS dN tC tKi tEa tHa tPr tEx tSt tTo tBe kC kKi kEa kHa kPr kEx kSt kTo kBe aC aWh aTa aWa iRo iEa iLa cC nC nFo nQd nRo nBe nEa nMi nHa nER nMR nTh nPa nOu nFr nQu eM eL eC eS eB eE eF eG pT pK pN pF pS qT qK qN qF qS mKe mUn mFi mRi mBe mWc mAK mSh mIP mUS mWa mWi mSi mRo mSp mRw mSn mBg mLa mMo mRm mOw mGo mFr mQu mCh mPB mPS mFs ub uT uK uN uF uS hR) kn H locs ls hP hD hS hl
      by_cases c12 : v = 12
      · refine lv_tableIn (tgt := 628) hx hb dL_law_33 (by rw [c12]; decide) (by rw [c12]; decide) (by rw [c12]; rfl) (by decide) ?_
        by_cases hz : (xs (Int32.toNatClampNeg (nI j + 2))) = 0
        · exact law_c12f C0 hAB h0 h1 h2 h3 h4 h5 hM hz (s12 bHK bHP bPF bWC bRi bBe bFi bWa dB dS dN tC tKi tEa tHa tPr tEx tSt tTo tBe kC kKi kEa kHa kPr kEx kSt kTo kBe aC aWh aTa aWa iRo iEa iLa cC nC nFo nQd nRo nBe nEa nMi nHa nER nMR nTh nPa nOu nFr nQu eM eL eC eS eB eE eF eG pT pK pN pF pS qT qK qN qF qS mKe mUn mFi mRi mBe mWc mAK mSh mIP mUS mWa mWi mSi mRo mSp mRw mSn mBg mLa mMo mRm mOw mGo mFr mQu mCh mPB mPS mFs ub uT uK uN uF uS hR _ 0 (Or.inl rfl)) kn H locs ls hP hD hS hl
        · exact law_c12t C0 hAB h0 h1 h2 h3 h4 h5 hM hz (s12 bHK bHP bPF bWC bRi bBe bFi bWa dB dS dN tC tKi tEa tHa tPr tEx tSt tTo tBe kC kKi kEa kHa kPr kEx kSt kTo kBe aC aWh aTa aWa iRo iEa iLa cC nC nFo nQd nRo nBe nEa nMi nHa nER nMR nTh nPa nOu nFr nQu eM eL eC eS eB eE eF eG pT pK pN pF pS qT qK qN qF qS mKe mUn mFi mRi mBe mWc mAK mSh mIP mUS mWa mWi mSi mRo mSp mRw mSn mBg mLa mMo mRm mOw mGo mFr mQu mCh mPB mPS mFs ub uT uK uN uF uS hR _ 1 (Or.inr rfl)) kn H locs ls hP hD hS hl
      by_cases c13 : v = 13
      · refine lv_tableIn (tgt := 677) hx hb dL_law_33 (by rw [c13]; decide) (by rw [c13]; decide) (by rw [c13]; rfl) (by decide) ?_
        exact law_c13 C0 hAB h0 h1 h2 h3 h4 h5 hM (s13 bHK bHP bPF bWC bRi bBe bFi bWa dB dS dN tC tKi tEa tHa tPr tEx tSt tTo tBe kC kKi kEa kHa kPr kEx kSt kTo kBe aC aWh aTa aWa iRo iEa iLa cC nC nFo nQd nRo nBe nEa nMi nHa nER nMR nTh nPa nOu nFr nQu eM eL eC eS eB eE eF eG pT pK pN pF pS qT qK qN qF qS mKe mUn mFi mRi mBe mWc mAK mSh mIP mUS mWa mWi mSi mRo mSp mRw mSn mBg mLa mMo mRm mOw mGo mFr mQu mCh mPB mPS mFs ub uT uK uN uF uS hR) kn H locs ls hP hD hS hl
      by_cases c14 : v = 14
      · refine lv_tableIn (tgt := 690) hx hb dL_law_33 (by rw [c14]; decide) (by rw [c14]; decide) (by rw [c14]; rfl) (by decide) ?_
        exact law_c14 C0 hAB h0 h1 h2 h3 h4 h5 hM (s14 bHK bHP bPF bWC bRi bBe bFi bWa dB dS dN tC tKi tEa tHa tPr tEx tSt tTo tBe kC kKi kEa kHa kPr kEx kSt kTo kBe aC aWh aTa aWa iRo iEa iLa cC nC nFo nQd nRo nBe nEa nMi nHa nER nMR nTh nPa nOu nFr nQu eM eL eC eS eB eE eF eG pT pK pN pF pS qT qK qN qF qS mKe mUn mFi mRi mBe mWc mAK mSh mIP mUS mWa mWi mSi mRo mSp mRw mSn mBg mLa mMo mRm mOw mGo mFr mQu mCh mPB mPS mFs ub uT uK uN uF uS hR) kn H locs ls hP hD hS hl
      by_cases c15 : v = 15
      · refine lv_tableIn (tgt := 704) hx hb dL_law_33 (by rw [c15]; decide) (by rw [c15]; decide) (by rw [c15]; rfl) (by decide) ?_
        by_cases hz : (xs (Int32.toNatClampNeg (nI j + 1))) = 0
        · exact law_c15f C0 hAB h0 h1 h2 h3 h4 h5 hM hz (s15 bHK bHP bPF bWC bRi bBe bFi bWa dB dS dN tC tKi tEa tHa tPr tEx tSt tTo tBe kC kKi kEa kHa kPr kEx kSt kTo kBe aC aWh aTa aWa iRo iEa iLa cC nC nFo nQd nRo nBe nEa nMi nHa nER nMR nTh nPa nOu nFr nQu eM eL eC eS eB eE eF eG pT pK pN pF pS qT qK qN qF qS mKe mUn mFi mRi mBe mWc mAK mSh mIP mUS mWa mWi mSi mRo mSp mRw mSn mBg mLa mMo mRm mOw mGo mFr mQu mCh mPB mPS mFs ub uT uK uN uF uS hR 0 (Or.inl rfl)) kn H locs ls hP hD hS hl
        · exact law_c15t C0 hAB h0 h1 h2 h3 h4 h5 hM hz (s15 bHK bHP bPF bWC bRi bBe bFi bWa dB dS dN tC tKi tEa tHa tPr tEx tSt tTo tBe kC kKi kEa kHa kPr kEx kSt kTo kBe aC aWh aTa aWa iRo iEa iLa cC nC nFo nQd nRo nBe nEa nMi nHa nER nMR nTh nPa nOu nFr nQu eM eL eC eS eB eE eF eG pT pK pN pF pS qT qK qN qF qS mKe mUn mFi mRi mBe mWc mAK mSh mIP mUS mWa mWi mSi mRo mSp mRw mSn mBg mLa mMo mRm mOw mGo mFr mQu mCh mPB mPS mFs ub uT uK uN uF uS hR 1 (Or.inr rfl)) kn H locs ls hP hD hS hl
      by_cases c16 : v = 16
      · refine lv_tableIn (tgt := 743) hx hb dL_law_33 (by rw [c16]; decide) (by rw [c16]; decide) (by rw [c16]; rfl) (by decide) ?_
        exact law_c16 C0 hAB h0 h1 h2 h3 h4 h5 hM (s16 bHK bHP bPF bWC bRi bBe bFi bWa dB dS dN tC tKi tEa tHa tPr tEx tSt tTo tBe kC kKi kEa kHa kPr kEx kSt kTo kBe aC aWh aTa aWa iRo iEa iLa cC nC nFo nQd nRo nBe nEa nMi nHa nER nMR nTh nPa nOu nFr nQu eM eL eC eS eB eE eF eG pT pK pN pF pS qT qK qN qF qS mKe mUn mFi mRi mBe mWc mAK mSh mIP mUS mWa mWi mSi mRo mSp mRw mSn mBg mLa mMo mRm mOw mGo mFr mQu mCh mPB mPS mFs ub uT uK uN uF uS hR _ _) kn H locs ls hP hD hS hl
      by_cases c17 : v = 17
      · refine lv_tableIn (tgt := 777) hx hb dL_law_33 (by rw [c17]; decide) (by rw [c17]; decide) (by rw [c17]; rfl) (by decide) ?_
        exact law_c17 C0 hAB h0 h1 h2 h3 h4 h5 hM (s17 bHK bHP bPF bWC bRi bBe bFi bWa dB dS dN tC tKi tEa tHa tPr tEx tSt tTo tBe kC kKi kEa kHa kPr kEx kSt kTo kBe aC aWh aTa aWa iRo iEa iLa cC nC nFo nQd nRo nBe nEa nMi nHa nER nMR nTh nPa nOu nFr nQu eM eL eC eS eB eE eF eG pT pK pN pF pS qT qK qN qF qS mKe mUn mFi mRi mBe mWc mAK mSh mIP mUS mWa mWi mSi mRo mSp mRw mSn mBg mLa mMo mRm mOw mGo mFr mQu mCh mPB mPS mFs ub uT uK uN uF uS hR _) kn H locs ls hP hD hS hl
      by_cases c18 : v = 18
      · refine lv_tableIn (tgt := 801) hx hb dL_law_33 (by rw [c18]; decide) (by rw [c18]; decide) (by rw [c18]; rfl) (by decide) ?_
        exact law_c18 C0 hAB h0 h1 h2 h3 h4 h5 hM (s18 bHK bHP bPF bWC bRi bBe bFi bWa dB dS dN tC tKi tEa tHa tPr tEx tSt tTo tBe kC kKi kEa kHa kPr kEx kSt kTo kBe aC aWh aTa aWa iRo iEa iLa cC nC nFo nQd nRo nBe nEa nMi nHa nER nMR nTh nPa nOu nFr nQu eM eL eC eS eB eE eF eG pT pK pN pF pS qT qK qN qF qS mKe mUn mFi mRi mBe mWc mAK mSh mIP mUS mWa mWi mSi mRo mSp mRw mSn mBg mLa mMo mRm mOw mGo mFr mQu mCh mPB mPS mFs ub uT uK uN uF uS hR) kn H locs ls hP hD hS hl
      by_cases c19 : v = 19
      · refine lv_tableIn (tgt := 814) hx hb dL_law_33 (by rw [c19]; decide) (by rw [c19]; decide) (by rw [c19]; rfl) (by decide) ?_
        exact law_c19 C0 hAB h0 h1 h2 h3 h4 h5 hM (s19 bHK bHP bPF bWC bRi bBe bFi bWa dB dS dN tC tKi tEa tHa tPr tEx tSt tTo tBe kC kKi kEa kHa kPr kEx kSt kTo kBe aC aWh aTa aWa iRo iEa iLa cC nC nFo nQd nRo nBe nEa nMi nHa nER nMR nTh nPa nOu nFr nQu eM eL eC eS eB eE eF eG pT pK pN pF pS qT qK qN qF qS mKe mUn mFi mRi mBe mWc mAK mSh mIP mUS mWa mWi mSi mRo mSp mRw mSn mBg mLa mMo mRm mOw mGo mFr mQu mCh mPB mPS mFs ub uT uK uN uF uS hR _) kn H locs ls hP hD hS hl
      by_cases c20 : v = 20
      · refine lv_tableIn (tgt := 837) hx hb dL_law_33 (by rw [c20]; decide) (by rw [c20]; decide) (by rw [c20]; rfl) (by decide) ?_
        exact law_c20 C0 hAB h0 h1 h2 h3 h4 h5 hM (s20 bHK bHP bPF bWC bRi bBe bFi bWa dB dS dN tC tKi tEa tHa tPr tEx tSt tTo tBe kC kKi kEa kHa kPr kEx kSt kTo kBe aC aWh aTa aWa iRo iEa iLa cC nC nFo nQd nRo nBe nEa nMi nHa nER nMR nTh nPa nOu nFr nQu eM eL eC eS eB eE eF eG pT pK pN pF pS qT qK qN qF qS mKe mUn mFi mRi mBe mWc mAK mSh mIP mUS mWa mWi mSi mRo mSp mRw mSn mBg mLa mMo mRm mOw mGo mFr mQu mCh mPB mPS mFs ub uT uK uN uF uS hR _) kn H locs ls hP hD hS hl
      by_cases c21 : v = 21
      · refine lv_tableIn (tgt := 891) hx hb dL_law_33 (by rw [c21]; decide) (by rw [c21]; decide) (by rw [c21]; rfl) (by decide) ?_
        exact law_c21 C0 hAB h0 h1 h2 h3 h4 h5 hM (s21 bHK bHP bPF bWC bRi bBe bFi bWa dB dS dN tC tKi tEa tHa tPr tEx tSt tTo tBe kC kKi kEa kHa kPr kEx kSt kTo kBe aC aWh aTa aWa iRo iEa iLa cC nC nFo nQd nRo nBe nEa nMi nHa nER nMR nTh nPa nOu nFr nQu eM eL eC eS eB eE eF eG pT pK pN pF pS qT qK qN qF qS mKe mUn mFi mRi mBe mWc mAK mSh mIP mUS mWa mWi mSi mRo mSp mRw mSn mBg mLa mMo mRm mOw mGo mFr mQu mCh mPB mPS mFs ub uT uK uN uF uS hR _) kn H locs ls hP hD hS hl
      by_cases c22 : v = 22
      · refine lv_tableIn (tgt := 914) hx hb dL_law_33 (by rw [c22]; decide) (by rw [c22]; decide) (by rw [c22]; rfl) (by decide) ?_
        by_cases hz : (xs (Int32.toNatClampNeg (nI j + 2))) = 0
        · exact law_c22f C0 hAB h0 h1 h2 h3 h4 h5 hM hz (s22 bHK bHP bPF bWC bRi bBe bFi bWa dB dS dN tC tKi tEa tHa tPr tEx tSt tTo tBe kC kKi kEa kHa kPr kEx kSt kTo kBe aC aWh aTa aWa iRo iEa iLa cC nC nFo nQd nRo nBe nEa nMi nHa nER nMR nTh nPa nOu nFr nQu eM eL eC eS eB eE eF eG pT pK pN pF pS qT qK qN qF qS mKe mUn mFi mRi mBe mWc mAK mSh mIP mUS mWa mWi mSi mRo mSp mRw mSn mBg mLa mMo mRm mOw mGo mFr mQu mCh mPB mPS mFs ub uT uK uN uF uS hR _ 0 (Or.inl rfl)) kn H locs ls hP hD hS hl
        · exact law_c22t C0 hAB h0 h1 h2 h3 h4 h5 hM hz (s22 bHK bHP bPF bWC bRi bBe bFi bWa dB dS dN tC tKi tEa tHa tPr tEx tSt tTo tBe kC kKi kEa kHa kPr kEx kSt kTo kBe aC aWh aTa aWa iRo iEa iLa cC nC nFo nQd nRo nBe nEa nMi nHa nER nMR nTh nPa nOu nFr nQu eM eL eC eS eB eE eF eG pT pK pN pF pS qT qK qN qF qS mKe mUn mFi mRi mBe mWc mAK mSh mIP mUS mWa mWi mSi mRo mSp mRw mSn mBg mLa mMo mRm mOw mGo mFr mQu mCh mPB mPS mFs ub uT uK uN uF uS hR _ 1 (Or.inr rfl)) kn H locs ls hP hD hS hl
      by_cases c23 : v = 23
      · refine lv_tableIn (tgt := 963) hx hb dL_law_33 (by rw [c23]; decide) (by rw [c23]; decide) (by rw [c23]; rfl) (by decide) ?_
        exact law_c23 C0 hAB h0 h1 h2 h3 h4 h5 hM (s23 bHK bHP bPF bWC bRi bBe bFi bWa dB dS dN tC tKi tEa tHa tPr tEx tSt tTo tBe kC kKi kEa kHa kPr kEx kSt kTo kBe aC aWh aTa aWa iRo iEa iLa cC nC nFo nQd nRo nBe nEa nMi nHa nER nMR nTh nPa nOu nFr nQu eM eL eC eS eB eE eF eG pT pK pN pF pS qT qK qN qF qS mKe mUn mFi mRi mBe mWc mAK mSh mIP mUS mWa mWi mSi mRo mSp mRw mSn mBg mLa mMo mRm mOw mGo mFr mQu mCh mPB mPS mFs ub uT uK uN uF uS hR) kn H locs ls hP hD hS hl
      by_cases c24 : v = 24
      · refine lv_tableIn (tgt := 977) hx hb dL_law_33 (by rw [c24]; decide) (by rw [c24]; decide) (by rw [c24]; rfl) (by decide) ?_
        by_cases hz : (xs (Int32.toNatClampNeg (nI j + 2))) = 0
        · exact law_c24f C0 hAB h0 h1 h2 h3 h4 h5 hM hz (s24 bHK bHP bPF bWC bRi bBe bFi bWa dB dS dN tC tKi tEa tHa tPr tEx tSt tTo tBe kC kKi kEa kHa kPr kEx kSt kTo kBe aC aWh aTa aWa iRo iEa iLa cC nC nFo nQd nRo nBe nEa nMi nHa nER nMR nTh nPa nOu nFr nQu eM eL eC eS eB eE eF eG pT pK pN pF pS qT qK qN qF qS mKe mUn mFi mRi mBe mWc mAK mSh mIP mUS mWa mWi mSi mRo mSp mRw mSn mBg mLa mMo mRm mOw mGo mFr mQu mCh mPB mPS mFs ub uT uK uN uF uS hR _ 0 (Or.inl rfl)) kn H locs ls hP hD hS hl
        · exact law_c24t C0 hAB h0 h1 h2 h3 h4 h5 hM hz (s24 bHK bHP bPF bWC bRi bBe bFi bWa dB dS dN tC tKi tEa tHa tPr tEx tSt tTo tBe kC kKi kEa kHa kPr kEx kSt kTo kBe aC aWh aTa aWa iRo iEa iLa cC nC nFo nQd nRo nBe nEa nMi nHa nER nMR nTh nPa nOu nFr nQu eM eL eC eS eB eE eF eG pT pK pN pF pS qT qK qN qF qS mKe mUn mFi mRi mBe mWc mAK mSh mIP mUS mWa mWi mSi mRo mSp mRw mSn mBg mLa mMo mRm mOw mGo mFr mQu mCh mPB mPS mFs ub uT uK uN uF uS hR _ 1 (Or.inr rfl)) kn H locs ls hP hD hS hl
      by_cases c25 : v = 25
      · refine lv_tableIn (tgt := 1026) hx hb dL_law_33 (by rw [c25]; decide) (by rw [c25]; decide) (by rw [c25]; rfl) (by decide) ?_
        exact law_c25 C0 hAB h0 h1 h2 h3 h4 h5 hM (s25 bHK bHP bPF bWC bRi bBe bFi bWa dB dS dN tC tKi tEa tHa tPr tEx tSt tTo tBe kC kKi kEa kHa kPr kEx kSt kTo kBe aC aWh aTa aWa iRo iEa iLa cC nC nFo nQd nRo nBe nEa nMi nHa nER nMR nTh nPa nOu nFr nQu eM eL eC eS eB eE eF eG pT pK pN pF pS qT qK qN qF qS mKe mUn mFi mRi mBe mWc mAK mSh mIP mUS mWa mWi mSi mRo mSp mRw mSn mBg mLa mMo mRm mOw mGo mFr mQu mCh mPB mPS mFs ub uT uK uN uF uS hR _) kn H locs ls hP hD hS hl
      by_cases c26 : v = 26
      · refine lv_tableIn (tgt := 1049) hx hb dL_law_33 (by rw [c26]; decide) (by rw [c26]; decide) (by rw [c26]; rfl) (by decide) ?_
        exact law_c26 C0 hAB h0 h1 h2 h3 h4 h5 hM (s26 bHK bHP bPF bWC bRi bBe bFi bWa dB dS dN tC tKi tEa tHa tPr tEx tSt tTo tBe kC kKi kEa kHa kPr kEx kSt kTo kBe aC aWh aTa aWa iRo iEa iLa cC nC nFo nQd nRo nBe nEa nMi nHa nER nMR nTh nPa nOu nFr nQu eM eL eC eS eB eE eF eG pT pK pN pF pS qT qK qN qF qS mKe mUn mFi mRi mBe mWc mAK mSh mIP mUS mWa mWi mSi mRo mSp mRw mSn mBg mLa mMo mRm mOw mGo mFr mQu mCh mPB mPS mFs ub uT uK uN uF uS hR _) kn H locs ls hP hD hS hl
      by_cases c27 : v = 27
      · refine lv_tableIn (tgt := 1072) hx hb dL_law_33 (by rw [c27]; decide) (by rw [c27]; decide) (by rw [c27]; rfl) (by decide) ?_
        exact law_c27 C0 hAB h0 h1 h2 h3 h4 h5 hM (s27 bHK bHP bPF bWC bRi bBe bFi bWa dB dS dN tC tKi tEa tHa tPr tEx tSt tTo tBe kC kKi kEa kHa kPr kEx kSt kTo kBe aC aWh aTa aWa iRo iEa iLa cC nC nFo nQd nRo nBe nEa nMi nHa nER nMR nTh nPa nOu nFr nQu eM eL eC eS eB eE eF eG pT pK pN pF pS qT qK qN qF qS mKe mUn mFi mRi mBe mWc mAK mSh mIP mUS mWa mWi mSi mRo mSp mRw mSn mBg mLa mMo mRm mOw mGo mFr mQu mCh mPB mPS mFs ub uT uK uN uF uS hR) kn H locs ls hP hD hS hl
      by_cases c28 : v = 28
      · refine lv_tableIn (tgt := 1085) hx hb dL_law_33 (by rw [c28]; decide) (by rw [c28]; decide) (by rw [c28]; rfl) (by decide) ?_
        exact law_c28 C0 hAB h0 h1 h2 h3 h4 h5 hM (s28 bHK bHP bPF bWC bRi bBe bFi bWa dB dS dN tC tKi tEa tHa tPr tEx tSt tTo tBe kC kKi kEa kHa kPr kEx kSt kTo kBe aC aWh aTa aWa iRo iEa iLa cC nC nFo nQd nRo nBe nEa nMi nHa nER nMR nTh nPa nOu nFr nQu eM eL eC eS eB eE eF eG pT pK pN pF pS qT qK qN qF qS mKe mUn mFi mRi mBe mWc mAK mSh mIP mUS mWa mWi mSi mRo mSp mRw mSn mBg mLa mMo mRm mOw mGo mFr mQu mCh mPB mPS mFs ub uT uK uN uF uS hR) kn H locs ls hP hD hS hl
      by_cases c29 : v = 29
      · refine lv_tableIn (tgt := 1098) hx hb dL_law_33 (by rw [c29]; decide) (by rw [c29]; decide) (by rw [c29]; rfl) (by decide) ?_
        exact law_c29 C0 hAB h0 h1 h2 h3 h4 h5 hM (s29 bHK bHP bPF bWC bRi bBe bFi bWa dB dS dN tC tKi tEa tHa tPr tEx tSt tTo tBe kC kKi kEa kHa kPr kEx kSt kTo kBe aC aWh aTa aWa iRo iEa iLa cC nC nFo nQd nRo nBe nEa nMi nHa nER nMR nTh nPa nOu nFr nQu eM eL eC eS eB eE eF eG pT pK pN pF pS qT qK qN qF qS mKe mUn mFi mRi mBe mWc mAK mSh mIP mUS mWa mWi mSi mRo mSp mRw mSn mBg mLa mMo mRm mOw mGo mFr mQu mCh mPB mPS mFs ub uT uK uN uF uS hR) kn H locs ls hP hD hS hl
      by_cases c30 : v = 30
      · refine lv_tableIn (tgt := 1111) hx hb dL_law_33 (by rw [c30]; decide) (by rw [c30]; decide) (by rw [c30]; rfl) (by decide) ?_
        exact law_c30 C0 hAB h0 h1 h2 h3 h4 h5 hM (s30 bHK bHP bPF bWC bRi bBe bFi bWa dB dS dN tC tKi tEa tHa tPr tEx tSt tTo tBe kC kKi kEa kHa kPr kEx kSt kTo kBe aC aWh aTa aWa iRo iEa iLa cC nC nFo nQd nRo nBe nEa nMi nHa nER nMR nTh nPa nOu nFr nQu eM eL eC eS eB eE eF eG pT pK pN pF pS qT qK qN qF qS mKe mUn mFi mRi mBe mWc mAK mSh mIP mUS mWa mWi mSi mRo mSp mRw mSn mBg mLa mMo mRm mOw mGo mFr mQu mCh mPB mPS mFs ub uT uK uN uF uS hR _) kn H locs ls hP hD hS hl
      refine lv_tableOut (tgt := 1134) hx hb dL_law_33 (tb_out31 c0 c1 c2 c3 c4 c5 c6 c7 c8 c9 c10 c11 c12 c13 c14 c15 c16 c17 c18 c19 c20 c21 c22 c23 c24 c25 c26 c27 c28 c29 c30) (by decide) ?_
      exact kn bd bHK bHP bPF bWC bRi bBe bFi bWa dB dS dN tC tKi tEa tHa tPr tEx tSt tTo tBe kC kKi kEa kHa kPr kEx kSt kTo kBe aC aWh aTa aWa iRo iEa iLa cC nC nFo nQd nRo nBe nEa nMi nHa nER nMR nTh nPa nOu nFr nQu eM eL eC eS eB eE eF eG pT pK pN pF pS qT qK qN qF qS mKe mUn mFi mRi mBe mWc mAK mSh mIP mUS mWa mWi mSi mRo mSp mRw mSn mBg mLa mMo mRm mOw mGo mFr mQu mCh mPB mPS mFs ub uT uK uN uF uS hR H locs ls hP hD hS hl
