/-! steps: span, undo, keep, back -/
theorem wp_alw {n t : Nat} {tEa tHa : Nat → Int32} (ht : t < 12) {x : Int32} {Q : Int32 → Prop} (h1 : (tHa t).toInt ≤ x.toInt → x.toInt ≤ (tEa t).toInt → Q 1) (h0 : ¬ ((tHa t).toInt ≤ x.toInt ∧ x.toInt ≤ (tEa t).toInt) → Q 0) : wp_X5_allows tEa tHa (nI t) x Q := by
  unfold wp_X5_allows
  rw [cl_nI (by omega), i_lt, i_lt]
  exact ⟨pk_in t 12 ht, fun q => h0 (by omega), fun q => ⟨pk_in t 12 ht, fun q2 => h0 (by omega), fun q2 => h1 (by omega) (by omega)⟩⟩
theorem step_10 : STEP_10 RelS := by
  intro bHK bHP bPF bWC bRi bBe bFi bWa dB dS dN tC tKi tEa tHa tPr tEx tSt tTo tBe kC kKi kEa kHa kPr kEx kSt kTo kBe aC aWh aTa aWa iRo iEa iLa cC nC nFo nQd nRo nBe nEa nMi nHa nER nMR nTh nPa nOu nFr nQu eM eL eC eS eB eE eF eG pT pK pN pF pS qT qK qN qF qS mKe mUn mFi mRi mBe mWc mAK mSh mIP mUS mWa mWi mSi mRo mSp mRw mSn mBg mLa mMo mRm mOw mGo mFr mQu mCh mPB mPS mFs ub uT uK uN uF uS H v0 v1
  obtain ⟨n, a, sh, hk⟩ := H.tk
  have hT := hk.bk.1
  obtain rfl := hT.1
  have hM := hk.bk.2.1
  obtain rfl := hM.1
  obtain rfl := hk.hac
  obtain rfl := hk.hmu
  have hn := hT.2.1
  have hpF := hM.2.2.2
  obtain ⟨j, d, hj, hj2, hd⟩ := jd_ex hk.ha
  have hus := UL.us _ _ _ _ hk.ul
  refine wp_has5 hn (fun t ht et => ⟨fun z => absurd z (by decide), fun _ => ?_⟩) (fun y => ⟨fun _ b eb => wp_ist hn (fun t ht et => absurd (nI_ne hn ht et) y) (fun _ => ⟨fun _ => ⟨fun z => absurd z (by decide), fun _ m em => ⟨rfl, ⟨(by rw [eb, em, H.fi]), H.ri, H.be, H.wt, H.bd, H.tk, H.hk, H.ui, H.m7⟩⟩⟩, fun z => absurd rfl z⟩), fun z => absurd rfl z⟩)
  subst et
  obtain ⟨_, m2, m3, _⟩ := hM.2.1 t ht
  have ref : ∀ {Q : Int32 → (Nat → Int32) → Int32 → Int32 → Int32 → Int32 → (Nat → Int32) → (Nat → Nat) → (Nat → Int32) → (Nat → Nat → Int32) → (Nat → Nat → Int32) → (Nat → Nat → Int32) → (Nat → Nat → Int32) → Prop}, ((tHa t).toInt ≤ v1.toInt → v1.toInt ≤ (tEa t).toInt → wp_X9_remember (nI n) pK pN pF pS (nI a) mAK mIP mUS ub uT uK uN uF uS 1 (fun mUn_21 mAK_22 mIP_23 mUS_24 ub_25 uT_26 uK_27 uN_28 uF_29 uS_30 => vp_in (nI t) 12 ∧ ∀ x3_31 : Int32, x3_31 = pS t → vp_in (nI t) 12 ∧ ∀ pS_33 : Nat → Int32, pS_33 = upd pS t v1 → Q x3_31 pS_33 mUn_21 mFi mAK_22 mIP_23 mUS_24 ub_25 uT_26 uK_27 uN_28 uF_29 uS_30)) → (¬ ((tHa t).toInt ≤ v1.toInt ∧ v1.toInt ≤ (tEa t).toInt) → ∀ m, m = mFi + 1 → Q (-1) pS (nI a) m mAK mIP mUS ub uT uK uN uF uS) → wp_X9_span (nI n) pK pN pF pS (nI a) mFi mAK mIP mUS ub uT uK uN uF uS (nI t) v1 Q := fun {Q} h1 h0 => wp_ist hn (fun u hu eu => ⟨fun z => absurd z (by decide), fun _ => wp_num (k := 1) (by omega) (by omega) (wp_num (k := 0) (by omega) (by omega) (wp_in (fun q => ⟨fun _ => by
      rw [l_of, l_of, l_of, m3, show 5 * t + 0 = 5 * t from rfl, m2] at q
      rw [cl_nI (by omega)]
      exact h1 q.1 q.2, fun z => absurd z (by decide)⟩) (fun q => ⟨fun z => absurd rfl z, fun _ => ⟨fun z => absurd z (by decide), fun _ m em => h0 (by
      rw [l_of, l_of, l_of, m3, show 5 * t + 0 = 5 * t from rfl, m2] at q; exact q) m em⟩⟩)))⟩) (fun y => absurd (nI_ne hn ht rfl) y)
  refine wp_alw (n := n) (by omega) (fun q1 q2 => ⟨fun _ => ⟨pk_in t 12 (by omega), fun x ex => ⟨pk_in t 12 (by omega), fun to2 eto => wp_add hj hj2 hd (fun W T A hw w1 w2 w3 => ref (fun _ _ => wp_rem hj hj2 hd (Or.inr rfl) hpF H.ui hus (fun ak ip U b uT' uK' uN' uF' uS' g0 g1 hv v1' h0 h1 h2 h3 h4 hb => ⟨pk_in t 12 (by omega), fun y ey => ⟨pk_in t 12 (by omega), fun ps eps => ⟨?_, ?_⟩⟩⟩)) (fun q => absurd ⟨q1, q2⟩ q))⟩⟩, fun z => absurd z (by decide)⟩) (fun q => ⟨fun z => absurd rfl z, fun _ b eb => ref (fun p1 p2 => absurd ⟨p1, p2⟩ q) (fun _ m em => ⟨rfl, ⟨(by rw [eb, em, H.fi]), H.ri, H.be, H.wt, H.bd, H.tk, H.hk, H.ui, H.m7⟩⟩)⟩)
  · rw [ex, ey, cl_nI (by omega)]; exact (hk.bk.2.2 t ht).1.symm
  · obtain ⟨rfl, rfl⟩ := g1 rfl
    rw [cl_nI (by omega)] at eto ex
    have bk2 : BK n (nI n) tKi tEa tHa tPr tEx tSt to2 tBe (nI n) pK pN pF ps := ⟨hT, hM, fun u hu => by
      rw [eto, eps]
      by_cases z : u = t
      · rw [z, upd_at, upd_at]; exact ⟨rfl, q1, q2⟩
      · rw [upd_ne z, upd_ne z]; exact hk.bk.2.2 u hu⟩
    have ag : ∀ u, u < n → tKi u = tKi u ∧ tEa u = tEa u ∧ tHa u = tHa u ∧ tPr u = tPr u ∧ tEx u = tEx u ∧ tSt u = tSt u ∧ tTo u = upd to2 t (A j) u ∧ tBe u = tBe u := fun u _ => ⟨rfl, rfl, rfl, rfl, rfl, rfl, by
      rw [w3, ex, eto]
      by_cases z : u = t
      · rw [z, upd_at]
      · rw [upd_ne z, upd_ne z], rfl⟩
    have ul2 : UL tKi tEa tHa tPr tEx tSt W T A U b uT' uK' uN' uF' uS' (j + 1) n to2 tBe := ⟨n, upd to2 t (A j), tBe, Or.inr (Or.inr ⟨w1, v1', rfl, rfl, t, ht, w2, rfl⟩), hk.bk.congr ag h0 h1 h2 h3 h4, UL.sub (d := d) j n tTo tBe _ _ (fun i hi => ⟨(hw i hi).1, (hw i hi).2.1, (hw i hi).2.2, (hv i hi).1, (hv i hi).2.1, (hv i hi).2.2.1, (hv i hi).2.2.2.1, (hv i hi).2.2.2.2.1, (hv i hi).2.2.2.2.2⟩) ag (by rw [hj]; exact hk.ul)⟩
    exact ⟨H.fi, H.ri, H.be, H.wt, H.bd, ⟨n, j + 1, sh, ⟨bk2, hk.hsh, hk.hC, hk.hK, hk.pl, (by omega), rfl, rfl, ul2⟩⟩, H.hk, hb, H.m7⟩
theorem step_28 : STEP_28 RelS := by
  intro bHK bHP bPF bWC bRi bBe bFi bWa dB dS dN tC tKi tEa tHa tPr tEx tSt tTo tBe kC kKi kEa kHa kPr kEx kSt kTo kBe aC aWh aTa aWa iRo iEa iLa cC nC nFo nQd nRo nBe nEa nMi nHa nER nMR nTh nPa nOu nFr nQu eM eL eC eS eB eE eF eG pT pK pN pF pS qT qK qN qF qS mKe mUn mFi mRi mBe mWc mAK mSh mIP mUS mWa mWi mSi mRo mSp mRw mSn mBg mLa mMo mRm mOw mGo mFr mQu mCh mPB mPS mFs ub uT uK uN uF uS H
  obtain ⟨n, a, sh, hk⟩ := H.tk
  have hT := hk.bk.1
  obtain rfl := hT.1
  have hM := hk.bk.2.1
  obtain rfl := hM.1
  obtain rfl := hk.hac
  obtain rfl := hk.hmu
  have hn := hT.2.1
  have hpF := hM.2.2.2
  refine fun c ec => ⟨by decide, by decide, by decide, by decide, by decide, fun f1 g1 => ⟨by decide, by decide, by decide, by decide, by decide, fun f2 g2 => ⟨by decide, by decide, by decide, by decide, by decide, fun f3 g3 => ⟨by decide, by decide, by decide, by decide, by decide, fun f4 g4 => ⟨by decide, by decide, by decide, by decide, by decide, fun f5 g5 => ⟨by decide, by decide, by decide, by decide, by decide, fun f6 g6 => ⟨by decide, by decide, by decide, by decide, by decide, fun f7 g7 => ⟨by decide, by decide, by decide, by decide, by decide, fun f8 g8 => fun hkp ehk => wp_be hpF (fun T K N F S h0 h1 h2 h3 h4 ke eke => ⟨ec, ?_⟩)⟩⟩⟩⟩⟩⟩⟩⟩
  have ag : ∀ t, t < n → tKi t = f1 t ∧ tEa t = f2 t ∧ tHa t = f3 t ∧ tPr t = f4 t ∧ tEx t = f5 t ∧ tSt t = f6 t ∧ tTo t = f7 t ∧ tBe t = f8 t := fun t ht => by
        have h12 : t < 12 := by omega
        rw [g1, g2, g3, g4, g5, g6, g7, g8, cpy12 _ _ h12, cpy12 _ _ h12, cpy12 _ _ h12, cpy12 _ _ h12, cpy12 _ _ h12, cpy12 _ _ h12, cpy12 _ _ h12, cpy12 _ _ h12]
        exact ⟨rfl, rfl, rfl, rfl, rfl, rfl, rfl, rfl⟩
  exact ⟨H.fi, H.ri, H.be, H.wt, H.bd, H.tk, ⟨by rw [ehk, eke], fun _ => ⟨n, by rw [ec]; exact hk.bk.congr ag h0 h1 h2 h3 h4⟩⟩, H.ui, H.m7⟩
theorem step_29 : STEP_29 RelS := by
  intro bHK bHP bPF bWC bRi bBe bFi bWa dB dS dN tC tKi tEa tHa tPr tEx tSt tTo tBe kC kKi kEa kHa kPr kEx kSt kTo kBe aC aWh aTa aWa iRo iEa iLa cC nC nFo nQd nRo nBe nEa nMi nHa nER nMR nTh nPa nOu nFr nQu eM eL eC eS eB eE eF eG pT pK pN pF pS qT qK qN qF qS mKe mUn mFi mRi mBe mWc mAK mSh mIP mUS mWa mWi mSi mRo mSp mRw mSn mBg mLa mMo mRm mOw mGo mFr mQu mCh mPB mPS mFs ub uT uK uN uF uS H
  obtain ⟨e1, hkk⟩ := H.hk
  by_cases z : bHK = 0
  · exact ⟨fun q => absurd z q, fun _ b eb => ⟨fun q => absurd (by rw [← e1]; exact z) q, fun _ => ⟨fun z => absurd z (by decide), fun _ m em => ⟨rfl, ⟨(by rw [eb, em, H.fi]), H.ri, H.be, H.wt, H.bd, H.tk, H.hk, H.ui, H.m7⟩⟩⟩⟩⟩
  · obtain ⟨n, bk⟩ := hkk z
    have hn := bk.1.2.1
    refine ⟨fun _ c ec => ⟨by decide, by decide, by decide, by decide, by decide, fun f1 g1 => ⟨by decide, by decide, by decide, by decide, by decide, fun f2 g2 => ⟨by decide, by decide, by decide, by decide, by decide, fun f3 g3 => ⟨by decide, by decide, by decide, by decide, by decide, fun f4 g4 => ⟨by decide, by decide, by decide, by decide, by decide, fun f5 g5 => ⟨by decide, by decide, by decide, by decide, by decide, fun f6 g6 => ⟨by decide, by decide, by decide, by decide, by decide, fun f7 g7 => ⟨by decide, by decide, by decide, by decide, by decide, fun f8 g8 => fun ac eac hp ehp cc ecc => ⟨fun _ => wp_be_2 bk.2.1.2.2.2 (fun T K N F S h0 h1 h2 h3 h4 un eun ip eip ak eak => ⟨?_, ?_⟩), fun q => absurd (by rw [e1]; exact q) z⟩⟩⟩⟩⟩⟩⟩⟩⟩, fun q => absurd q z⟩
    · rw [ec, ← h0, bk.1.1, bk.2.1.1]
    · have ag : ∀ t, t < n → kKi t = f1 t ∧ kEa t = f2 t ∧ kHa t = f3 t ∧ kPr t = f4 t ∧ kEx t = f5 t ∧ kSt t = f6 t ∧ kTo t = f7 t ∧ kBe t = f8 t := fun t ht => by
        have h12 : t < 12 := by omega
        rw [g1, g2, g3, g4, g5, g6, g7, g8, cpy12 _ _ h12, cpy12 _ _ h12, cpy12 _ _ h12, cpy12 _ _ h12, cpy12 _ _ h12, cpy12 _ _ h12, cpy12 _ _ h12, cpy12 _ _ h12]
        exact ⟨rfl, rfl, rfl, rfl, rfl, rfl, rfl, rfl⟩
      have bk2 : BK n c f1 f2 f3 f4 f5 f6 f7 f8 T K N F S := by rw [ec]; exact bk.congr ag h0 h1 h2 h3 h4
      obtain ⟨sh2, hs2⟩ := sh_ex bk2.1
      exact ⟨H.fi, H.ri, H.be, H.wt, H.bd, ⟨n, 0, sh2, ⟨bk2, hs2, (fun q => absurd ecc q), (fun q => absurd eak q), ⟨(by rw [ehp, eip]), Or.inl ehp, (fun q => absurd ehp q)⟩, (by omega), eac, eun, trivial⟩⟩, H.hk, H.ui, H.m7⟩
theorem step_27 : STEP_27 RelS := by
  intro bHK bHP bPF bWC bRi bBe bFi bWa dB dS dN tC tKi tEa tHa tPr tEx tSt tTo tBe kC kKi kEa kHa kPr kEx kSt kTo kBe aC aWh aTa aWa iRo iEa iLa cC nC nFo nQd nRo nBe nEa nMi nHa nER nMR nTh nPa nOu nFr nQu eM eL eC eS eB eE eF eG pT pK pN pF pS qT qK qN qF qS mKe mUn mFi mRi mBe mWc mAK mSh mIP mUS mWa mWi mSi mRo mSp mRw mSn mBg mLa mMo mRm mOw mGo mFr mQu mCh mPB mPS mFs ub uT uK uN uF uS H
  obtain ⟨n, a, sh, hk⟩ := H.tk
  have hT := hk.bk.1
  obtain rfl := hT.1
  have hM := hk.bk.2.1
  obtain rfl := hM.1
  obtain rfl := hk.hac
  obtain rfl := hk.hmu
  have hn := hT.2.1
  have hpF := hM.2.2.2
  have ha := hk.ha
  rcases Nat.eq_zero_or_pos a with z | z
  · subst z
    exact ⟨fun q => absurd rfl q, fun _ b eb => ⟨fun q => absurd rfl q, fun _ => ⟨fun z => absurd z (by decide), fun _ m em => ⟨rfl, ⟨(by rw [eb, em, H.fi]), H.ri, H.be, H.wt, H.bd, H.tk, H.hk, H.ui, H.m7⟩⟩⟩⟩⟩
  · obtain ⟨j, rfl⟩ : ∃ j, a = j + 1 := ⟨a - 1, by omega⟩
    obtain ⟨n', to', be', hc, hb, hu⟩ := hk.ul
    have nz : ¬ nI (j + 1) = 0 := fun e => absurd ((nI_eq (a := j + 1) (b := 0) (by omega) (by omega)).mp e) (by omega)
    have ref : ∀ {Q : Int32 → Int32 → (Nat → Int32) → (Nat → Int32) → (Nat → Int32) → (Nat → Int32) → Int32 → Int32 → Int32 → Int32 → Prop}, (∀ (T : Int32) (K N F S : Nat → Int32), uT (ub j) = T → (∀ k, k < 12 → uK (ub j) k = K k) → (∀ k, k < 60 → uN (ub j) k = N k) → (∀ k, k < 144 → uF (ub j) k = F k) → (∀ k, k < 12 → uS (ub j) k = S k) → ((mUS j = 0 → Q (nI j) T K N F S (nI j) mFi 0 0) ∧ (¬ mUS j = 0 → Q (nI j) T K N F S (nI j) mFi mAK mIP))) → wp_X9_undo (nI n) pK pN pF pS (nI (j + 1)) mFi mAK mIP mUS ub uT uK uN uF uS Q := fun {Q} h => ⟨fun _ u eu => by
      rw [eu, nI_pred, cl_nI (by omega)]
      exact ⟨pk_in j 30 (by omega), H.ui.1 j (by omega), wp_be_4 hb.2.1.2.2.2 (fun T K N F S h0 h1 h2 h3 h4 => ⟨pk_in j 30 (by omega), fun q => (h T K N F S h0 h1 h2 h3 h4).2 q, fun q ip eip ak eak => by rw [eip, eak]; exact (h T K N F S h0 h1 h2 h3 h4).1 q⟩)⟩, fun e => absurd e nz⟩
    refine ⟨fun _ c ec => ?_, fun e => absurd e nz⟩
    rw [ec, nI_pred, cl_nI (by omega)]
    refine ⟨pk_in j 30 (by omega), fun x1 e1 => ⟨pk_in j 30 (by omega), fun x2 e2 => ⟨pk_in j 30 (by omega), ?_⟩⟩⟩
    rcases hc with ⟨c1, c2, c3, c4, c5, c6⟩ | ⟨c1, c2, c3, c4, t, c5, c6, c7⟩ | ⟨c1, c2, c3, c4, t, c5, c6, c7⟩
    · refine ⟨fun _ tc etc hp ehp cc ecc => ref (fun T K N F S h0 h1 h2 h3 h4 => ⟨fun _ => ⟨rfl, ?_⟩, fun q => absurd c2 q⟩), fun q => absurd c1 q⟩
      rw [c5, c6] at hb hu
      have bk2 : BK n' tc tKi tEa tHa tPr tEx tSt tTo tBe T K N F S := by rw [etc, e1, c4]; exact hb.congr (fun _ _ => ⟨rfl, rfl, rfl, rfl, rfl, rfl, rfl, rfl⟩) h0 h1 h2 h3 h4
      obtain ⟨sh2, hs2⟩ := sh_ex bk2.1
      exact ⟨H.fi, H.ri, H.be, H.wt, H.bd, ⟨n', j, sh2, ⟨bk2, hs2, (fun q => absurd ecc q), (fun q => absurd rfl q), ⟨ehp, Or.inl ehp, (fun q => absurd ehp q)⟩, (by omega), rfl, rfl, hu⟩⟩, H.hk, H.ui, H.m7⟩
    · subst c3
      refine ⟨fun q => absurd (by rw [← c1, q]) (show ¬ (1 : Int32) = 0 by decide), fun _ => ⟨fun _ => ?_, fun q => absurd c1 q⟩⟩
      rw [e1, c6, cl_nI (by omega)]
      refine ⟨pk_in t 12 (by omega), fun b2 eb2 hp ehp cc ecc => ref (fun T K N F S h0 h1 h2 h3 h4 => ⟨fun _ => ⟨rfl, ?_⟩, fun q => absurd c2 q⟩)⟩
      have eb3 : be' = b2 := by rw [c7, eb2, e2]
      rw [c4, eb3] at hb hu
      have bk2 : BK n' (nI n') tKi tEa tHa tPr tEx tSt tTo b2 T K N F S := hb.congr (fun _ _ => ⟨rfl, rfl, rfl, rfl, rfl, rfl, rfl, rfl⟩) h0 h1 h2 h3 h4
      obtain ⟨sh2, hs2⟩ := sh_ex bk2.1
      exact ⟨H.fi, H.ri, H.be, H.wt, H.bd, ⟨n', j, sh2, ⟨bk2, hs2, (fun q => absurd ecc q), (fun q => absurd rfl q), ⟨ehp, Or.inl ehp, (fun q => absurd ehp q)⟩, (by omega), rfl, rfl, hu⟩⟩, H.hk, H.ui, H.m7⟩
    · subst c3
      refine ⟨fun q => absurd (by rw [← c1, q]) (show ¬ (2 : Int32) = 0 by decide), fun _ => ⟨fun q => absurd (by rw [← c1, q]) (show ¬ (2 : Int32) = 1 by decide), fun _ => ?_⟩⟩
      rw [e1, c6, cl_nI (by omega)]
      refine ⟨pk_in t 12 (by omega), fun t2 et2 => ref (fun T K N F S h0 h1 h2 h3 h4 => ⟨fun q => absurd (by rw [← c2, q]) (show ¬ (1 : Int32) = 0 by decide), fun _ => ⟨rfl, ?_⟩⟩)⟩
      have et3 : to' = t2 := by rw [c7, et2, e2]
      rw [c4, et3] at hb hu
      have bk2 : BK n' (nI n') tKi tEa tHa tPr tEx tSt t2 tBe T K N F S := hb.congr (fun _ _ => ⟨rfl, rfl, rfl, rfl, rfl, rfl, rfl, rfl⟩) h0 h1 h2 h3 h4
      exact ⟨H.fi, H.ri, H.be, H.wt, H.bd, ⟨n', j, sh, ⟨bk2, hk.hsh, hk.hC, hk.hK, hk.pl, (by omega), rfl, rfl, hu⟩⟩, H.hk, H.ui, H.m7⟩
