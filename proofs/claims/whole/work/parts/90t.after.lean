/-! steps: after, away -/
theorem ix_one {t o u v : Nat} (ho : o < 12) (hv : v < 12) : 12 * u + v = 12 * t + o ↔ u = t ∧ v = o := by omega
theorem step_4 : STEP_4 RelS := by
  intro bHK bHP bPF bWC bRi bBe bFi bWa dB dS dN tC tKi tEa tHa tPr tEx tSt tTo tBe kC kKi kEa kHa kPr kEx kSt kTo kBe aC aWh aTa aWa iRo iEa iLa cC nC nFo nQd nRo nBe nEa nMi nHa nER nMR nTh nPa nOu nFr nQu eM eL eC eS eB eE eF eG pT pK pN pF pS qT qK qN qF qS mKe mUn mFi mRi mBe mWc mAK mSh mIP mUS mWa mWi mSi mRo mSp mRw mSn mBg mLa mMo mRm mOw mGo mFr mQu mCh mPB mPS mFs ub uT uK uN uF uS H v0 v1
  obtain ⟨n, a, sh, hk⟩ := H.tk
  have hT := hk.bk.1
  obtain rfl := hT.1
  have hM := hk.bk.2.1
  obtain rfl := hM.1
  obtain rfl := hk.hac
  obtain rfl := hk.hmu
  have hn := hT.2.1
  have hpF := hM.2.2.2
  obtain ⟨j, d, hj, hj2, hd⟩ := jd_ex hk.ha
  have hus := UL.us _ _ _ _ hk.ul
  have mf := foMC hM
  obtain ⟨rk, hr⟩ := hT.2.2.2.2
  refine wp_has5 hn (fun t ht et => ⟨fun z => absurd z (by decide), fun _ => wp_has5 hn (fun o ho eo => ⟨fun _ => ?_, fun z => absurd z (by decide)⟩) (fun y => ⟨fun z => absurd rfl z, fun _ b eb => wp_ist hn (fun u hu eu => ⟨fun z => absurd z (by decide), fun _ => wp_ist hn (fun t ht et => absurd (nI_ne hn ht et) y) (fun _ => ⟨fun z => absurd rfl z, fun _ => ⟨fun z => absurd z (by decide), fun _ m em => ⟨rfl, ⟨(by rw [eb, em, H.fi]), H.ri, H.be, H.wt, H.bd, H.tk, H.hk, H.ui, H.m7⟩⟩⟩⟩)⟩) (fun y => absurd (nI_ne hn ht et) y)⟩)⟩) (fun y => ⟨fun _ b eb => wp_ist hn (fun t ht et => absurd (nI_ne hn ht et) y) (fun _ => ⟨fun _ => ⟨fun z => absurd z (by decide), fun _ m em => ⟨rfl, ⟨(by rw [eb, em, H.fi]), H.ri, H.be, H.wt, H.bd, H.tk, H.hk, H.ui, H.m7⟩⟩⟩, fun z => absurd rfl z⟩), fun z => absurd rfl z⟩)
  subst et
  subst eo
  have ref : ∀ {Q : Int32 → (Nat → Int32) → Int32 → Int32 → Int32 → Int32 → Int32 → (Nat → Int32) → (Nat → Nat) → (Nat → Int32) → (Nat → Nat → Int32) → (Nat → Nat → Int32) → (Nat → Nat → Int32) → (Nat → Nat → Int32) → Prop}, (∀ y : Int32, (∀ i, bt y i = true ↔ i < n ∧ TC (foM n (upd pF (12 * t + o) 1)) i i) → ((y = 0 → wp_X9_remember (nI n) pK pN pF pS (nI a) mAK mIP mUS ub uT uK uN uF uS 0 (fun mUn_40 mAK_41 mIP_42 mUS_43 ub_44 uT_45 uK_46 uN_47 uF_48 uS_49 => vp_in (nI (12 * t + o)) 144 ∧ ∀ pF_50 : Nat → Int32, pF_50 = upd pF (12 * t + o) 1 → wp_X9_followed (nI n) pF_50 (nI t) (fun r_52 => Q r_52 pF_50 mUn_40 mFi mRi mAK_41 mIP_42 mUS_43 ub_44 uT_45 uK_46 uN_47 uF_48 uS_49))) ∧ (¬ y = 0 → ∀ m, m = mFi + 1 → Q (-6) pF (nI a) m y mAK mIP mUS ub uT uK uN uF uS))) → wp_X9_after (nI n) pK pN pF pS (nI a) mFi mRi mAK mIP mUS ub uT uK uN uF uS (nI t) (nI o) Q := fun {Q} h => wp_ist hn (fun u hu eu => ⟨fun z => absurd z (by decide), fun _ => wp_ist hn (fun w hw ew => ⟨fun _ => by
    rw [ix12, cl_nI (by omega), nar_b1]
    refine ⟨pk_in (12 * t + o) 144 (by omega), fun x3 e3 => ⟨pk_in (12 * t + o) 144 (by omega), fun pf22 e22 => ⟨n + 1, ?_⟩⟩⟩
    rw [e22]
    refine mring_in hn n 0 0 (by omega) (fun r hr => ⟨pk_in (12 * t + o) 144 (by omega), fun pf37 e37 => ?_⟩)
    have p37 : pf37 = pF := by
      funext k
      rw [e37, e3, nar_b (hpF (12 * t + o) (by omega))]
      by_cases z : k = (12 * t + o)
      · rw [z, upd_at]
      · rw [upd_ne z, upd_ne z]
    rw [p37]
    obtain ⟨q1, q2⟩ := h r (fun i => by
      rw [hr i, b_0]
      exact ⟨fun z => by rcases z with z | z; exact absurd z (by decide); exact z.2, fun z => Or.inr ⟨Nat.zero_le _, z⟩⟩)
    exact ⟨fun z => q1 z, fun z ri eri => ⟨fun z => absurd z (by decide), fun _ m em => by rw [eri]; exact q2 z m em⟩⟩, fun z => absurd z (by decide)⟩) (fun y => absurd (nI_ne hn ho rfl) y)⟩) (fun y => absurd (nI_ne hn ht rfl) y)
  have hf : ∀ u v, foM n (upd pF (12 * t + o) 1) u v ↔ foC n tBe u v ∨ (u = t ∧ v = o) := fun u v => by
    rw [← mf]
    unfold foM
    by_cases z : u = t ∧ v = o
    · obtain ⟨rfl, rfl⟩ := z
      rw [upd_at]
      exact ⟨fun _ => Or.inr ⟨rfl, rfl⟩, fun _ => ⟨ht, ho, by decide⟩⟩
    · constructor
      · rintro ⟨z1, z2, z3⟩
        rw [upd_ne (fun e => z ((ix_one (by omega) (by omega)).mp e))] at z3
        exact Or.inl ⟨z1, z2, z3⟩
      · rintro (⟨z1, z2, z3⟩ | z1)
        · exact ⟨z1, z2, by rw [upd_ne (fun e => z ((ix_one (by omega) (by omega)).mp e))]; exact z3⟩
        · exact absurd z1 z
  refine wp_ring hn hT.2.2.2.1 ht ho (fun y hy => ?_)
  have same : ∀ r : Int32, (∀ i, bt r i = true ↔ i < n ∧ TC (foM n (upd pF (12 * t + o) 1)) i i) → y = r := fun r hr2 => bt_one hy (fun i => by
    rw [hr2 i, ring_iff hr hf i]
    refine ⟨fun z => z.2, fun z => ⟨?_, z⟩⟩
    rcases z.1 with q | q
    · rw [q]; exact ht
    · exact (q.lt foC_lt).1)
  refine ⟨fun z => ⟨pk_in t 12 (by omega), ?_⟩, fun z ri eri b eb => ref (fun r hr2 => ⟨fun z2 => absurd (by rw [same r hr2]; exact z2) z, fun _ m em => ⟨rfl, ⟨(by rw [eb, em, H.fi]), (by rw [eri, same r hr2]), H.be, H.wt, H.bd, H.tk, H.hk, H.ui, H.m7⟩⟩⟩)⟩
  · have nor : ¬ ((t = t ∨ TC (foC n tBe) t t) ∧ (t = o ∨ TC (foC n tBe) o t)) := fun q => by
      have := (hy t).mpr q
      rw [z, b_0] at this
      exact absurd this (by decide)
    obtain ⟨rk2, hr2⟩ := rank_after hr hf (fun e => nor ⟨Or.inl rfl, Or.inl e.symm⟩) (fun e => nor ⟨Or.inl rfl, Or.inr e⟩)
    rw [cl_nI (by omega)]
    have fc : ∀ u v, foC n (upd tBe t (tBe t ||| (1 <<< (nI o &&& 31)))) u v ↔ foC n tBe u v ∨ (u = t ∧ v = o) := fun u v => by
      unfold foC
      by_cases y : u = t
      · subst y
        rw [upd_at, b_set (by omega), Bool.or_eq_true, decide_eq_true_iff]
        constructor
        · rintro ⟨z1, z2, z3 | z3⟩
          · exact Or.inl ⟨z1, z2, z3⟩
          · exact Or.inr ⟨rfl, z3⟩
        · rintro (⟨z1, z2, z3⟩ | ⟨_, z3⟩)
          · exact ⟨z1, z2, Or.inl z3⟩
          · exact ⟨ht, by omega, Or.inr z3⟩
      · rw [upd_ne y]
        exact ⟨fun q => Or.inl q, fun q => by rcases q with q | q; exact q; exact absurd q.1 y⟩
    have hT2 : TB n (nI n) tKi tEa tHa tPr tEx tSt (upd tBe t (tBe t ||| (1 <<< (nI o &&& 31)))) := ⟨rfl, hn, hT.2.2.1, fun u hu v hv => by
      by_cases y : u = t
      · rw [y, upd_at, b_set (by omega), Bool.or_eq_true, decide_eq_true_iff] at hv
        rcases hv with q | q
        · exact hT.2.2.2.1 t ht v q
        · omega
      · rw [upd_ne y] at hv; exact hT.2.2.2.1 u hu v hv, ⟨rk2, fun u v q => hr2 u v ((hf u v).mpr ((fc u v).mp q))⟩⟩
    have hM2 : MB n tKi tEa tHa tPr tEx tSt (upd tBe t (tBe t ||| (1 <<< (nI o &&& 31)))) (nI n) pK pN (upd pF (12 * t + o) 1) := ⟨rfl, hM.2.1, fun u v hu hv => by
      by_cases y : u = t
      · subst y
        rw [upd_at, b_set (by omega)]
        by_cases x : v = o
        · rw [x, upd_at]
          exact ⟨fun q => absurd q (by decide), fun q => by simp at q⟩
        · rw [upd_ne (by omega), hM.2.2.1 u v hu hv]
          simp [x]
      · rw [upd_ne y, upd_ne (fun e => y ((ix_one (by omega) (by omega)).mp e).1)]
        exact hM.2.2.1 u v hu hv, fun k hk2 => by
      by_cases y : k = (12 * t + o)
      · rw [y, upd_at]; exact Or.inr rfl
      · rw [upd_ne y]; exact hpF k hk2⟩
    unfold wp_X7_changeBefore
    rw [cl_nI (by omega)]
    refine ⟨pk_in t 12 (by omega), wp_add hj hj2 hd (fun W T A hw w1 w2 w3 => ⟨pk_in t 12 (by omega), fun b2 eb2 hp ehp cc ecc => ref (fun r hr3 => ⟨fun _ => wp_rem hj hj2 hd (Or.inl rfl) hpF H.ui hus (fun ak ip U b uT' uK' uN' uF' uS' g0 g1 hv v1' h0 h1 h2 h3 h4 hb => ⟨pk_in (12 * t + o) 144 (by omega), fun pf epf => wp_fol hn (by omega) ⟨?_, ?_⟩⟩), fun z2 => absurd (by rw [← same r hr3]; exact z) z2⟩)⟩)⟩
    · rw [epf]
      have q := cnt_eq hT2 hM2 ht
      rw [upd_at] at q
      exact q
    · obtain ⟨rfl, rfl⟩ := g0 rfl
      have bk2 : BK n (nI n) tKi tEa tHa tPr tEx tSt tTo b2 (nI n) pK pN pf pS := by rw [eb2, epf]; exact ⟨hT2, hM2, hk.bk.2.2⟩
      have ag : ∀ u, u < n → tKi u = tKi u ∧ tEa u = tEa u ∧ tHa u = tHa u ∧ tPr u = tPr u ∧ tEx u = tEx u ∧ tSt u = tSt u ∧ tTo u = tTo u ∧ tBe u = upd b2 t (A j) u := fun u _ => ⟨rfl, rfl, rfl, rfl, rfl, rfl, rfl, by
        rw [w3, eb2]
        by_cases z : u = t
        · rw [z, upd_at]
        · rw [upd_ne z, upd_ne z]⟩
      have ul2 : UL tKi tEa tHa tPr tEx tSt W T A U b uT' uK' uN' uF' uS' (j + 1) n tTo b2 := ⟨n, tTo, upd b2 t (A j), Or.inr (Or.inl ⟨w1, v1', rfl, rfl, t, ht, w2, rfl⟩), hk.bk.congr ag h0 h1 h2 h3 h4, UL.sub (d := d) j n tTo tBe _ _ (fun i hi => ⟨(hw i hi).1, (hw i hi).2.1, (hw i hi).2.2, (hv i hi).1, (hv i hi).2.1, (hv i hi).2.2.1, (hv i hi).2.2.2.1, (hv i hi).2.2.2.2.1, (hv i hi).2.2.2.2.2⟩) ag (by rw [hj]; exact hk.ul)⟩
      obtain ⟨sh2, hs2⟩ := sh_ex bk2.1
      exact ⟨H.fi, H.ri, H.be, H.wt, H.bd, ⟨n, j + 1, sh2, ⟨bk2, hs2, (fun q => absurd ecc q), (fun q => absurd rfl q), ⟨ehp, Or.inl ehp, (fun q => absurd ehp q)⟩, (by omega), rfl, rfl, ul2⟩⟩, H.hk, hb, H.m7⟩
theorem step_5 : STEP_5 RelS := by
  intro bHK bHP bPF bWC bRi bBe bFi bWa dB dS dN tC tKi tEa tHa tPr tEx tSt tTo tBe kC kKi kEa kHa kPr kEx kSt kTo kBe aC aWh aTa aWa iRo iEa iLa cC nC nFo nQd nRo nBe nEa nMi nHa nER nMR nTh nPa nOu nFr nQu eM eL eC eS eB eE eF eG pT pK pN pF pS qT qK qN qF qS mKe mUn mFi mRi mBe mWc mAK mSh mIP mUS mWa mWi mSi mRo mSp mRw mSn mBg mLa mMo mRm mOw mGo mFr mQu mCh mPB mPS mFs ub uT uK uN uF uS H v0 v1
  obtain ⟨n, a, sh, hk⟩ := H.tk
  have hT := hk.bk.1
  obtain rfl := hT.1
  have hM := hk.bk.2.1
  obtain rfl := hM.1
  obtain rfl := hk.hac
  obtain rfl := hk.hmu
  have hn := hT.2.1
  have hpF := hM.2.2.2
  obtain ⟨j, d, hj, hj2, hd⟩ := jd_ex hk.ha
  have hus := UL.us _ _ _ _ hk.ul
  obtain ⟨rk, hr⟩ := hT.2.2.2.2
  refine wp_has5 hn (fun t ht et => ⟨fun z => absurd z (by decide), fun _ => wp_has5 hn (fun o ho eo => ⟨fun _ => ⟨by rw [et]; exact pk_in t 12 (by omega), ?_⟩, fun z => absurd z (by decide)⟩) (fun y => ⟨fun z => absurd rfl z, fun _ b eb => wp_ist hn (fun u hu eu => ⟨fun z => absurd z (by decide), fun _ => wp_ist hn (fun t ht et => absurd (nI_ne hn ht et) y) (fun _ => ⟨fun z => absurd rfl z, fun _ => ⟨fun z => absurd z (by decide), fun _ m em => ⟨rfl, ⟨(by rw [eb, em, H.fi]), H.ri, H.be, H.wt, H.bd, H.tk, H.hk, H.ui, H.m7⟩⟩⟩⟩)⟩) (fun y => absurd (nI_ne hn ht et) y)⟩)⟩) (fun y => ⟨fun _ b eb => wp_ist hn (fun t ht et => absurd (nI_ne hn ht et) y) (fun _ => ⟨fun _ => ⟨fun z => absurd z (by decide), fun _ m em => ⟨rfl, ⟨(by rw [eb, em, H.fi]), H.ri, H.be, H.wt, H.bd, H.tk, H.hk, H.ui, H.m7⟩⟩⟩, fun z => absurd rfl z⟩), fun z => absurd rfl z⟩)
  subst et
  subst eo
  have pf := hM.2.2.1 t o ht ho
  have ref : ∀ {Q : Int32 → (Nat → Int32) → Int32 → Int32 → Int32 → Int32 → (Nat → Int32) → (Nat → Nat) → (Nat → Int32) → (Nat → Nat → Int32) → (Nat → Nat → Int32) → (Nat → Nat → Int32) → (Nat → Nat → Int32) → Prop}, (bt (tBe t) o = true → wp_X9_remember (nI n) pK pN pF pS (nI a) mAK mIP mUS ub uT uK uN uF uS 0 (fun mUn_20 mAK_21 mIP_22 mUS_23 ub_24 uT_25 uK_26 uN_27 uF_28 uS_29 => vp_in (nI (12 * t + o)) 144 ∧ ∀ pF_30 : Nat → Int32, pF_30 = upd pF (12 * t + o) 0 → wp_X9_followed (nI n) pF_30 (nI t) (fun r_32 => Q r_32 pF_30 mUn_20 mFi mAK_21 mIP_22 mUS_23 ub_24 uT_25 uK_26 uN_27 uF_28 uS_29))) → (bt (tBe t) o = false → ∀ m, m = mFi + 1 → Q (-7) pF (nI a) m mAK mIP mUS ub uT uK uN uF uS) → wp_X9_away (nI n) pK pN pF pS (nI a) mFi mAK mIP mUS ub uT uK uN uF uS (nI t) (nI o) Q := fun {Q} h1 h0 => wp_ist hn (fun u hu eu => ⟨fun z => absurd z (by decide), fun _ => wp_ist hn (fun w hw ew => ⟨fun _ => by
    rw [ix12, cl_nI (by omega), nar_b0]
    refine ⟨pk_in (12 * t + o) 144 (by omega), fun q => h1 ?_, fun q => ⟨fun z => absurd z (by decide), fun _ m em => h0 (pf.mp q) m em⟩⟩
    cases b : bt (tBe t) o
    · exact absurd (pf.mpr b) q
    · rfl, fun z => absurd z (by decide)⟩) (fun y => absurd (nI_ne hn ho rfl) y)⟩) (fun y => absurd (nI_ne hn ht rfl) y)
  rw [cl_nI (k := t) (by omega)]
  refine wp_bit' (by omega) (fun b0 b eb => ref (fun q => absurd q (by rw [b0]; decide)) (fun _ m em => ⟨rfl, ⟨(by rw [eb, em, H.fi]), H.ri, H.be, H.wt, H.bd, H.tk, H.hk, H.ui, H.m7⟩⟩)) (fun b1 => ⟨pk_in t 12 (by omega), ?_⟩)
  · have cl : ∀ v, v < n → (bt (tBe t &&& ((1 <<< (nI o &&& 31)) ^^^ (-1))) v = true ↔ bt (tBe t) v = true ∧ ¬ v = o) := fun v hv => by
      rw [b_clr (by omega) (by omega), Bool.and_eq_true]
      simp
    have hi : ∀ v, bt (tBe t &&& ((1 <<< (nI o &&& 31)) ^^^ (-1))) v = true → bt (tBe t) v = true := fun v hv => by
      rw [b_and, Bool.and_eq_true] at hv
      exact hv.1
    have hT2 : TB n (nI n) tKi tEa tHa tPr tEx tSt (upd tBe t (tBe t &&& ((1 <<< (nI o &&& 31)) ^^^ (-1)))) := ⟨rfl, hn, hT.2.2.1, fun u hu v hv => by
      by_cases y : u = t
      · rw [y, upd_at] at hv
        exact hT.2.2.2.1 t ht v (hi v hv)
      · rw [upd_ne y] at hv; exact hT.2.2.2.1 u hu v hv, ⟨rk, fun u v q => hr u v ⟨q.1, q.2.1, by
      have q3 := q.2.2
      by_cases y : u = t
      · rw [y, upd_at] at q3; rw [y]; exact hi v q3
      · rw [upd_ne y] at q3; exact q3⟩⟩⟩
    have hM2 : MB n tKi tEa tHa tPr tEx tSt (upd tBe t (tBe t &&& ((1 <<< (nI o &&& 31)) ^^^ (-1)))) (nI n) pK pN (upd pF (12 * t + o) 0) := ⟨rfl, hM.2.1, fun u v hu hv => by
      by_cases y : u = t
      · subst y
        rw [upd_at]
        have c := cl v hv
        by_cases x : v = o
        · subst x
          rw [upd_at]
          refine ⟨fun _ => ?_, fun _ => rfl⟩
          cases b : bt (tBe u &&& ((1 <<< (nI v &&& 31)) ^^^ (-1))) v
          · rfl
          · exact absurd rfl (c.mp b).2
        · rw [upd_ne (by omega), hM.2.2.1 u v hu hv]
          constructor
          · intro q
            cases b : bt (tBe u &&& ((1 <<< (nI o &&& 31)) ^^^ (-1))) v
            · rfl
            · rw [(c.mp b).1] at q; exact absurd q (by decide)
          · intro q
            cases b : bt (tBe u) v
            · rfl
            · rw [c.mpr ⟨b, x⟩] at q; exact absurd q (by decide)
      · rw [upd_ne y, upd_ne (fun e => y ((ix_one (by omega) (by omega)).mp e).1)]
        exact hM.2.2.1 u v hu hv, fun k hk2 => by
      by_cases y : k = (12 * t + o)
      · rw [y, upd_at]; exact Or.inl rfl
      · rw [upd_ne y]; exact hpF k hk2⟩
    unfold wp_X7_changeBefore
    rw [cl_nI (by omega)]
    refine ⟨pk_in t 12 (by omega), wp_add hj hj2 hd (fun W T A hw w1 w2 w3 => ⟨pk_in t 12 (by omega), fun b2 eb2 hp ehp cc ecc => ref (fun _ => wp_rem hj hj2 hd (Or.inl rfl) hpF H.ui hus (fun ak ip U b uT' uK' uN' uF' uS' g0 g1 hv v1' h0 h1 h2 h3 h4 hb => ⟨pk_in (12 * t + o) 144 (by omega), fun pf epf => wp_fol hn (by omega) ⟨?_, ?_⟩⟩)) (fun q => absurd q (by rw [b1]; decide))⟩)⟩
    · rw [epf]
      have q := cnt_eq hT2 hM2 ht
      rw [upd_at] at q
      exact q
    · obtain ⟨rfl, rfl⟩ := g0 rfl
      have bk2 : BK n (nI n) tKi tEa tHa tPr tEx tSt tTo b2 (nI n) pK pN pf pS := by rw [eb2, epf]; exact ⟨hT2, hM2, hk.bk.2.2⟩
      have ag : ∀ u, u < n → tKi u = tKi u ∧ tEa u = tEa u ∧ tHa u = tHa u ∧ tPr u = tPr u ∧ tEx u = tEx u ∧ tSt u = tSt u ∧ tTo u = tTo u ∧ tBe u = upd b2 t (A j) u := fun u _ => ⟨rfl, rfl, rfl, rfl, rfl, rfl, rfl, by
        rw [w3, eb2]
        by_cases z : u = t
        · rw [z, upd_at]
        · rw [upd_ne z, upd_ne z]⟩
      have ul2 : UL tKi tEa tHa tPr tEx tSt W T A U b uT' uK' uN' uF' uS' (j + 1) n tTo b2 := ⟨n, tTo, upd b2 t (A j), Or.inr (Or.inl ⟨w1, v1', rfl, rfl, t, ht, w2, rfl⟩), hk.bk.congr ag h0 h1 h2 h3 h4, UL.sub (d := d) j n tTo tBe _ _ (fun i hi => ⟨(hw i hi).1, (hw i hi).2.1, (hw i hi).2.2, (hv i hi).1, (hv i hi).2.1, (hv i hi).2.2.1, (hv i hi).2.2.2.1, (hv i hi).2.2.2.2.1, (hv i hi).2.2.2.2.2⟩) ag (by rw [hj]; exact hk.ul)⟩
      obtain ⟨sh2, hs2⟩ := sh_ex bk2.1
      exact ⟨H.fi, H.ri, H.be, H.wt, H.bd, ⟨n, j + 1, sh2, ⟨bk2, hs2, (fun q => absurd ecc q), (fun q => absurd rfl q), ⟨ehp, Or.inl ehp, (fun q => absurd ehp q)⟩, (by omega), rfl, rfl, ul2⟩⟩, H.hk, hb, H.m7⟩
