/-! steps: a task made -/
theorem num_ok {kd m : Nat} (hk : kd < 5) (hm : nd kd = m) {R : Nat → Int64} (G : GoodR kd R) : NumOK (nI kd) (Int64.toInt32 (R 0)) (if 1 < m then Int64.toInt32 (R 1) else Int64.toInt32 (R 0)) (if 2 < m then Int64.toInt32 (R 2) else 0) (if 3 < m then Int64.toInt32 (R 3) else 0) (if 4 < m then Int64.toInt32 (R 4) else 0) := by
  obtain ⟨g0, g1, g2, g4⟩ := G
  have e0 : (0 : Int32).toInt = 0 := rfl
  have q0 : (Int64.toInt32 (R 0)).toInt = (R 0).toInt := i_of (by omega) (by omega)
  have hh : 0 ≤ (if 1 < m then Int64.toInt32 (R 1) else Int64.toInt32 (R 0) : Int32).toInt ∧ (if 1 < m then Int64.toInt32 (R 1) else Int64.toInt32 (R 0) : Int32).toInt ≤ (R 0).toInt := by
    by_cases z : 1 < m
    · rw [if_pos z]
      obtain ⟨a1, a2⟩ := g1 (by omega)
      rw [i_of (by omega) (by omega)]; exact a1
    · rw [if_neg z, q0]; omega
  have hp : 0 ≤ (if 2 < m then Int64.toInt32 (R 2) else 0 : Int32).toInt ∧ (if 2 < m then Int64.toInt32 (R 2) else 0 : Int32).toInt ≤ 100000 := by
    by_cases z : 2 < m
    · rw [if_pos z]
      obtain ⟨a1, a2⟩ := g1 (by omega)
      rw [i_of (by omega) (by omega)]; exact a2
    · rw [if_neg z, e0]; omega
  have hx : 0 ≤ (if 3 < m then Int64.toInt32 (R 3) else 0 : Int32).toInt ∧ (if 3 < m then Int64.toInt32 (R 3) else 0 : Int32).toInt ≤ 100000 := by
    by_cases z : 3 < m
    · rw [if_pos z]
      have k : kd = 2 ∨ kd = 4 := by
        match kd, hk, hm with
        | 0, _, hm => exact absurd (show 3 < nd 0 by omega) (by decide)
        | 1, _, hm => exact absurd (show 3 < nd 1 by omega) (by decide)
        | 2, _, _ => exact Or.inl rfl
        | 3, _, hm => exact absurd (show 3 < nd 3 by omega) (by decide)
        | 4, _, _ => exact Or.inr rfl
      rcases k with k | k
      · have a := (g2 k).1
        rw [i_of (by omega) (by omega)]; omega
      · have a := g4 k
        rw [i_of (by omega) (by omega)]; omega
    · rw [if_neg z, e0]; omega
  have hs : 0 ≤ (if 4 < m then Int64.toInt32 (R 4) else 0 : Int32).toInt ∧ (if 4 < m then Int64.toInt32 (R 4) else 0 : Int32).toInt ≤ 100000 := by
    by_cases z : 4 < m
    · rw [if_pos z]
      have k : kd = 2 := by
        match kd, hk, hm with
        | 0, _, hm => exact absurd (show 4 < nd 0 by omega) (by decide)
        | 1, _, hm => exact absurd (show 4 < nd 1 by omega) (by decide)
        | 2, _, _ => rfl
        | 3, _, hm => exact absurd (show 4 < nd 3 by omega) (by decide)
        | 4, _, hm => exact absurd (show 4 < nd 4 by omega) (by decide)
      have a := (g2 k).2
      rw [i_of (by omega) (by omega)]; omega
    · rw [if_neg z, e0]; omega
  refine ⟨?_, ?_, hh.1, by rw [q0]; exact hh.2, by rw [q0]; omega, hp.1, hp.2, hx.1, hx.2, hs.1, hs.2⟩
  · rw [nI_toInt (by omega)]; omega
  · rw [nI_toInt (by omega)]; omega
theorem bk_add {n : Nat} {tKi tEa tHa tPr tEx tSt tTo tBe pK pN pF pS K N F S : Nat → Int32} (H : BK n (nI n) tKi tEa tHa tPr tEx tSt tTo tBe (nI n) pK pN pF pS) (hn : n < 12) {ki ea ha pr ex st : Int32} (ok : NumOK ki ea ha pr ex st) (hK : K = upd pK n ki) (hN : N (5 * n) = ea ∧ N (5 * n + 1) = ha ∧ N (5 * n + 2) = pr ∧ N (5 * n + 3) = ex ∧ N (5 * n + 4) = st) (hN2 : ∀ x, x < 5 * n → N x = pN x) (hF1 : ∀ o, o < 12 → F (12 * n + o) = 0 ∧ F (12 * o + n) = 0) (hF2 : ∀ u v, v < 12 → u ≠ n → v ≠ n → F (12 * u + v) = pF (12 * u + v)) (hF3 : ∀ k, F k = 0 ∨ F k = pF k) (hS : S = upd pS n ea) : BK (n + 1) (nI (n + 1)) (upd tKi n ki) (upd tEa n ea) (upd tHa n ha) (upd tPr n pr) (upd tEx n ex) (upd tSt n st) (upd tTo n ea) (upd tBe n 0) (nI (n + 1)) K N F S := by
  obtain ⟨⟨a1, a2, a3, a4, ⟨rk, a5⟩⟩, ⟨b1, b2, b3, b4⟩, c⟩ := H
  refine ⟨⟨rfl, by omega, fun t ht => ?_, fun t ht o ho => ?_, ⟨rk, fun t o q => ?_⟩⟩, ⟨rfl, fun t ht => ?_, fun t o ht ho => ?_, fun k hk => ?_⟩, fun t ht => ?_⟩
  · by_cases z : t = n
    · rw [z, upd_at, upd_at, upd_at, upd_at, upd_at, upd_at]; exact ok
    · rw [upd_ne z, upd_ne z, upd_ne z, upd_ne z, upd_ne z, upd_ne z]; exact a3 t (by omega)
  · by_cases z : t = n
    · rw [z, upd_at, b_0] at ho; exact absurd ho (by decide)
    · rw [upd_ne z] at ho; have := a4 t (by omega) o ho; omega
  · obtain ⟨q1, q2, q3⟩ := q
    by_cases z : t = n
    · rw [z, upd_at, b_0] at q3; exact absurd q3 (by decide)
    · rw [upd_ne z] at q3
      exact a5 t o ⟨by omega, a4 t (by omega) o q3, q3⟩
  · by_cases z : t = n
    · rw [z, hK, upd_at, upd_at, upd_at, upd_at, upd_at, upd_at, upd_at]
      exact ⟨rfl, hN.1, hN.2.1, hN.2.2.1, hN.2.2.2.1, hN.2.2.2.2⟩
    · rw [hK, upd_ne z, upd_ne z, upd_ne z, upd_ne z, upd_ne z, upd_ne z, upd_ne z, hN2 _ (by omega), hN2 _ (by omega), hN2 _ (by omega), hN2 _ (by omega), hN2 _ (by omega)]
      exact b2 t (by omega)
  · by_cases z : t = n
    · rw [z, upd_at, b_0]
      exact ⟨fun _ => rfl, fun _ => (hF1 o (by omega)).1⟩
    · rw [upd_ne z]
      by_cases y : o = n
      · rw [y]
        refine ⟨fun _ => ?_, fun _ => (hF1 t (by omega)).2⟩
        cases q : bt (tBe t) n
        · rfl
        · exact absurd (a4 t (by omega) n q) (by omega)
      · rw [hF2 t o (by omega) z y]
        exact b3 t o (by omega) (by omega)
  · rcases hF3 k with q | q
    · exact Or.inl q
    · rw [q]; exact b4 k hk
  · by_cases z : t = n
    · rw [z, hS, upd_at, upd_at, upd_at, upd_at]
      exact ⟨rfl, ok.2.2.2.1, Int.le_refl _⟩
    · rw [hS, upd_ne z, upd_ne z, upd_ne z, upd_ne z]; exact c t (by omega)
theorem step_3 : STEP_3 RelS := by
  intro bHK bHP bPF bWC bRi bBe bFi bWa dB dS dN tC tKi tEa tHa tPr tEx tSt tTo tBe kC kKi kEa kHa kPr kEx kSt kTo kBe aC aWh aTa aWa iRo iEa iLa cC nC nFo nQd nRo nBe nEa nMi nHa nER nMR nTh nPa nOu nFr nQu eM eL eC eS eB eE eF eG pT pK pN pF pS qT qK qN qF qS mKe mUn mFi mRi mBe mWc mAK mSh mIP mUS mWa mWi mSi mRo mSp mRw mSn mBg mLa mMo mRm mOw mGo mFr mQu mCh mPB mPS mFs ub uT uK uN uF uS H v0 v1 v2
  obtain ⟨n, a, sh, hk⟩ := H.tk
  have hT := hk.bk.1
  obtain rfl := hT.1
  have hM := hk.bk.2.1
  obtain rfl := hM.1
  obtain rfl := hk.hac
  obtain rfl := hk.hmu
  have hn := hT.2.1
  have hpF := hM.2.2.2
  obtain ⟨j, d, hj, hj2, hd⟩ := jd_ex hk.ha
  have hus := UL.us _ _ _ _ hk.ul
  have e0 : (0 : Int32).toInt = 0 := rfl
  have e12 : (12 : Int32).toInt = 12 := rfl
  refine wp_kd7 (fun kd hkd ekd => ⟨fun z => absurd z (by decide), fun _ => wp_bd7 (fun k hk4 ek => ⟨fun _ => ⟨by rw [ek]; exact pk_in k 4 hk4, ?_⟩, fun z => absurd z (by decide)⟩) (fun y => ⟨fun z => absurd rfl z, fun _ b eb => wp_kd9 (fun u hu eu => ⟨fun z => absurd z (by decide), fun _ => wp_bd9 (fun k hk ek => absurd (nI_b hk ek) y) (fun _ => ⟨fun z => absurd rfl z, fun _ => ⟨fun z => absurd z (by decide), fun _ m em => ⟨rfl, ⟨(by rw [eb, em, H.fi]), H.ri, H.be, H.wt, H.bd, H.tk, H.hk, H.ui, H.m7⟩⟩⟩⟩)⟩) (fun y => absurd (nI_k hkd ekd) y)⟩)⟩) (fun y => ⟨fun _ b eb => wp_kd9 (fun u hu eu => absurd (nI_k hu eu) y) (fun _ => ⟨fun _ => ⟨fun z => absurd z (by decide), fun _ m em => ⟨rfl, ⟨(by rw [eb, em, H.fi]), H.ri, H.be, H.wt, H.bd, H.tk, H.hk, H.ui, H.m7⟩⟩⟩, fun z => absurd rfl z⟩), fun z => absurd rfl z⟩)
  subst ekd
  subst ek
  obtain ⟨a1, a2, a3, a4, a5, a6⟩ := H.bd k hk4
  obtain ⟨m, hm⟩ : ∃ m, nd kd = m := ⟨_, rfl⟩
  have bm := nd_bd kd
  rw [hm] at bm
  have eM2 : (nI m).toInt = m := nI_toInt (by omega)
  have r2 := i_rng v2
  have L : (Int32.toInt64 v2 + Int32.toInt64 (nI m)).toInt = v2.toInt + m := by rw [l_add (by rw [l_of, l_of, eM2]; omega) (by rw [l_of, l_of, eM2]; omega), l_of, l_of, eM2]
  have ref : ∀ {Q : Int32 → Int32 → (Nat → Int32) → (Nat → Int32) → (Nat → Int32) → (Nat → Int32) → Int32 → Int32 → Int32 → Int32 → (Nat → Int32) → (Nat → Int64) → (Nat → Nat) → (Nat → Int32) → (Nat → Nat → Int32) → (Nat → Nat → Int32) → (Nat → Nat → Int32) → (Nat → Nat → Int32) → Prop}, (dB k = 0 → ∀ m', m' = mFi + 1 → Q (-2) (nI n) pK pN pF pS (nI a) m' mAK mIP mUS mSp ub uT uK uN uF uS) → (¬ dB k = 0 → ¬ (0 ≤ v2.toInt ∧ v2.toInt + m ≤ (dS k).toInt) → ∀ m', m' = mFi + 1 → Q (-1) (nI n) pK pN pF pS (nI a) m' mAK mIP mUS mSp ub uT uK uN uF uS) → (¬ dB k = 0 → (0 ≤ v2.toInt ∧ v2.toInt + m ≤ (dS k).toInt) → (∃ n83 : Nat, wp_X9_task_L83 (nI k) v2 mRo (nI m) (fun mSp_293 => vp_in 0 24 ∧ wp_X9_in (mSp_293 (Int32.toNatClampNeg 0)) 0 60 (fun r_299 => ((nI m ≤ 1 → wp_X9_task_b175 Q (nI kd) (nI m) r_299 (nI n) pK pN pF pS (nI a) mFi mAK mIP mUS mSp_293 ub uT uK uN uF uS) ∧
   (¬ nI m ≤ 1 → ((r_299 = 0 → wp_X9_task_b172 Q (nI kd) (nI m) (nI n) pK pN pF pS (nI a) mFi mAK mIP mUS mSp_293 ub uT uK uN uF uS) ∧
   (¬ r_299 = 0 → vp_in 1 24 ∧ vp_in 0 24 ∧ wp_X9_in (mSp_293 (Int32.toNatClampNeg 1)) 0 (mSp_293 (Int32.toNatClampNeg 0)) (fun r_302 => ((r_302 = 0 → wp_X9_task_b172 Q (nI kd) (nI m) (nI n) pK pN pF pS (nI a) mFi mAK mIP mUS mSp_293 ub uT uK uN uF uS) ∧
   (¬ r_302 = 0 → vp_in 2 24 ∧ wp_X9_in (mSp_293 (Int32.toNatClampNeg 2)) 0 100000 (fun r_304 => ((r_304 = 0 → wp_X9_task_b172 Q (nI kd) (nI m) (nI n) pK pN pF pS (nI a) mFi mAK mIP mUS mSp_293 ub uT uK uN uF uS) ∧
   (¬ r_304 = 0 → wp_X9_task_b173 Q (nI kd) 1 (nI m) (nI n) pK pN pF pS (nI a) mFi mAK mIP mUS mSp_293 ub uT uK uN uF uS)))))))))))) n83 0 mSp)) → wp_X9_task (nI n) pK pN pF pS (nI a) mFi mAK mIP mUS mWi mSi mRo mSp ub uT uK uN uF uS (nI kd) (nI k) v2 Q := fun {Q} h2 hb hg => wp_kd9 (fun u hu eu => ⟨fun z => absurd z (by decide), fun _ => wp_bd9 (fun w hw ew => ⟨fun _ => ⟨pk_in k 4 hk4, by
    rw [cl_nI (k := k) (by omega), ← a1, ← a2]
    refine ⟨fun nz => wp_nd hkd ?_, fun z => ⟨fun z => absurd z (by decide), fun _ m' em => h2 z m' em⟩⟩
    rw [hm, cmp_le0, L, l_of, i_lt, e0]
    exact ⟨fun y => ⟨fun z => absurd z (by decide), fun _ m' em => hb nz (by omega) m' em⟩, fun y => ⟨pk_in k 4 hk4, fun y2 => hg nz ⟨by omega, y2⟩, fun y2 => ⟨fun z => absurd z (by decide), fun _ m' em => hb nz (by omega) m' em⟩⟩⟩⟩, fun z => absurd z (by decide)⟩) (fun y => absurd (nI_b hk4 rfl) y)⟩) (fun y => absurd (nI_k hkd rfl) y)
  rw [cl_nI (k := k) (by omega), cl_nI (k := kd) (by omega), nd_am hkd, hm]
  refine ⟨fun nz => ⟨fun _ => ⟨pk_in kd 5 hkd, wp_has2 ⟨a4, a5⟩ (fun p1 p2 p3 => ⟨fun _ => ?_, fun z => absurd z (by decide)⟩) (fun y => ⟨fun z => absurd rfl z, fun _ b eb => ref (fun z => absurd z nz) (fun _ _ m em => ⟨rfl, ⟨(by rw [eb, em, H.fi]), H.ri, H.be, H.wt, H.bd, H.tk, H.hk, H.ui, H.m7⟩⟩) (fun _ C => absurd ⟨C.1, by omega, by omega⟩ y)⟩)⟩, fun z => absurd rfl z⟩, fun z => ⟨fun z => absurd z (by decide), fun _ b eb => ref (fun _ m em => ⟨rfl, ⟨(by rw [eb, em, H.fi]), H.ri, H.be, H.wt, H.bd, H.tk, H.hk, H.ui, H.m7⟩⟩) (fun nz => absurd z nz) (fun nz => absurd z nz)⟩⟩
  rw [eM2] at p3
  obtain ⟨p, hp, ep⟩ : ∃ p : Nat, (p : Int) = v2.toInt ∧ v2 = nI p := ⟨v2.toInt.toNat, by omega, of_toInt (by omega)⟩
  rw [← hp] at p1 p3
  subst ep
  obtain ⟨R, hR⟩ : ∃ R : Nat → Int64, R = fun i => dN k (p + i) := ⟨_, rfl⟩
  have refr : ∀ {Q : Int32 → Int32 → (Nat → Int32) → (Nat → Int32) → (Nat → Int32) → (Nat → Int32) → Int32 → Int32 → Int32 → Int32 → (Nat → Int32) → (Nat → Int64) → (Nat → Nat) → (Nat → Int32) → (Nat → Nat → Int32) → (Nat → Nat → Int32) → (Nat → Nat → Int32) → (Nat → Nat → Int32) → Prop}, (GoodR kd R → ∀ sp : Nat → Int64, (∀ i, i < m → sp i = R i) → wp_X9_task_b251 Q (nI kd) (nI m) 1 (nI n) pK pN pF pS (nI a) mFi mAK mIP mUS sp ub uT uK uN uF uS) → (¬ GoodR kd R → ∀ sp : Nat → Int64, (∀ i, i < m → sp i = R i) → wp_X9_task_b251 Q (nI kd) (nI m) 0 (nI n) pK pN pF pS (nI a) mFi mAK mIP mUS sp ub uT uK uN uF uS) → wp_X9_task (nI n) pK pN pF pS (nI a) mFi mAK mIP mUS mWi mSi mRo mSp ub uT uK uN uF uS (nI kd) (nI k) (nI p) Q := fun {Q} h1 h0 => ref (fun z => absurd z nz) (fun _ C => absurd ⟨by omega, by omega⟩ C) (fun _ _ => ⟨_, tcp hk4 (by omega) (fun sp hsp => by
    have hs : ∀ i, i < m → sp i = R i := fun i hi => by
      rw [hsp i hi, hR]
      show mRo (24 * k + p + i) = dN k (p + i)
      rw [a6 (p + i) (by omega), Nat.add_assoc]
    exact ttail hkd hm hs (fun G => h1 G sp hs) (fun G => h0 G sp hs)) m 0 mSp (by omega) (fun u hu => absurd hu (by omega))⟩)
  have eGR : GoodR kd (fun i => dN k (p + i)) = GoodR kd R := by rw [hR]
  refine wp_hold hkd (by omega) (fun G => ⟨fun _ => ?_, fun z => absurd z (by decide)⟩) (fun G => ⟨fun z => absurd rfl z, fun _ b eb => refr (fun G' => absurd (by rw [eGR]; exact G') G) (fun _ sp hsp => ⟨fun z => absurd rfl z, fun _ => ⟨fun z => absurd z (by decide), fun _ m em => ⟨rfl, ⟨(by rw [eb, em, H.fi]), H.ri, H.be, H.wt, H.bd, H.tk, H.hk, H.ui, H.m7⟩⟩⟩⟩)⟩)
  rw [eGR] at G
  rw [i_lt, e12, nI_toInt (show n < 2 ^ 31 by omega)]
  refine ⟨fun h12 => wp_tadd (by omega) hkd hm (by omega) (fun Ki Ea Ha Pr Ex St To Be k1 k2 k3 k4 k5 k6 k7 k8 => wp_add hj hj2 hd (fun W T A hw w1 w2 w3 hp ehp cc ecc => refr (fun _ sp hsp => ?_) (fun G' => absurd G G'))), fun h12 b eb => refr (fun _ sp hsp => ⟨fun _ => ⟨fun z => absurd (by rw [show n = 12 by omega]; rfl) z, fun _ => ⟨fun z => absurd z (by decide), fun _ m em => ⟨rfl, ⟨(by rw [eb, em, H.fi]), H.ri, H.be, H.wt, H.bd, H.tk, H.hk, H.ui, H.m7⟩⟩⟩⟩, fun z => absurd z (by decide)⟩) (fun G' => absurd G G')⟩
  have n12 : n < 12 := by omega
  refine ⟨fun _ => ⟨fun _ => wp_rem hj hj2 hd (Or.inl rfl) hpF H.ui hus (fun ak ip U b uT' uK' uN' uF' uS' g0 g1 hv v1' h0 h1 h2 h3 h4 hb => ⟨pk_in n 12 n12, fun K eK => ⟨_, tnum n12 (by omega) (fun N N1 N2 => ?_) 5 0 pN (by omega) (fun u hu => absurd hu (by omega)) (fun _ _ => rfl)⟩⟩), fun z => absurd ((nI_eq (a := n) (b := 12) (by omega) (by omega)).mp z) (by omega)⟩, fun z => absurd z (by decide)⟩
  rw [cl_nI (by omega)] at eK
  obtain ⟨rfl, rfl⟩ := g0 rfl
  have s0 := hsp 0 (by omega)
  have R0 : R 0 = dN k p := by rw [hR]; rfl
  have fin : ∀ N : Nat → Int32, (N (5 * n) = Int64.toInt32 (R 0) ∧ N (5 * n + 1) = (if 1 < m then Int64.toInt32 (R 1) else Int64.toInt32 (R 0)) ∧ N (5 * n + 2) = (if 2 < m then Int64.toInt32 (R 2) else 0) ∧ N (5 * n + 3) = (if 3 < m then Int64.toInt32 (R 3) else 0) ∧ N (5 * n + 4) = (if 4 < m then Int64.toInt32 (R 4) else 0)) → (∀ x, x < 5 * n → N x = pN x) → wp_X9_task_b379 (fun r2 pT pK pN pF pS mUn mFi mAK mIP mUS mSp ub uT uK uN uF uS => nI n = r2 ∧ RelS bHK hp bPF bWC bRi bBe bFi bWa dB dS dN (nI (n + 1)) Ki Ea Ha Pr Ex St To Be kC kKi kEa kHa kPr kEx kSt kTo kBe (nI (j + 1)) W T A iRo iEa iLa cc nC nFo nQd nRo nBe nEa nMi nHa nER nMR nTh nPa nOu nFr nQu eM eL eC eS eB eE eF eG pT pK pN pF pS qT qK qN qF qS mKe mUn mFi mRi mBe mWc mAK mSh mIP mUS mWa mWi mSi mRo mSp mRw mSn mBg mLa mMo mRm mOw mGo mFr mQu mCh mPB mPS mFs ub uT uK uN uF uS) (nI n) (nI n) K N pF pS (nI (j + 1)) mFi 0 0 U sp b uT' uK' uN' uF' uS' := fun N n1 n2 => ⟨_, tfol n12 (fun F F1 F2 F3 => ⟨pk_in 0 24 (by omega), pk_in n 12 n12, fun S eSs c ec => ⟨rfl, by
    rw [cl_nI (by omega), show Int32.toNatClampNeg 0 = 0 from rfl, s0] at eSs
    rw [ec, nI_1]
    have bk2 : BK (n + 1) (nI (n + 1)) Ki Ea Ha Pr Ex St To Be (nI (n + 1)) K N F S := by
      have q := bk_add hk.bk n12 (num_ok hkd hm G) eK n1 n2 F1 F2 F3 eSs
      rw [k1, k2, k3, k4, k5, k6, k7, k8]
      subst hR
      exact q
    have ag : ∀ u, u < n → tKi u = Ki u ∧ tEa u = Ea u ∧ tHa u = Ha u ∧ tPr u = Pr u ∧ tEx u = Ex u ∧ tSt u = St u ∧ tTo u = To u ∧ tBe u = Be u := fun u hu => by
      have ne : u ≠ n := by omega
      rw [k1, k2, k3, k4, k5, k6, k7, k8, upd_ne ne, upd_ne ne, upd_ne ne, upd_ne ne, upd_ne ne, upd_ne ne, upd_ne ne, upd_ne ne]
      exact ⟨rfl, rfl, rfl, rfl, rfl, rfl, rfl, rfl⟩
    have ul2 : UL Ki Ea Ha Pr Ex St W T A U b uT' uK' uN' uF' uS' (j + 1) (n + 1) To Be := ⟨n, To, Be, Or.inl ⟨w1, v1', rfl, w2, rfl, rfl⟩, hk.bk.congr ag h0 h1 h2 h3 h4, UL.sub (d := d) j n tTo tBe _ _ (fun i hi => ⟨(hw i hi).1, (hw i hi).2.1, (hw i hi).2.2, (hv i hi).1, (hv i hi).2.1, (hv i hi).2.2.1, (hv i hi).2.2.2.1, (hv i hi).2.2.2.2.1, (hv i hi).2.2.2.2.2⟩) ag (by rw [hj]; exact hk.ul)⟩
    obtain ⟨sh2, hs2⟩ := sh_ex bk2.1
    exact ⟨H.fi, H.ri, H.be, H.wt, H.bd, ⟨n + 1, j + 1, sh2, ⟨bk2, hs2, (fun q => absurd ecc q), (fun q => absurd rfl q), ⟨ehp, Or.inl ehp, (fun q => absurd ehp q)⟩, (by omega), rfl, rfl, ul2⟩⟩, H.hk, hb, H.m7⟩⟩⟩) 12 0 pF (by omega) (fun o ho => absurd ho (by omega)) (fun _ _ _ _ _ => rfl) (fun _ => Or.inr rfl)⟩
  have v0' := N1 0 (by omega)
  have v1'' := N1 1 (by omega)
  have v2' := N1 2 (by omega)
  have v3' := N1 3 (by omega)
  have v4' := N1 4 (by omega)
  rw [if_pos (by omega), s0, Nat.add_zero] at v0'
  have c2 : N (5 * n + 2) = (if 2 < m then Int64.toInt32 (R 2) else 0) := by
    rw [v2']
    by_cases z : 2 < m
    · rw [if_pos z, if_pos z, hsp 2 z]
    · rw [if_neg z, if_neg z]
  have c3 : N (5 * n + 3) = (if 3 < m then Int64.toInt32 (R 3) else 0) := by
    rw [v3']
    by_cases z : 3 < m
    · rw [if_pos z, if_pos z, hsp 3 z]
    · rw [if_neg z, if_neg z]
  have c4 : N (5 * n + 4) = (if 4 < m then Int64.toInt32 (R 4) else 0) := by
    rw [v4']
    by_cases z : 4 < m
    · rw [if_pos z, if_pos z, hsp 4 z]
    · rw [if_neg z, if_neg z]
  refine ⟨fun nm => fin N ⟨v0', ?_, c2, c3, c4⟩ (fun x hx => N2 x (Or.inl hx)), fun e1 => ?_⟩
  · have z : 1 < m := by
      rcases Nat.lt_or_ge 1 m with z | z
      · exact z
      · exact absurd (by rw [show m = 1 by omega]; rfl) nm
    rw [v1'', if_pos z, if_pos z, hsp 1 z]
  · have z : m = 1 := (nI_eq (a := m) (b := 1) (by omega) (by omega)).mp e1
    have ix : (5 * nI n) + 1 = nI (5 * n + 1) := ix5 n 1
    rw [ix, cl_nI (by omega), show Int32.toNatClampNeg 0 = 0 from rfl, s0]
    refine ⟨pk_in 0 24 (by omega), pk_in (5 * n + 1) 60 (by omega), fun N' eN => fin N' ?_ (fun x hx => by rw [eN, upd_ne (by omega)]; exact N2 x (Or.inl hx))⟩
    rw [eN, upd_at, upd_ne (by omega), upd_ne (by omega), upd_ne (by omega), upd_ne (by omega)]
    exact ⟨v0', by rw [if_neg (by omega)], c2, c3, c4⟩
