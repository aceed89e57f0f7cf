/-! the reference: THE PLAN of a length, and the cheapest costs of all lengths -/
/-- sets of begins and ends as sets of nodes -/
def NS (X Z : Nat → Bool) (k : Nat) : Bool := if k = 24 then true else if k < 12 then X k else if k < 24 then Z (k - 12) else false
theorem NS_src (X Z : Nat → Bool) : SrcY (NS X Z) := ⟨by simp [NS], by simp [NS]⟩
theorem NS_b {X Z : Nat → Bool} {t : Nat} (ht : t < 12) : NS X Z t = X t := by
  unfold NS; rw [if_neg (by omega), if_pos ht]
theorem NS_f {X Z : Nat → Bool} {t : Nat} (ht : t < 12) : NS X Z (12 + t) = Z t := by
  unfold NS; rw [if_neg (by omega), if_neg (by omega), if_pos (by omega), show 12 + t - 12 = t by omega]
theorem up_mv (b : Nat → Int) (X Z : Nat → Bool) {t : Nat} (ht : t < 12) : up1 b X t = mvb 1 b (NS X Z) t := by
  unfold up1 mvb; rw [NS_b ht]
theorem up_mvf (f : Nat → Int) (X Z : Nat → Bool) {t : Nat} (ht : t < 12) : up1 f Z t = mvf 1 f (NS X Z) t := by
  unfold up1 mvf; rw [NS_f ht]
theorem dn_mv (b : Nat → Int) (X Z : Nat → Bool) {t : Nat} (ht : t < 12) : dn1 b X t = mvb (-1) b (NS X Z) t := by
  unfold dn1 mvb; rw [NS_b ht]
  split <;> omega
theorem dn_mvf (f : Nat → Int) (X Z : Nat → Bool) {t : Nat} (ht : t < 12) : dn1 f Z t = mvf (-1) f (NS X Z) t := by
  unfold dn1 mvf; rw [NS_f ht]
  split <;> omega
theorem cost_up {n : Nat} (hn : n ≤ 12) (c : Nat → Int → Int) (b f : Nat → Int) (X Z : Nat → Bool) : Cost n c (up1 b X) (up1 f Z) = Cost n c (mvb 1 b (NS X Z)) (mvf 1 f (NS X Z)) := Cost.congr (fun t ht => up_mv b X Z (by omega)) (fun t ht => up_mvf f X Z (by omega))
theorem cost_dn {n : Nat} (hn : n ≤ 12) (c : Nat → Int → Int) (b f : Nat → Int) (X Z : Nat → Bool) : Cost n c (dn1 b X) (dn1 f Z) = Cost n c (mvb (-1) b (NS X Z)) (mvf (-1) f (NS X Z)) := Cost.congr (fun t ht => dn_mv b X Z (by omega)) (fun t ht => dn_mvf f X Z (by omega))
section MRISE
variable {n : Nat} {tKi tEa tHa tPr tEx tSt tBe : Nat → Int32} {pT : Int32} {pK pN pF : Nat → Int32}
/-- the task's costs bend upward, are not below 0 -/
theorem TB.cvx (hT : TB n (nI n) tKi tEa tHa tPr tEx tSt tBe) : ∀ t, t < n → Cvx (cT tKi tEa tPr tEx tSt t) (iT tHa t) (iT tEa t) := fun t ht => aCost_cvx ((hT.2.2.1 t ht).2.2.2.2.2.2.2.2.2.1)
theorem TB.c0 (hT : TB n (nI n) tKi tEa tHa tPr tEx tSt tBe) : ∀ t, t < n → ∀ x, iT tHa t ≤ x → x ≤ iT tEa t → 0 ≤ cT tKi tEa tPr tEx tSt t x := fun t ht x h1 h2 => (cT_bd (hT.2.2.1 t ht) h1 h2).1
theorem TB.h0 (hT : TB n (nI n) tKi tEa tHa tPr tEx tSt tBe) : ∀ t, t < n → 0 ≤ iT tHa t := fun t ht => (hT.2.2.1 t ht).2.2.1
theorem TB.he (hT : TB n (nI n) tKi tEa tHa tPr tEx tSt tBe) : ∀ t, t < n → iT tHa t ≤ iT tEa t ∧ iT tEa t ≤ 60 := fun t ht => ⟨(hT.2.2.1 t ht).2.2.2.1, (hT.2.2.1 t ht).2.2.2.2.1⟩
theorem rise_loop (hT : TB n (nI n) tKi tEa tHa tPr tEx tSt tBe) (hM : MB n tKi tEa tHa tPr tEx tSt tBe pT pK pN pF) {T : Int32} (hT0 : 0 ≤ T.toInt ∧ T.toInt ≤ 2000) {bp fp : Nat → Int} (hTP : ThePlan n (iT tEa) (iT tHa) (cT tKi tEa tPr tEx tSt) (foC n tBe) T.toInt bp fp)
    {Q : (Nat → Int32) → (Nat → Int64) → (Nat → Int64) → (Nat → Int32) → (Nat → Int32) → (Nat → Int32) → Prop} (hQ : ∀ mo r o g f q, (∀ t, t < n → bM mo t = bp t ∧ fM mo t = fp t) → Q mo r o g f q) :
    ∀ (j : Nat) (mMo : Nat → Int32) (mRm mOw : Nat → Int64) (mGo mFr mQu : Nat → Int32), Pl n (iT tEa) (iT tHa) (foC n tBe) (bM mMo) (fM mMo) → Len n T.toInt (fM mMo) → (∀ t, t < n → bM mMo t ≤ bp t ∧ fM mMo t ≤ fp t) → sT (fun t => bp t + fp t) n - sT (fun t => bM mMo t + fM mMo t) n ≤ j → wp_X9_rise_L10 T pF pK pN (nI n) Q (j + 1) mMo mRm mOw mGo mFr mQu := by
  have hn := hT.2.1
  have e1 : (1 : Int32).toInt = 1 := rfl
  intro j
  induction j with
  | zero =>
    intro mMo mRm mOw mGo mFr mQu hP hL hle hj
    rw [wp_X9_rise_L10]
    have F0 : Pl n (iT tEa) (iT tHa) (foC n tBe) (mvb (1 : Int32).toInt (bM mMo) (NS (fun _ => false) (fun _ => false))) (mvf (1 : Int32).toInt (fM mMo) (NS (fun _ => false) (fun _ => false))) ∧ Len n T.toInt (mvf (1 : Int32).toInt (fM mMo) (NS (fun _ => false) (fun _ => false))) :=
      ⟨hP.congr (fun t ht => by unfold mvb; rw [NS_b (by omega)]; simp) (fun t ht => by unfold mvf; rw [NS_f (by omega)]; simp), hL.congr (fun t ht => by unfold mvf; rw [NS_f (by omega)]; simp)⟩
    refine wp_cut (s := 1) hT hM hP (Or.inl ⟨e1, hL⟩) hT0 (NS_src _ _) F0 (fun r mo m2 o2 g2 f2 q2 R hR hin hr hmo hRP hRL hmin hfew => ?_)
    rw [e1] at hmo hRP hRL hmin hfew
    have hall : ∀ t, t < n → bM mMo t = bp t ∧ fM mMo t = fp t := by
      have z := sum_eq (b := fun t => bM mMo t + fM mMo t) (b' := fun t => bp t + fp t) (n := n) (fun t ht => by have := hle t ht; omega) (by omega)
      intro t ht
      have := z t ht
      have := hle t ht
      omega
    have key : ∀ t, t < n → R t = false ∧ R (12 + t) = false := by
      intro t ht
      have hl := up_le hT.cvx hTP hle (X := R) (Y := fun t => R (12 + t)) hRP (fun X' Z' p1 p2 p3 t ht => ?_) hRL t ht
      · have h2 := hall t ht
        unfold up1 at hl
        cases h3 : R t <;> cases h4 : R (12 + t) <;> simp [h3, h4] at hl ⊢ <;> omega
      · have k := hfew (NS X' Z') (NS_src _ _) (p1.congr (fun t ht => up_mv _ _ _ (by omega)) (fun t ht => up_mvf _ _ _ (by omega))) (p2.congr (fun t ht => up_mvf _ _ _ (by omega))) (by
          rw [← cost_up hn]
          exact p3)
        have k1 := k t (by omega)
        have k2 := k (12 + t) (by omega)
        rw [NS_b (by omega)] at k1
        rw [NS_f (by omega)] at k2
        exact ⟨k1, k2⟩
    have hr0 : r = 0 := hr.mpr (fun k hk => by
      cases h9 : R k
      · rfl
      · have h8 := hin k hk h9
        rcases Nat.lt_or_ge k 12 with z | z
        · have := (key k (by rw [Nat.mod_eq_of_lt z] at h8; exact h8)).1; rw [h9] at this; exact this
        · have := (key (k - 12) (by omega)).2; rw [show 12 + (k - 12) = k by omega, h9] at this; exact this)
    refine ⟨fun _ => hQ mo m2 o2 g2 f2 q2 (fun t ht => ?_), fun q => absurd hr0 q⟩
    have k := key t ht
    have h2 := hall t ht
    have h3 := hmo t ht
    unfold mvb mvf at h3
    rw [k.1, k.2] at h3
    simp at h3
    omega
  | succ j ih =>
    intro mMo mRm mOw mGo mFr mQu hP hL hle hj
    rw [wp_X9_rise_L10]
    have F0 : Pl n (iT tEa) (iT tHa) (foC n tBe) (mvb (1 : Int32).toInt (bM mMo) (NS (fun _ => false) (fun _ => false))) (mvf (1 : Int32).toInt (fM mMo) (NS (fun _ => false) (fun _ => false))) ∧ Len n T.toInt (mvf (1 : Int32).toInt (fM mMo) (NS (fun _ => false) (fun _ => false))) :=
      ⟨hP.congr (fun t ht => by unfold mvb; rw [NS_b (by omega)]; simp) (fun t ht => by unfold mvf; rw [NS_f (by omega)]; simp), hL.congr (fun t ht => by unfold mvf; rw [NS_f (by omega)]; simp)⟩
    refine wp_cut (s := 1) hT hM hP (Or.inl ⟨e1, hL⟩) hT0 (NS_src _ _) F0 (fun r mo m2 o2 g2 f2 q2 R hR hin hr hmo hRP hRL hmin hfew => ?_)
    rw [e1] at hmo hRP hRL hmin hfew
    have hl := up_le hT.cvx hTP hle (X := R) (Y := fun t => R (12 + t)) hRP (fun X' Z' p1 p2 p3 t ht => by
        have k := hfew (NS X' Z') (NS_src _ _) (p1.congr (fun t ht => up_mv _ _ _ (by omega)) (fun t ht => up_mvf _ _ _ (by omega))) (p2.congr (fun t ht => up_mvf _ _ _ (by omega))) (by
          rw [← cost_up hn]
          exact p3)
        have k1 := k t (by omega)
        have k2 := k (12 + t) (by omega)
        rw [NS_b (by omega)] at k1
        rw [NS_f (by omega)] at k2
        exact ⟨k1, k2⟩) hRL
    have hP' : Pl n (iT tEa) (iT tHa) (foC n tBe) (bM mo) (fM mo) := hRP.congr (fun t ht => (hmo t ht).1.symm) (fun t ht => (hmo t ht).2.symm)
    have hL' : Len n T.toInt (fM mo) := hRL.congr (fun t ht => (hmo t ht).2.symm)
    have hle' : ∀ t, t < n → bM mo t ≤ bp t ∧ fM mo t ≤ fp t := fun t ht => by
      rw [(hmo t ht).1, (hmo t ht).2]; exact hl t ht
    refine ⟨fun hz => hQ mo m2 o2 g2 f2 q2 ?_, fun hz => wp_cnow hT hM hP' (fun t ht => by have := hL' t ht; omega) (fun v hv => ih mo m2 o2 g2 f2 q2 hP' hL' hle' ?_)⟩
    · have hR0 := hr.mp hz
      have hsame : ∀ t, t < n → bM mo t = bM mMo t ∧ fM mo t = fM mMo t := fun t ht => by
        have h3 := hmo t ht
        unfold mvb mvf at h3
        rw [hR0 t (by omega), hR0 (12 + t) (by omega)] at h3
        simpa using h3
      have fin := up_end hT.cvx hP hTP hle (fun X' Z' p1 p2 => by
        have k := hmin (NS X' Z') (NS_src _ _) (p1.congr (fun t ht => up_mv _ _ _ (by omega)) (fun t ht => up_mvf _ _ _ (by omega))) (p2.congr (fun t ht => up_mvf _ _ _ (by omega)))
        rw [← cost_up hn] at k
        rw [← Cost.congr (c := cT tKi tEa tPr tEx tSt) (fun t ht => (hmo t ht).1) (fun t ht => (hmo t ht).2), Cost.congr (c := cT tKi tEa tPr tEx tSt) (fun t ht => (hsame t ht).1) (fun t ht => (hsame t ht).2)] at k
        exact k)
      exact fun t ht => by rw [(hsame t ht).1, (hsame t ht).2]; exact fin t ht
    · obtain ⟨k, hk, hRk⟩ : ∃ k, k < 24 ∧ R k = true := by
        apply Classical.byContradiction
        intro hno
        exact hz (hr.mpr (fun k hk => by
          cases h9 : R k
          · rfl
          · exact absurd ⟨k, hk, h9⟩ hno))
      have h8 := hin k hk hRk
      have hge : ∀ t, t < n → bM mMo t ≤ bM mo t ∧ fM mMo t ≤ fM mo t := fun t ht => by
        rw [(hmo t ht).1, (hmo t ht).2]
        unfold mvb mvf
        constructor <;> split <;> omega
      have hlt : sT (fun t => bM mMo t + fM mMo t) n < sT (fun t => bM mo t + fM mo t) n := by
        apply Classical.byContradiction
        intro hno
        have z := sum_eq (b := fun t => bM mMo t + fM mMo t) (b' := fun t => bM mo t + fM mo t) (n := n) (fun t ht => by have := hge t ht; omega) (by omega)
        rcases Nat.lt_or_ge k 12 with w | w
        · have hkn : k < n := by rw [Nat.mod_eq_of_lt w] at h8; exact h8
          have z1 := z k hkn
          have z2 := hmo k hkn
          have z3 := hge k hkn
          unfold mvb at z2
          rw [hRk] at z2
          simp at z2
          omega
        · have hkn : k - 12 < n := by omega
          have z1 := z (k - 12) hkn
          have z2 := hmo (k - 12) hkn
          have z3 := hge (k - 12) hkn
          unfold mvf at z2
          rw [show 12 + (k - 12) = k by omega, hRk] at z2
          simp at z2
          omega
      omega
/-- the length of the shortest plan -/
def Sh (n : Nat) (fo : Nat → Nat → Prop) (h : Nat → Int) (L : Int) : Prop := ∃ B, Early n fo h B ∧ LenOf n h B L
theorem Sh.one (hT : TB n (nI n) tKi tEa tHa tPr tEx tSt tBe) {h : Nat → Int} {L L' : Int} (H : Sh n (foC n tBe) h L) (H' : Sh n (foC n tBe) h L') : L = L' := by
  obtain ⟨B, h1, h2⟩ := H
  obtain ⟨B', h1', h2'⟩ := H'
  obtain ⟨rk, hr⟩ := hT.2.2.2.2
  exact LenOf.one (fun _ _ => rfl) (Early.one foC_lt hr (fun _ _ => rfl) h1 h1') h2 h2'
/-- early moments with spans are a plan -/
theorem early_pl {e h : Nat → Int} {fo : Nat → Nat → Prop} {sp B : Nat → Int} (hs : ∀ t, t < n → h t ≤ sp t ∧ sp t ≤ e t) (H : Early n fo sp B) : Pl n e h fo B (fun t => B t + sp t) := fun t ht => ⟨(H t ht).1, by have := hs t ht; dsimp only; omega, by have := hs t ht; dsimp only; omega, fun o _ q => (H t ht).2.1 o q⟩
theorem wp_mrise (hT : TB n (nI n) tKi tEa tHa tPr tEx tSt tBe) (hM : MB n tKi tEa tHa tPr tEx tSt tBe pT pK pN pF) {T : Int32} (hT0 : T.toInt ≤ 2000) {sh : Int} (hsh : Sh n (foC n tBe) (iT tHa) sh) (hle : sh ≤ T.toInt) {mRw mSn mBg mMo : Nat → Int32} {mRm mOw : Nat → Int64} {mGo mFr mQu : Nat → Int32}
    {Q : (Nat → Int32) → (Nat → Int32) → (Nat → Int32) → (Nat → Int32) → (Nat → Int64) → (Nat → Int64) → (Nat → Int32) → (Nat → Int32) → (Nat → Int32) → Prop} (hQ : ∀ w s b mo r o g f q, ThePlan n (iT tEa) (iT tHa) (cT tKi tEa tPr tEx tSt) (foC n tBe) T.toInt (bM mo) (fM mo) → Q w s b mo r o g f q) : wp_X9_rise (nI n) pK pN pF mRw mSn mBg mMo mRm mOw mGo mFr mQu T Q := by
  have hn := hT.2.1
  obtain ⟨rk, hr⟩ := hT.2.2.2.2
  have one0 : ¬ (1 : Int32) = 0 := by decide
  refine wp_mlong hT hM (fun r w sn g h1 h2 h3 h4 h5 => wp_take hn (fun mo hmo => ?_))
  have hsn : ∀ t, t < n → iT sn t = iT tHa t := fun t ht => by unfold iT; rw [h1 t ht, if_neg one0]
  obtain ⟨B0, b1, b2⟩ := hsh
  have eB := Early.one foC_lt hr hsn h2 b1
  have hL0 := LenOf.one hsn eB h3 b2
  have hb : ∀ t, t < n → bM mo t = iT g t ∧ fM mo t = iT g t + iT sn t := fun t ht => by
    have a := (h2 t ht).1
    have b := h4 t ht
    have c := hT.h0 t ht
    have d := hsn t ht
    unfold bM fM
    rw [(hmo t ht).1, (hmo t ht).2]
    unfold iT at *
    exact ⟨rfl, i_add (by omega) (by omega)⟩
  have pl0 := early_pl (e := iT tEa) (h := iT tHa) (fun t ht => by rw [hsn t ht]; exact ⟨Int.le_refl _, (hT.he t ht).1⟩) h2
  have pl : Pl n (iT tEa) (iT tHa) (foC n tBe) (bM mo) (fM mo) := pl0.congr (fun t ht => (hb t ht).1.symm) (fun t ht => (hb t ht).2.symm)
  have ln : Len n T.toInt (fM mo) := fun t ht => by
    rw [(hb t ht).2]
    have := h3.2.1 t ht
    omega
  have hsh0 : 0 ≤ sh := b2.1
  obtain ⟨bo, fo', ho⟩ := opt_ex hT.c0 pl ln
  obtain ⟨bp, fp, hp⟩ := plan_ex hT.h0 hT.cvx ho
  have lo : ∀ t, t < n → bM mo t ≤ bp t ∧ fM mo t ≤ fp t := fun t ht => by
    have a := Early.least foC_lt hr h2 (b := bp) (f := fp) (fun t ht => by
      have p := hp.1.1 t ht
      rw [hsn t ht]
      exact ⟨p.1, by omega, fun o q => p.2.2.2 o q.2.1 q⟩) t ht
    have p := hp.1.1 t ht
    have d := hsn t ht
    rw [(hb t ht).1, (hb t ht).2]
    omega
  refine ⟨(sT (fun t => bp t + fp t) n - sT (fun t => bM mo t + fM mo t) n).toNat + 1, rise_loop hT hM ⟨by omega, hT0⟩ hp (fun mo2 r o g f q hq => hQ w sn _ mo2 r o g f q ?_) _ mo mRm mOw mGo mFr mQu pl ln lo (by omega)⟩
  refine ⟨⟨hp.1.1.congr (fun t ht => (hq t ht).1.symm) (fun t ht => (hq t ht).2.symm), hp.1.2.1.congr (fun t ht => (hq t ht).2.symm), fun b' f' g1 g2 => ?_⟩, fun b' f' g1 t ht => ?_⟩
  · rw [Cost.congr (c := cT tKi tEa tPr tEx tSt) (fun t ht => (hq t ht).1) (fun t ht => (hq t ht).2)]
    exact hp.1.2.2 b' f' g1 g2
  · rw [(hq t ht).1, (hq t ht).2]
    exact hp.2 b' f' g1 t ht
end MRISE
