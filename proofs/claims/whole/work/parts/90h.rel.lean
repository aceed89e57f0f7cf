/-! class and reference alike: the relation -/
theorem early_ex {n : Nat} {fo : Nat → Nat → Prop} (hb : ∀ t o, fo t o → t < n ∧ o < n) (hac : Acy fo) (sp : Nat → Int) : ∃ B, Early n fo sp B := by
  obtain ⟨rk, hr⟩ := hac
  have bd : ∀ m : Nat, ∃ M, ∀ t, t < m → rk t < M := by
    intro m
    induction m with
    | zero => exact ⟨0, fun t h => absurd h (by omega)⟩
    | succ m ih =>
      obtain ⟨M, hM⟩ := ih
      refine ⟨max M (rk m + 1), fun t ht => ?_⟩
      rcases Nat.lt_or_ge t m with z | z
      · have := hM t z; omega
      · rw [show t = m by omega]; omega
  have st : ∀ m : Nat, ∃ B : Nat → Int, ∀ t, t < n → rk t < m → 0 ≤ B t ∧ (∀ o, fo t o → B o + sp o ≤ B t) ∧ (B t = 0 ∨ ∃ o, fo t o ∧ B t = B o + sp o) := by
    intro m
    induction m with
    | zero => exact ⟨fun _ => 0, fun t _ h => absurd h (by omega)⟩
    | succ m ih =>
      obtain ⟨B, hB⟩ := ih
      have ch : ∀ t, ∃ L, MaxEnd n (fun o => @ite _ (fo t o) (Classical.propDecidable _) (B o + sp o) 0) L := fun t => max_ex _ n
      refine ⟨fun t => if rk t < m then B t else Classical.choose (ch t), fun t ht hm => ?_⟩
      dsimp only
      by_cases q : rk t < m
      · rw [if_pos q]
        obtain ⟨a1, a2, a3⟩ := hB t ht q
        refine ⟨a1, fun o ho => ?_, ?_⟩
        · have := hr t o ho
          rw [if_pos (show rk o < m by omega)]; exact a2 o ho
        · rcases a3 with z | ⟨o, z1, z2⟩
          · exact Or.inl z
          · have := hr t o z1
            exact Or.inr ⟨o, z1, by rw [if_pos (show rk o < m by omega)]; exact z2⟩
      · rw [if_neg q]
        obtain ⟨a1, a2, a3⟩ := Classical.choose_spec (ch t)
        refine ⟨a1, fun o ho => ?_, ?_⟩
        · have z := hr t o ho
          rw [if_pos (show rk o < m by omega)]
          have k := a2 o (hb t o ho).2
          dsimp only at k
          rw [if_pos ho] at k; exact k
        · rcases a3 with z | ⟨o, z1, z2⟩
          · exact Or.inl z
          · dsimp only at z2
            by_cases w : fo t o
            · have y := hr t o w
              rw [if_pos w] at z2
              exact Or.inr ⟨o, w, by rw [if_pos (show rk o < m by omega)]; exact z2⟩
            · rw [if_neg w] at z2; exact Or.inl z2
  obtain ⟨M, hM⟩ := bd n
  obtain ⟨B, hB⟩ := st M
  exact ⟨B, fun t ht => hB t ht (hM t ht)⟩
theorem sh_ex {n : Nat} {tC : Int32} {tKi tEa tHa tPr tEx tSt tBe : Nat → Int32} (hT : TB n tC tKi tEa tHa tPr tEx tSt tBe) : ∃ sh, Sh n (foC n tBe) (iT tHa) sh := by
  obtain ⟨B, hE⟩ := early_ex foC_lt hT.2.2.2.2 (iT tHa)
  obtain ⟨L, l1, l2, l3⟩ := max_ex (fun t => B t + iT tHa t) n
  exact ⟨L, B, hE, l1, l2, l3⟩
/-- early moments are never late -/
theorem early_bd {n : Nat} {fo : Nat → Nat → Prop} (hb : ∀ t o, fo t o → t < n ∧ o < n) (hac : Acy fo) {sp B : Nat → Int} (hs : ∀ t, t < n → 0 ≤ sp t ∧ sp t ≤ 60) (H : Early n fo sp B) : ∀ t, t < n → B t + sp t ≤ 60 * n := by
  obtain ⟨rk, hr⟩ := hac
  have key : ∀ m t, rk t ≤ m → t < n → B t ≤ 60 * (ctB (fun o => decide (rk o < rk t)) n : Nat) := by
    intro m
    induction m with
    | zero =>
      intro t hm ht
      rcases (H t ht).2.2 with z | ⟨o, z1, z2⟩
      · omega
      · have := hr t o z1; omega
    | succ m ih =>
      intro t hm ht
      rcases (H t ht).2.2 with z | ⟨o, z1, z2⟩
      · omega
      · have r := hr t o z1
        have ho := (hb t o z1).2
        have i := ih o (by omega) ho
        have c := ctB_lt (p := fun u => decide (rk u < rk o)) (q := fun u => decide (rk u < rk t)) (n := n) (fun u _ hu => by have := of_decide_eq_true hu; exact decide_eq_true (by omega)) (v := o) ho (decide_eq_false (by omega)) (decide_eq_true r)
        have := hs o ho
        omega
  intro t ht
  have k := key (rk t) t (Nat.le_refl _) ht
  have c := ctB_lt (p := fun u => decide (rk u < rk t)) (q := fun _ => true) (n := n) (fun _ _ _ => rfl) (v := t) ht (decide_eq_false (by omega)) rfl
  have c2 := ctB_le (fun _ => true) n
  have := hs t ht
  omega
/-- no plan, however long, is cheaper than the cheapest of length 720 -/
theorem free_cost {n : Nat} {tC : Int32} {tKi tEa tHa tPr tEx tSt tBe : Nat → Int32} (hT : TB n tC tKi tEa tHa tPr tEx tSt tBe) {b f : Nat → Int} (P : Pl n (iT tEa) (iT tHa) (foC n tBe) b f) {v : Int} (H : CAt n (iT tEa) (iT tHa) (cT tKi tEa tPr tEx tSt) (foC n tBe) 720 v) : v ≤ Cost n (cT tKi tEa tPr tEx tSt) b f := by
  obtain ⟨B, hE⟩ := early_ex foC_lt hT.2.2.2.2 (fun t => f t - b t)
  have hs : ∀ t, t < n → 0 ≤ f t - b t ∧ f t - b t ≤ 60 := fun t ht => by
    obtain ⟨_, _, a3, a4, a5, _⟩ := hT.2.2.1 t ht
    obtain ⟨p1, p2, p3, _⟩ := P t ht
    unfold iT at p2 p3
    omega
  have bd := early_bd foC_lt hT.2.2.2.2 (sp := fun t => f t - b t) hs hE
  have pl := early_pl (e := iT tEa) (h := iT tHa) (sp := fun t => f t - b t) (fun t ht => ⟨(P t ht).2.1, (P t ht).2.2.1⟩) hE
  obtain ⟨b', f', O, e⟩ := H
  rw [← e]
  have k := O.2.2 _ _ pl (fun t ht => by have := hT.2.1; show B t + (f t - b t) ≤ 720; have q : B t + (f t - b t) ≤ 60 * n := bd t ht; omega)
  rw [show Cost n (cT tKi tEa tPr tEx tSt) B (fun t => B t + (f t - b t)) = Cost n (cT tKi tEa tPr tEx tSt) b f from sT_congr (fun t _ => by dsimp only; rw [show B t + (f t - b t) - B t = f t - b t by omega])] at k
  exact k
/-- a book: the class's tasks and the reference's are the same -/
def BK (n : Nat) (tC : Int32) (tKi tEa tHa tPr tEx tSt tTo tBe : Nat → Int32) (pT : Int32) (pK pN pF pS : Nat → Int32) : Prop := TB n tC tKi tEa tHa tPr tEx tSt tBe ∧ MB n tKi tEa tHa tPr tEx tSt tBe pT pK pN pF ∧ ∀ t, t < n → pS t = tTo t ∧ (tHa t).toInt ≤ (tTo t).toInt ∧ (tTo t).toInt ≤ (tEa t).toInt
theorem foC_congr {n : Nat} {b b' : Nat → Int32} (h : ∀ t, t < n → b t = b' t) : foC n b = foC n b' := by
  funext t o
  unfold foC
  apply propext
  constructor
  · rintro ⟨a1, a2, a3⟩; exact ⟨a1, a2, by rw [← h t a1]; exact a3⟩
  · rintro ⟨a1, a2, a3⟩; exact ⟨a1, a2, by rw [h t a1]; exact a3⟩
theorem BK.congr {n : Nat} {tC : Int32} {tKi tEa tHa tPr tEx tSt tTo tBe tKi' tEa' tHa' tPr' tEx' tSt' tTo' tBe' : Nat → Int32} {pT pT' : Int32} {pK pN pF pS pK' pN' pF' pS' : Nat → Int32} (H : BK n tC tKi tEa tHa tPr tEx tSt tTo tBe pT pK pN pF pS) (h : ∀ t, t < n → tKi t = tKi' t ∧ tEa t = tEa' t ∧ tHa t = tHa' t ∧ tPr t = tPr' t ∧ tEx t = tEx' t ∧ tSt t = tSt' t ∧ tTo t = tTo' t ∧ tBe t = tBe' t) (g0 : pT = pT') (g1 : ∀ k, k < 12 → pK k = pK' k) (g2 : ∀ k, k < 60 → pN k = pN' k) (g3 : ∀ k, k < 144 → pF k = pF' k) (g4 : ∀ k, k < 12 → pS k = pS' k) : BK n tC tKi' tEa' tHa' tPr' tEx' tSt' tTo' tBe' pT' pK' pN' pF' pS' := by
  obtain ⟨⟨a1, a2, a3, a4, a5⟩, ⟨b1, b2, b3, b4⟩, c⟩ := H
  have fo := foC_congr (n := n) (b := tBe) (b' := tBe') (fun t ht => (h t ht).2.2.2.2.2.2.2)
  refine ⟨⟨a1, a2, fun t ht => ?_, fun t ht o ho => a4 t ht o (by rw [(h t ht).2.2.2.2.2.2.2]; exact ho), by rw [← fo]; exact a5⟩, ⟨by rw [← g0]; exact b1, fun t ht => ?_, fun t o ht ho => ?_, fun k hk => by rw [← g3 k hk]; exact b4 k hk⟩, fun t ht => ?_⟩
  · obtain ⟨k1, k2, k3, k4, k5, k6, k7, k8⟩ := h t ht
    rw [← k1, ← k2, ← k3, ← k4, ← k5, ← k6]; exact a3 t ht
  · obtain ⟨k1, k2, k3, k4, k5, k6, k7, k8⟩ := h t ht
    rw [← k1, ← k2, ← k3, ← k4, ← k5, ← k6, ← g1 t (by omega), ← g2 (5 * t) (by omega), ← g2 (5 * t + 1) (by omega), ← g2 (5 * t + 2) (by omega), ← g2 (5 * t + 3) (by omega), ← g2 (5 * t + 4) (by omega)]; exact b2 t ht
  · obtain ⟨k1, k2, k3, k4, k5, k6, k7, k8⟩ := h t ht
    rw [← k8, ← g3 (12 * t + o) (by omega)]; exact b3 t o ht ho
  · obtain ⟨k1, k2, k3, k4, k5, k6, k7, k8⟩ := h t ht
    rw [← k2, ← k3, ← k7, ← g4 t (by omega)]; exact c t ht
/-- the log of undos: going back act by act gives the remembered books -/
def UL (tKi tEa tHa tPr tEx tSt aWh aTa aWa mUS : Nat → Int32) (ub : Nat → Nat) (uT : Nat → Int32) (uK uN uF uS : Nat → Nat → Int32) : Nat → Nat → (Nat → Int32) → (Nat → Int32) → Prop
  | 0, _, _, _ => True
  | j + 1, n, tTo, tBe => ∃ (n' : Nat) (tTo' tBe' : Nat → Int32), ((aWh j = 0 ∧ mUS j = 0 ∧ n = n' + 1 ∧ aTa j = nI n' ∧ tTo' = tTo ∧ tBe' = tBe) ∨ (aWh j = 1 ∧ mUS j = 0 ∧ n' = n ∧ tTo' = tTo ∧ ∃ t, t < n ∧ aTa j = nI t ∧ tBe' = upd tBe t (aWa j)) ∨ (aWh j = 2 ∧ mUS j = 1 ∧ n' = n ∧ tBe' = tBe ∧ ∃ t, t < n ∧ aTa j = nI t ∧ tTo' = upd tTo t (aWa j))) ∧ BK n' (nI n') tKi tEa tHa tPr tEx tSt tTo' tBe' (uT (ub j)) (uK (ub j)) (uN (ub j)) (uF (ub j)) (uS (ub j)) ∧ UL tKi tEa tHa tPr tEx tSt aWh aTa aWa mUS ub uT uK uN uF uS j n' tTo' tBe'
/-- the same log elsewhere, its first d acts forgotten -/
theorem UL.sub {tKi tEa tHa tPr tEx tSt aWh aTa aWa mUS : Nat → Int32} {ub : Nat → Nat} {uT : Nat → Int32} {uK uN uF uS : Nat → Nat → Int32} {tKi' tEa' tHa' tPr' tEx' tSt' aWh' aTa' aWa' mUS' : Nat → Int32} {ub' : Nat → Nat} {uT' : Nat → Int32} {uK' uN' uF' uS' : Nat → Nat → Int32} {d : Nat} : ∀ (j n : Nat) (tTo tBe tTo' tBe' : Nat → Int32), (∀ i, i < j → aWh' i = aWh (i + d) ∧ aTa' i = aTa (i + d) ∧ aWa' i = aWa (i + d) ∧ mUS' i = mUS (i + d) ∧ uT' (ub' i) = uT (ub (i + d)) ∧ uK' (ub' i) = uK (ub (i + d)) ∧ uN' (ub' i) = uN (ub (i + d)) ∧ uF' (ub' i) = uF (ub (i + d)) ∧ uS' (ub' i) = uS (ub (i + d))) → (∀ t, t < n → tKi t = tKi' t ∧ tEa t = tEa' t ∧ tHa t = tHa' t ∧ tPr t = tPr' t ∧ tEx t = tEx' t ∧ tSt t = tSt' t ∧ tTo t = tTo' t ∧ tBe t = tBe' t) → UL tKi tEa tHa tPr tEx tSt aWh aTa aWa mUS ub uT uK uN uF uS (j + d) n tTo tBe → UL tKi' tEa' tHa' tPr' tEx' tSt' aWh' aTa' aWa' mUS' ub' uT' uK' uN' uF' uS' j n tTo' tBe' := by
  intro j
  induction j with
  | zero => intros; trivial
  | succ j ih =>
    intro n tTo tBe tTo' tBe' hl ht H
    rw [show j + 1 + d = (j + d) + 1 by omega] at H
    obtain ⟨n1, to1, be1, hc, hb, hu⟩ := H
    obtain ⟨e1, e2, e3, e4, e5, e6, e7, e8, e9⟩ := hl j (by omega)
    have hl' : ∀ i, i < j → aWh' i = aWh (i + d) ∧ aTa' i = aTa (i + d) ∧ aWa' i = aWa (i + d) ∧ mUS' i = mUS (i + d) ∧ uT' (ub' i) = uT (ub (i + d)) ∧ uK' (ub' i) = uK (ub (i + d)) ∧ uN' (ub' i) = uN (ub (i + d)) ∧ uF' (ub' i) = uF (ub (i + d)) ∧ uS' (ub' i) = uS (ub (i + d)) := fun i hi => hl i (by omega)
    have fin : ∀ to2 be2 : Nat → Int32, (∀ t, t < n1 → tKi t = tKi' t ∧ tEa t = tEa' t ∧ tHa t = tHa' t ∧ tPr t = tPr' t ∧ tEx t = tEx' t ∧ tSt t = tSt' t ∧ to1 t = to2 t ∧ be1 t = be2 t) → BK n1 (nI n1) tKi' tEa' tHa' tPr' tEx' tSt' to2 be2 (uT' (ub' j)) (uK' (ub' j)) (uN' (ub' j)) (uF' (ub' j)) (uS' (ub' j)) ∧ UL tKi' tEa' tHa' tPr' tEx' tSt' aWh' aTa' aWa' mUS' ub' uT' uK' uN' uF' uS' j n1 to2 be2 := fun to2 be2 h2 => ⟨by rw [e5, e6, e7, e8, e9]; exact hb.congr h2 rfl (fun _ _ => rfl) (fun _ _ => rfl) (fun _ _ => rfl) (fun _ _ => rfl), ih n1 to1 be1 to2 be2 hl' h2 hu⟩
    rcases hc with ⟨c1, c2, c3, c4, c5, c6⟩ | ⟨c1, c2, c3, c4, t, c5, c6, c7⟩ | ⟨c1, c2, c3, c4, t, c5, c6, c7⟩
    · refine ⟨n1, tTo', tBe', Or.inl ⟨by rw [e1]; exact c1, by rw [e4]; exact c2, c3, by rw [e2]; exact c4, rfl, rfl⟩, fin _ _ (fun t h => ?_)⟩
      rw [c5, c6]; exact ht t (by omega)
    · subst c3
      refine ⟨n1, tTo', upd tBe' t (aWa' j), Or.inr (Or.inl ⟨by rw [e1]; exact c1, by rw [e4]; exact c2, rfl, rfl, t, c5, by rw [e2]; exact c6, rfl⟩), fin _ _ (fun u h => ?_)⟩
      obtain ⟨k1, k2, k3, k4, k5, k6, k7, k8⟩ := ht u h
      refine ⟨k1, k2, k3, k4, k5, k6, by rw [c4]; exact k7, ?_⟩
      rw [c7, e3]
      by_cases z : u = t
      · rw [z, upd_at, upd_at]
      · rw [upd_ne z, upd_ne z]; exact k8
    · subst c3
      refine ⟨n1, upd tTo' t (aWa' j), tBe', Or.inr (Or.inr ⟨by rw [e1]; exact c1, by rw [e4]; exact c2, rfl, rfl, t, c5, by rw [e2]; exact c6, rfl⟩), fin _ _ (fun u h => ?_)⟩
      obtain ⟨k1, k2, k3, k4, k5, k6, k7, k8⟩ := ht u h
      refine ⟨k1, k2, k3, k4, k5, k6, ?_, by rw [c4]; exact k8⟩
      rw [c7, e3]
      by_cases z : u = t
      · rw [z, upd_at, upd_at]
      · rw [upd_ne z, upd_ne z]; exact k7
/-- the boards -/
def RelB (dB dS : Nat → Int32) (dN : Nat → Nat → Int64) (mWi mSi : Nat → Int32) (mRo : Nat → Int64) : Prop := ∀ k, k < 4 → dB k = mWi k ∧ dS k = mSi k ∧ (dB k = 0 ∨ dB k = 32 ∨ dB k = 64) ∧ 0 ≤ (dS k).toInt ∧ (dS k).toInt ≤ 24 ∧ ∀ i, i < 24 → dN k i = mRo (24 * k + i)
/-- the plan asked for -/
def PLN (n : Nat) (tKi tEa tHa tPr tEx tSt tBe : Nat → Int32) (sh : Int) (bHP bPF mIP : Int32) (mPB mPS : Nat → Int32) : Prop := bHP = mIP ∧ (bHP = 0 ∨ bHP = 1) ∧ (¬ bHP = 0 → sh ≤ bPF.toInt ∧ bPF.toInt ≤ 1000 ∧ ThePlan n (iT tEa) (iT tHa) (cT tKi tEa tPr tEx tSt) (foC n tBe) bPF.toInt (iT mPB) (fun t => iT mPB t + iT mPS t))
/-- all of the tasks -/
def TK (n a : Nat) (sh : Int) (bHP : Int32) (bPF : Int32) (tC : Int32) (tKi : Nat → Int32) (tEa : Nat → Int32) (tHa : Nat → Int32) (tPr : Nat → Int32) (tEx : Nat → Int32) (tSt : Nat → Int32) (tTo : Nat → Int32) (tBe : Nat → Int32) (aC : Int32) (aWh : Nat → Int32) (aTa : Nat → Int32) (aWa : Nat → Int32) (cC : Int32) (eM : Nat) (eL : Nat → Int32) (eC : Nat → Int64) (eS : Nat → Int64) (eB : Nat → Nat → Int32) (eE : Nat → Nat → Int32) (eF : Nat → Nat → Int32) (eG : Nat → Nat → Int32) (pT : Int32) (pK : Nat → Int32) (pN : Nat → Int32) (pF : Nat → Int32) (pS : Nat → Int32) (mUn : Int32) (mAK : Int32) (mSh : Int32) (mIP : Int32) (mUS : Nat → Int32) (mCh : Nat → Int64) (mPB : Nat → Int32) (mPS : Nat → Int32) (ub : Nat → Nat) (uT : Nat → Int32) (uK : Nat → Nat → Int32) (uN : Nat → Nat → Int32) (uF : Nat → Nat → Int32) (uS : Nat → Nat → Int32) : Prop :=
  BK n tC tKi tEa tHa tPr tEx tSt tTo tBe pT pK pN pF pS ∧ Sh n (foC n tBe) (iT tHa) sh ∧ (¬ cC = 0 → CurveOK n tKi tEa tHa tPr tEx tSt tBe sh cC eM eL eC eS eB eE eF eG) ∧ (¬ mAK = 0 → Known n (iT tEa) (iT tHa) (cT tKi tEa tPr tEx tSt) (foC n tBe) mSh mCh) ∧ PLN n tKi tEa tHa tPr tEx tSt tBe sh bHP bPF mIP mPB mPS ∧ a ≤ 30 ∧ aC = nI a ∧ mUn = nI a ∧ UL tKi tEa tHa tPr tEx tSt aWh aTa aWa mUS ub uT uK uN uF uS a n tTo tBe
section TKP
variable {n a : Nat} {sh : Int} {bHP : Int32} {bPF : Int32} {tC : Int32} {tKi : Nat → Int32} {tEa : Nat → Int32} {tHa : Nat → Int32} {tPr : Nat → Int32} {tEx : Nat → Int32} {tSt : Nat → Int32} {tTo : Nat → Int32} {tBe : Nat → Int32} {aC : Int32} {aWh : Nat → Int32} {aTa : Nat → Int32} {aWa : Nat → Int32} {cC : Int32} {eM : Nat} {eL : Nat → Int32} {eC : Nat → Int64} {eS : Nat → Int64} {eB : Nat → Nat → Int32} {eE : Nat → Nat → Int32} {eF : Nat → Nat → Int32} {eG : Nat → Nat → Int32} {pT : Int32} {pK : Nat → Int32} {pN : Nat → Int32} {pF : Nat → Int32} {pS : Nat → Int32} {mUn : Int32} {mAK : Int32} {mSh : Int32} {mIP : Int32} {mUS : Nat → Int32} {mCh : Nat → Int64} {mPB : Nat → Int32} {mPS : Nat → Int32} {ub : Nat → Nat} {uT : Nat → Int32} {uK : Nat → Nat → Int32} {uN : Nat → Nat → Int32} {uF : Nat → Nat → Int32} {uS : Nat → Nat → Int32}
theorem TK.bk (H : TK n a sh bHP bPF tC tKi tEa tHa tPr tEx tSt tTo tBe aC aWh aTa aWa cC eM eL eC eS eB eE eF eG pT pK pN pF pS mUn mAK mSh mIP mUS mCh mPB mPS ub uT uK uN uF uS) : BK n tC tKi tEa tHa tPr tEx tSt tTo tBe pT pK pN pF pS := H.1
theorem TK.hsh (H : TK n a sh bHP bPF tC tKi tEa tHa tPr tEx tSt tTo tBe aC aWh aTa aWa cC eM eL eC eS eB eE eF eG pT pK pN pF pS mUn mAK mSh mIP mUS mCh mPB mPS ub uT uK uN uF uS) : Sh n (foC n tBe) (iT tHa) sh := H.2.1
theorem TK.hC (H : TK n a sh bHP bPF tC tKi tEa tHa tPr tEx tSt tTo tBe aC aWh aTa aWa cC eM eL eC eS eB eE eF eG pT pK pN pF pS mUn mAK mSh mIP mUS mCh mPB mPS ub uT uK uN uF uS) : ¬ cC = 0 → CurveOK n tKi tEa tHa tPr tEx tSt tBe sh cC eM eL eC eS eB eE eF eG := H.2.2.1
theorem TK.hK (H : TK n a sh bHP bPF tC tKi tEa tHa tPr tEx tSt tTo tBe aC aWh aTa aWa cC eM eL eC eS eB eE eF eG pT pK pN pF pS mUn mAK mSh mIP mUS mCh mPB mPS ub uT uK uN uF uS) : ¬ mAK = 0 → Known n (iT tEa) (iT tHa) (cT tKi tEa tPr tEx tSt) (foC n tBe) mSh mCh := H.2.2.2.1
theorem TK.pl (H : TK n a sh bHP bPF tC tKi tEa tHa tPr tEx tSt tTo tBe aC aWh aTa aWa cC eM eL eC eS eB eE eF eG pT pK pN pF pS mUn mAK mSh mIP mUS mCh mPB mPS ub uT uK uN uF uS) : PLN n tKi tEa tHa tPr tEx tSt tBe sh bHP bPF mIP mPB mPS := H.2.2.2.2.1
theorem TK.ha (H : TK n a sh bHP bPF tC tKi tEa tHa tPr tEx tSt tTo tBe aC aWh aTa aWa cC eM eL eC eS eB eE eF eG pT pK pN pF pS mUn mAK mSh mIP mUS mCh mPB mPS ub uT uK uN uF uS) : a ≤ 30 := H.2.2.2.2.2.1
theorem TK.hac (H : TK n a sh bHP bPF tC tKi tEa tHa tPr tEx tSt tTo tBe aC aWh aTa aWa cC eM eL eC eS eB eE eF eG pT pK pN pF pS mUn mAK mSh mIP mUS mCh mPB mPS ub uT uK uN uF uS) : aC = nI a := H.2.2.2.2.2.2.1
theorem TK.hmu (H : TK n a sh bHP bPF tC tKi tEa tHa tPr tEx tSt tTo tBe aC aWh aTa aWa cC eM eL eC eS eB eE eF eG pT pK pN pF pS mUn mAK mSh mIP mUS mCh mPB mPS ub uT uK uN uF uS) : mUn = nI a := H.2.2.2.2.2.2.2.1
theorem TK.ul (H : TK n a sh bHP bPF tC tKi tEa tHa tPr tEx tSt tTo tBe aC aWh aTa aWa cC eM eL eC eS eB eE eF eG pT pK pN pF pS mUn mAK mSh mIP mUS mCh mPB mPS ub uT uK uN uF uS) : UL tKi tEa tHa tPr tEx tSt aWh aTa aWa mUS ub uT uK uN uF uS a n tTo tBe := H.2.2.2.2.2.2.2.2
end TKP
/-- class and reference alike -/
def RelS (bHK : Int32) (bHP : Int32) (bPF : Int32) (bWC : Int32) (bRi : Int32) (bBe : Int32) (bFi : Int32) (bWa : Nat → Int32) (dB : Nat → Int32) (dS : Nat → Int32) (dN : Nat → Nat → Int64) (tC : Int32) (tKi : Nat → Int32) (tEa : Nat → Int32) (tHa : Nat → Int32) (tPr : Nat → Int32) (tEx : Nat → Int32) (tSt : Nat → Int32) (tTo : Nat → Int32) (tBe : Nat → Int32) (kC : Int32) (kKi : Nat → Int32) (kEa : Nat → Int32) (kHa : Nat → Int32) (kPr : Nat → Int32) (kEx : Nat → Int32) (kSt : Nat → Int32) (kTo : Nat → Int32) (kBe : Nat → Int32) (aC : Int32) (aWh : Nat → Int32) (aTa : Nat → Int32) (aWa : Nat → Int32) (iRo : Nat → Int32) (iEa : Nat → Int32) (iLa : Nat → Int32) (cC : Int32) (nC : Int32) (nFo : Int32) (nQd : Int32) (nRo : Nat → Int32) (nBe : Nat → Int32) (nEa : Nat → Int32) (nMi : Nat → Int32) (nHa : Nat → Int32) (nER : Nat → Int32) (nMR : Nat → Int32) (nTh : Nat → Int32) (nPa : Nat → Int32) (nOu : Nat → Int32) (nFr : Nat → Int32) (nQu : Nat → Int32) (eM : Nat) (eL : Nat → Int32) (eC : Nat → Int64) (eS : Nat → Int64) (eB : Nat → Nat → Int32) (eE : Nat → Nat → Int32) (eF : Nat → Nat → Int32) (eG : Nat → Nat → Int32) (pT : Int32) (pK : Nat → Int32) (pN : Nat → Int32) (pF : Nat → Int32) (pS : Nat → Int32) (qT : Int32) (qK : Nat → Int32) (qN : Nat → Int32) (qF : Nat → Int32) (qS : Nat → Int32) (mKe : Int32) (mUn : Int32) (mFi : Int32) (mRi : Int32) (mBe : Int64) (mWc : Int32) (mAK : Int32) (mSh : Int32) (mIP : Int32) (mUS : Nat → Int32) (mWa : Nat → Int32) (mWi : Nat → Int32) (mSi : Nat → Int32) (mRo : Nat → Int64) (mSp : Nat → Int64) (mRw : Nat → Int32) (mSn : Nat → Int32) (mBg : Nat → Int32) (mLa : Nat → Int32) (mMo : Nat → Int32) (mRm : Nat → Int64) (mOw : Nat → Int64) (mGo : Nat → Int32) (mFr : Nat → Int32) (mQu : Nat → Int32) (mCh : Nat → Int64) (mPB : Nat → Int32) (mPS : Nat → Int32) (mFs : Nat → Int32) (ub : Nat → Nat) (uT : Nat → Int32) (uK : Nat → Nat → Int32) (uN : Nat → Nat → Int32) (uF : Nat → Nat → Int32) (uS : Nat → Nat → Int32) : Prop :=
  bFi = mFi ∧ bRi = mRi ∧ bBe = Int64.toInt32 mBe ∧ RelW bWC bWa mWc mWa ∧ RelB dB dS dN mWi mSi mRo ∧ (∃ n a sh, TK n a sh bHP bPF tC tKi tEa tHa tPr tEx tSt tTo tBe aC aWh aTa aWa cC eM eL eC eS eB eE eF eG pT pK pN pF pS mUn mAK mSh mIP mUS mCh mPB mPS ub uT uK uN uF uS) ∧ (bHK = mKe ∧ (¬ bHK = 0 → ∃ n, BK n kC kKi kEa kHa kPr kEx kSt kTo kBe qT qK qN qF qS)) ∧ ((∀ i, i < 30 → ub i < 30) ∧ ∀ i j, i < 30 → j < 30 → ub i = ub j → i = j) ∧ eM ≤ 721
section RELP
variable {bHK : Int32} {bHP : Int32} {bPF : Int32} {bWC : Int32} {bRi : Int32} {bBe : Int32} {bFi : Int32} {bWa : Nat → Int32} {dB : Nat → Int32} {dS : Nat → Int32} {dN : Nat → Nat → Int64} {tC : Int32} {tKi : Nat → Int32} {tEa : Nat → Int32} {tHa : Nat → Int32} {tPr : Nat → Int32} {tEx : Nat → Int32} {tSt : Nat → Int32} {tTo : Nat → Int32} {tBe : Nat → Int32} {kC : Int32} {kKi : Nat → Int32} {kEa : Nat → Int32} {kHa : Nat → Int32} {kPr : Nat → Int32} {kEx : Nat → Int32} {kSt : Nat → Int32} {kTo : Nat → Int32} {kBe : Nat → Int32} {aC : Int32} {aWh : Nat → Int32} {aTa : Nat → Int32} {aWa : Nat → Int32} {iRo : Nat → Int32} {iEa : Nat → Int32} {iLa : Nat → Int32} {cC : Int32} {nC : Int32} {nFo : Int32} {nQd : Int32} {nRo : Nat → Int32} {nBe : Nat → Int32} {nEa : Nat → Int32} {nMi : Nat → Int32} {nHa : Nat → Int32} {nER : Nat → Int32} {nMR : Nat → Int32} {nTh : Nat → Int32} {nPa : Nat → Int32} {nOu : Nat → Int32} {nFr : Nat → Int32} {nQu : Nat → Int32} {eM : Nat} {eL : Nat → Int32} {eC : Nat → Int64} {eS : Nat → Int64} {eB : Nat → Nat → Int32} {eE : Nat → Nat → Int32} {eF : Nat → Nat → Int32} {eG : Nat → Nat → Int32} {pT : Int32} {pK : Nat → Int32} {pN : Nat → Int32} {pF : Nat → Int32} {pS : Nat → Int32} {qT : Int32} {qK : Nat → Int32} {qN : Nat → Int32} {qF : Nat → Int32} {qS : Nat → Int32} {mKe : Int32} {mUn : Int32} {mFi : Int32} {mRi : Int32} {mBe : Int64} {mWc : Int32} {mAK : Int32} {mSh : Int32} {mIP : Int32} {mUS : Nat → Int32} {mWa : Nat → Int32} {mWi : Nat → Int32} {mSi : Nat → Int32} {mRo : Nat → Int64} {mSp : Nat → Int64} {mRw : Nat → Int32} {mSn : Nat → Int32} {mBg : Nat → Int32} {mLa : Nat → Int32} {mMo : Nat → Int32} {mRm : Nat → Int64} {mOw : Nat → Int64} {mGo : Nat → Int32} {mFr : Nat → Int32} {mQu : Nat → Int32} {mCh : Nat → Int64} {mPB : Nat → Int32} {mPS : Nat → Int32} {mFs : Nat → Int32} {ub : Nat → Nat} {uT : Nat → Int32} {uK : Nat → Nat → Int32} {uN : Nat → Nat → Int32} {uF : Nat → Nat → Int32} {uS : Nat → Nat → Int32}
theorem RelS.fi (H : RelS bHK bHP bPF bWC bRi bBe bFi bWa dB dS dN tC tKi tEa tHa tPr tEx tSt tTo tBe kC kKi kEa kHa kPr kEx kSt kTo kBe aC aWh aTa aWa iRo iEa iLa cC nC nFo nQd nRo nBe nEa nMi nHa nER nMR nTh nPa nOu nFr nQu eM eL eC eS eB eE eF eG pT pK pN pF pS qT qK qN qF qS mKe mUn mFi mRi mBe mWc mAK mSh mIP mUS mWa mWi mSi mRo mSp mRw mSn mBg mLa mMo mRm mOw mGo mFr mQu mCh mPB mPS mFs ub uT uK uN uF uS) : bFi = mFi := H.1
theorem RelS.ri (H : RelS bHK bHP bPF bWC bRi bBe bFi bWa dB dS dN tC tKi tEa tHa tPr tEx tSt tTo tBe kC kKi kEa kHa kPr kEx kSt kTo kBe aC aWh aTa aWa iRo iEa iLa cC nC nFo nQd nRo nBe nEa nMi nHa nER nMR nTh nPa nOu nFr nQu eM eL eC eS eB eE eF eG pT pK pN pF pS qT qK qN qF qS mKe mUn mFi mRi mBe mWc mAK mSh mIP mUS mWa mWi mSi mRo mSp mRw mSn mBg mLa mMo mRm mOw mGo mFr mQu mCh mPB mPS mFs ub uT uK uN uF uS) : bRi = mRi := H.2.1
theorem RelS.be (H : RelS bHK bHP bPF bWC bRi bBe bFi bWa dB dS dN tC tKi tEa tHa tPr tEx tSt tTo tBe kC kKi kEa kHa kPr kEx kSt kTo kBe aC aWh aTa aWa iRo iEa iLa cC nC nFo nQd nRo nBe nEa nMi nHa nER nMR nTh nPa nOu nFr nQu eM eL eC eS eB eE eF eG pT pK pN pF pS qT qK qN qF qS mKe mUn mFi mRi mBe mWc mAK mSh mIP mUS mWa mWi mSi mRo mSp mRw mSn mBg mLa mMo mRm mOw mGo mFr mQu mCh mPB mPS mFs ub uT uK uN uF uS) : bBe = Int64.toInt32 mBe := H.2.2.1
theorem RelS.wt (H : RelS bHK bHP bPF bWC bRi bBe bFi bWa dB dS dN tC tKi tEa tHa tPr tEx tSt tTo tBe kC kKi kEa kHa kPr kEx kSt kTo kBe aC aWh aTa aWa iRo iEa iLa cC nC nFo nQd nRo nBe nEa nMi nHa nER nMR nTh nPa nOu nFr nQu eM eL eC eS eB eE eF eG pT pK pN pF pS qT qK qN qF qS mKe mUn mFi mRi mBe mWc mAK mSh mIP mUS mWa mWi mSi mRo mSp mRw mSn mBg mLa mMo mRm mOw mGo mFr mQu mCh mPB mPS mFs ub uT uK uN uF uS) : RelW bWC bWa mWc mWa := H.2.2.2.1
theorem RelS.bd (H : RelS bHK bHP bPF bWC bRi bBe bFi bWa dB dS dN tC tKi tEa tHa tPr tEx tSt tTo tBe kC kKi kEa kHa kPr kEx kSt kTo kBe aC aWh aTa aWa iRo iEa iLa cC nC nFo nQd nRo nBe nEa nMi nHa nER nMR nTh nPa nOu nFr nQu eM eL eC eS eB eE eF eG pT pK pN pF pS qT qK qN qF qS mKe mUn mFi mRi mBe mWc mAK mSh mIP mUS mWa mWi mSi mRo mSp mRw mSn mBg mLa mMo mRm mOw mGo mFr mQu mCh mPB mPS mFs ub uT uK uN uF uS) : RelB dB dS dN mWi mSi mRo := H.2.2.2.2.1
theorem RelS.tk (H : RelS bHK bHP bPF bWC bRi bBe bFi bWa dB dS dN tC tKi tEa tHa tPr tEx tSt tTo tBe kC kKi kEa kHa kPr kEx kSt kTo kBe aC aWh aTa aWa iRo iEa iLa cC nC nFo nQd nRo nBe nEa nMi nHa nER nMR nTh nPa nOu nFr nQu eM eL eC eS eB eE eF eG pT pK pN pF pS qT qK qN qF qS mKe mUn mFi mRi mBe mWc mAK mSh mIP mUS mWa mWi mSi mRo mSp mRw mSn mBg mLa mMo mRm mOw mGo mFr mQu mCh mPB mPS mFs ub uT uK uN uF uS) : ∃ n a sh, TK n a sh bHP bPF tC tKi tEa tHa tPr tEx tSt tTo tBe aC aWh aTa aWa cC eM eL eC eS eB eE eF eG pT pK pN pF pS mUn mAK mSh mIP mUS mCh mPB mPS ub uT uK uN uF uS := H.2.2.2.2.2.1
theorem RelS.hk (H : RelS bHK bHP bPF bWC bRi bBe bFi bWa dB dS dN tC tKi tEa tHa tPr tEx tSt tTo tBe kC kKi kEa kHa kPr kEx kSt kTo kBe aC aWh aTa aWa iRo iEa iLa cC nC nFo nQd nRo nBe nEa nMi nHa nER nMR nTh nPa nOu nFr nQu eM eL eC eS eB eE eF eG pT pK pN pF pS qT qK qN qF qS mKe mUn mFi mRi mBe mWc mAK mSh mIP mUS mWa mWi mSi mRo mSp mRw mSn mBg mLa mMo mRm mOw mGo mFr mQu mCh mPB mPS mFs ub uT uK uN uF uS) : bHK = mKe ∧ (¬ bHK = 0 → ∃ n, BK n kC kKi kEa kHa kPr kEx kSt kTo kBe qT qK qN qF qS) := H.2.2.2.2.2.2.1
theorem RelS.ui (H : RelS bHK bHP bPF bWC bRi bBe bFi bWa dB dS dN tC tKi tEa tHa tPr tEx tSt tTo tBe kC kKi kEa kHa kPr kEx kSt kTo kBe aC aWh aTa aWa iRo iEa iLa cC nC nFo nQd nRo nBe nEa nMi nHa nER nMR nTh nPa nOu nFr nQu eM eL eC eS eB eE eF eG pT pK pN pF pS qT qK qN qF qS mKe mUn mFi mRi mBe mWc mAK mSh mIP mUS mWa mWi mSi mRo mSp mRw mSn mBg mLa mMo mRm mOw mGo mFr mQu mCh mPB mPS mFs ub uT uK uN uF uS) : (∀ i, i < 30 → ub i < 30) ∧ ∀ i j, i < 30 → j < 30 → ub i = ub j → i = j := H.2.2.2.2.2.2.2.1
theorem RelS.m7 (H : RelS bHK bHP bPF bWC bRi bBe bFi bWa dB dS dN tC tKi tEa tHa tPr tEx tSt tTo tBe kC kKi kEa kHa kPr kEx kSt kTo kBe aC aWh aTa aWa iRo iEa iLa cC nC nFo nQd nRo nBe nEa nMi nHa nER nMR nTh nPa nOu nFr nQu eM eL eC eS eB eE eF eG pT pK pN pF pS qT qK qN qF qS mKe mUn mFi mRi mBe mWc mAK mSh mIP mUS mWa mWi mSi mRo mSp mRw mSn mBg mLa mMo mRm mOw mGo mFr mQu mCh mPB mPS mFs ub uT uK uN uF uS) : eM ≤ 721 := H.2.2.2.2.2.2.2.2
end RELP
