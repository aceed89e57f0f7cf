/-! the class: the curve is drawn -/
theorem ThePlan.congr {n : Nat} {e h : Nat → Int} {c : Nat → Int → Int} {fo : Nat → Nat → Prop} {T : Int} {b f b' f' : Nat → Int} (H : ThePlan n e h c fo T b f) (hb : ∀ t, t < n → b t = b' t) (hf : ∀ t, t < n → f t = f' t) : ThePlan n e h c fo T b' f' :=
  ⟨⟨H.1.1.congr hb hf, H.1.2.1.congr hf, fun b2 f2 g1 g2 => by rw [← Cost.congr hb hf]; exact H.1.2.2 b2 f2 g1 g2⟩, fun b2 f2 O t ht => by rw [← hb t ht, ← hf t ht]; exact H.2 b2 f2 O t ht⟩
section MOM
variable {n : Nat} {on off th : Nat → Int} {fr : Nat → Nat → Prop} {pa : Nat → Nat → Int} {B C b f b' f' : Nat → Int}
theorem SolT.congrM (hb : ∀ t, t < n → b t = b' t) (hf : ∀ t, t < n → f t = f' t) (H : SolT n on off th fr pa b f) : SolT n on off th fr pa b' f' := by
  intro t ht
  obtain ⟨a1, a2, a3⟩ := H t ht
  rw [← hb t ht, ← hf t ht]
  exact ⟨a1, a2, fun o ho => by rw [← hf o ho]; exact a3 o ho⟩
theorem LeaT.congrM (hb : ∀ t, t < n → b t = b' t) (hf : ∀ t, t < n → f t = f' t) (H : LeaT n on off th fr pa B C b f) : LeaT n on off th fr pa B C b' f' :=
  ⟨H.1.congrM hb hf, fun t ht => by rw [← hb t ht, ← hf t ht]; exact H.2.1 t ht, fun b2 f2 S G t ht => by rw [← hb t ht, ← hf t ht]; exact H.2.2 b2 f2 S G t ht⟩
end MOM
/-- a bend of the curve -/
def BendOK (n : Nat) (tKi tEa tHa tPr tEx tSt tBe : Nat → Int32) (sh : Int) (eL : Nat → Int32) (eC eS : Nat → Int64) (eB eE eF eG : Nat → Nat → Int32) (i : Nat) : Prop :=
  (sh ≤ (eL i).toInt ∧ (eL i).toInt ≤ 720) ∧ (0 ≤ (eC i).toInt ∧ (eC i).toInt ≤ 144000000) ∧ (0 ≤ (eS i).toInt ∧ (eS i).toInt ≤ 144000000) ∧ (i = 0 → (eS i).toInt = 0) ∧
  (∀ j, j + 1 = i → (eL i).toInt < (eL j).toInt ∧ (eS j).toInt < (eS i).toInt ∧ (eC i).toInt = (eC j).toInt + (eS i).toInt * ((eL j).toInt - (eL i).toInt)) ∧
  (∀ t, t < n → (0 ≤ iT (eB i) t ∧ iT (eB i) t ≤ 1000) ∧ (0 ≤ iT (eE i) t ∧ iT (eE i) t ≤ 1000) ∧ (-1000000 ≤ iT (eF i) t ∧ iT (eF i) t ≤ 1000) ∧ -1000000 ≤ iT (eG i) t ∧ iT (eG i) t ≤ 1000) ∧
  ∀ T : Int, (eL i).toInt ≤ T → T ≤ 1000 → (∀ j, j + 1 = i → T ≤ (eL j).toInt) → ThePlan n (iT tEa) (iT tHa) (cT tKi tEa tPr tEx tSt) (foC n tBe) T (fun t => max (iT (eB i) t) (T + iT (eF i) t)) (fun t => max (iT (eE i) t) (T + iT (eG i) t)) ∧ Cost n (cT tKi tEa tPr tEx tSt) (fun t => max (iT (eB i) t) (T + iT (eF i) t)) (fun t => max (iT (eE i) t) (T + iT (eG i) t)) = (eC i).toInt - (eS i).toInt * (T - (eL i).toInt)
section DRAW
variable {n : Nat} {tKi tEa tHa tPr tEx tSt tBe th pa ou : Nat → Int32} {nFo : Int32} {nRo nBe nEa nMi nHa nER nMR : Nat → Int32} {sh : Int} {eL eL' : Nat → Int32} {eC eS eC' eS' : Nat → Int64} {eB eE eF eG eB' eE' eF' eG' : Nat → Nat → Int32}
theorem BendOK.congr {i : Nat} (h : ∀ j, j ≤ i → eL j = eL' j ∧ eC j = eC' j ∧ eS j = eS' j ∧ eB j = eB' j ∧ eE j = eE' j ∧ eF j = eF' j ∧ eG j = eG' j) (H : BendOK n tKi tEa tHa tPr tEx tSt tBe sh eL eC eS eB eE eF eG i) : BendOK n tKi tEa tHa tPr tEx tSt tBe sh eL' eC' eS' eB' eE' eF' eG' i := by
  obtain ⟨q1, q2, q3, q4, q5, q6, q7⟩ := h i (Nat.le_refl _)
  unfold BendOK at H ⊢
  rw [← q1, ← q2, ← q3, ← q4, ← q5, ← q6, ← q7]
  obtain ⟨h1, h2, h3, h4, h5, h6, h7⟩ := H
  refine ⟨h1, h2, h3, h4, fun j hj => ?_, h6, fun T g1 g2 g3 => h7 T g1 g2 (fun j hj => ?_)⟩
  · obtain ⟨r1, r2, r3, _⟩ := h j (by omega)
    rw [← r1, ← r2, ← r3]; exact h5 j hj
  · have r1 := (h j (by omega)).1
    rw [r1]; exact g3 j hj
/-- what is known before a bend -/
def DrawI (n : Nat) (tKi tEa tHa tPr tEx tSt tBe : Nat → Int32) (sh x3 x5 x7 : Int) (k : Nat) (th pa ou : Nat → Int32) : Prop :=
  FS n (Red (foC n tBe)) (iT th) (iT ou) (paI pa) x5 ∧ (∃ b' f', SolT n (onT (iT tEa) (mdT tKi tEa tHa tEx) (iT tHa) (erT tKi tEa tHa tPr tEx) (s2T tKi tEa tHa tEx tSt) (iT th)) (offT (iT tEa) (mdT tKi tEa tHa tEx) (iT tHa) (erT tKi tEa tHa tPr tEx) (s2T tKi tEa tHa tEx tSt) (iT th)) (iT th) (Red (foC n tBe)) (paI pa) b' f' ∧ GeB n (fun _ => 0) (fun _ => 0) b' f' ∧ ∀ t, t < n → f' t ≤ 720 - k ∧ (0 < k → f' t ≤ x7 - 1)) ∧
  ((k = 0 ∧ x5 = 0 ∧ (∀ t, t < n → iT th t = 0) ∧ (∀ t, t < n → iT ou t = 0) ∧ (∀ o t, o < n → t < n → paI pa o t = 0) ∧ x3 = sT (mnT (cT tKi tEa tPr tEx tSt) (iT tEa) (mdT tKi tEa tHa tEx) (iT tHa) (erT tKi tEa tHa tPr tEx) (s2T tKi tEa tHa tEx tSt) (fun _ => 0)) n) ∨ (0 < k ∧ sh < x7 ∧ x7 + k ≤ 721 ∧ 0 < x5 ∧ ∃ bz fz, PushC n tKi tEa tHa tPr tEx tSt tBe th ou pa bz fz x7 x5 ∧ Pl n (iT tEa) (iT tHa) (Red (foC n tBe)) bz fz ∧ Len n x7 fz ∧ Cost n (cT tKi tEa tPr tEx tSt) bz fz = x3))
theorem cost_b (hT : TB n (nI n) tKi tEa tHa tPr tEx tSt tBe) {fo : Nat → Nat → Prop} {b f : Nat → Int} (P : Pl n (iT tEa) (iT tHa) fo b f) : 0 ≤ Cost n (cT tKi tEa tPr tEx tSt) b f ∧ Cost n (cT tKi tEa tPr tEx tSt) b f ≤ 144000000 := by
  have hn := hT.2.1
  have k : 0 ≤ Cost n (cT tKi tEa tPr tEx tSt) b f ∧ Cost n (cT tKi tEa tPr tEx tSt) b f ≤ n * 12000000 := sT_bound (fun t ht => cT_bd (hT.2.2.1 t ht) (P t ht).2.1 (P t ht).2.2.1)
  omega
theorem draw_step (hT : TB n (nI n) tKi tEa tHa tPr tEx tSt tBe) {B : Nat → Int} (hE : Early n (foC n tBe) (iT tHa) B) (hB : LenOf n (iT tHa) B sh) {x3 x5 x7 r : Int} {k : Nat} (D : DrawI n tKi tEa tHa tPr tEx tSt tBe sh x3 x5 x7 k th pa ou) {a b a' b' : Nat → Int32} (hY : LeaT n (onT (iT tEa) (mdT tKi tEa tHa tEx) (iT tHa) (erT tKi tEa tHa tPr tEx) (s2T tKi tEa tHa tEx tSt) (iT th)) (offT (iT tEa) (mdT tKi tEa tHa tEx) (iT tHa) (erT tKi tEa tHa tPr tEx) (s2T tKi tEa tHa tEx tSt) (iT th)) (iT th) (Red (foC n tBe)) (paI pa) (fun _ => 0) (fun _ => 0) (iT a) (iT b)) (hr : MaxEnd n (iT b) r)
    (hEe : ((∀ t, t < n → ¬ 0 < iT ou t) ∧ ∀ t, t < n → iT a' t = -1000000 ∧ iT b' t = -1000000) ∨ ((∃ t, t < n ∧ 0 < iT ou t) ∧ LeaT n (onT (iT tEa) (mdT tKi tEa tHa tEx) (iT tHa) (erT tKi tEa tHa tPr tEx) (s2T tKi tEa tHa tEx tSt) (iT th)) (offT (iT tEa) (mdT tKi tEa tHa tEx) (iT tHa) (erT tKi tEa tHa tPr tEx) (s2T tKi tEa tHa tEx tSt) (iT th)) (iT th) (Red (foC n tBe)) (paI pa) (fun _ => -1000000) (fun t => if 0 < iT ou t then 0 else -1000000) (iT a') (iT b') ∧ ∀ t, t < n → iT a' t ≤ 1000 ∧ iT b' t ≤ 1000)) :
    (sh ≤ r ∧ 0 ≤ r ∧ r + k ≤ 720 ∧ (0 < k → r < x7 ∧ x7 ≤ 720)) ∧ (0 ≤ x5 ∧ x5 ≤ 144000000 ∧ (k = 0 → x5 = 0) ∧ 0 ≤ x3 ∧ x3 ≤ 144000000) ∧ (∀ t, t < n → (0 ≤ iT a t ∧ iT a t ≤ 1000) ∧ (0 ≤ iT b t ∧ iT b t ≤ 1000) ∧ (-1000000 ≤ iT a' t ∧ iT a' t ≤ 1000) ∧ -1000000 ≤ iT b' t ∧ iT b' t ≤ 1000) ∧ (0 ≤ x3 + x5 * (x7 - r) ∧ x3 + x5 * (x7 - r) ≤ 144000000) ∧
    (∀ T : Int, r ≤ T → T ≤ 1000 → (0 < k → T ≤ x7) → ThePlan n (iT tEa) (iT tHa) (cT tKi tEa tPr tEx tSt) (foC n tBe) T (fun t => max (iT a t) (T + iT a' t)) (fun t => max (iT b t) (T + iT b' t)) ∧ Cost n (cT tKi tEa tPr tEx tSt) (fun t => max (iT a t) (T + iT a' t)) (fun t => max (iT b t) (T + iT b' t)) = x3 + x5 * (x7 - r) - x5 * (T - r)) ∧
    ∃ bz fz, PushC n tKi tEa tHa tPr tEx tSt tBe th ou pa bz fz r x5 ∧ Pl n (iT tEa) (iT tHa) (Red (foC n tBe)) bz fz ∧ Len n r fz ∧ Cost n (cT tKi tEa tPr tEx tSt) bz fz = x3 + x5 * (x7 - r) := by
  obtain ⟨rk, hrk⟩ := hT.2.2.2.2
  obtain ⟨hF, ⟨b1, f1, S, G, hf1⟩, hc⟩ := D
  have le := hY.2.2 b1 f1 S G
  have g0 : ∀ t, t < n → 0 ≤ iT a t ∧ 0 ≤ iT b t := hY.2.1
  have hab : ∀ t, t < n → iT a t ≤ iT b t := fun t ht => by
    have := (hY.1 t ht).1
    have := (hT.onb (iT th) t ht).1
    omega
  have hsh := hB.1
  have hr0 := hr.1
  have hk : k ≤ 720 := by rcases hc with ⟨z, _⟩ | ⟨_, z1, z2, _⟩ <;> omega
  have hrk2 : r + k ≤ 720 ∧ (0 < k → r < x7 ∧ x7 ≤ 720) := by
    have e1 : 0 < k → x7 ≤ 720 ∧ 0 < x7 := fun q => by rcases hc with ⟨z, _⟩ | ⟨_, z1, z2, _⟩ <;> omega
    rcases hr.2.2 with z | ⟨t, z1, z2⟩
    · exact ⟨by omega, fun q => by have := e1 q; omega⟩
    · have l1 := (le t z1).2
      have l2 := hf1 t z1
      exact ⟨by omega, fun q => by have := e1 q; have := l2.2 q; omega⟩
  have hbb : ∀ t, t < n → (0 ≤ iT a t ∧ iT a t ≤ 1000) ∧ (0 ≤ iT b t ∧ iT b t ≤ 1000) ∧ (-1000000 ≤ iT a' t ∧ iT a' t ≤ 1000) ∧ -1000000 ≤ iT b' t ∧ iT b' t ≤ 1000 := fun t ht => by
    have l1 := g0 t ht
    have l2 := hab t ht
    have l3 := hr.2.1 t ht
    refine ⟨by omega, by omega, ?_⟩
    rcases hEe with ⟨_, z⟩ | ⟨_, z1, z2⟩
    · have := z t ht; omega
    · have m1 : -1000000 ≤ iT a' t := (z1.2.1 t ht).1
      have m2 := (z1.1 t ht).1
      have m3 := (hT.onb (iT th) t ht).1
      have m4 := z2 t ht
      omega
  have main : (0 ≤ x5 ∧ x5 ≤ 144000000 ∧ (k = 0 → x5 = 0) ∧ 0 ≤ x3 ∧ x3 ≤ 144000000) ∧ (∀ T : Int, r ≤ T → T ≤ 1000 → (0 < k → T ≤ x7) → ThePlan n (iT tEa) (iT tHa) (cT tKi tEa tPr tEx tSt) (foC n tBe) T (fun t => max (iT a t) (T + iT a' t)) (fun t => max (iT b t) (T + iT b' t)) ∧ Cost n (cT tKi tEa tPr tEx tSt) (fun t => max (iT a t) (T + iT a' t)) (fun t => max (iT b t) (T + iT b' t)) = x3 + x5 * (x7 - r) - x5 * (T - r)) ∧
    ∃ bz fz, PushC n tKi tEa tHa tPr tEx tSt tBe th ou pa bz fz r x5 ∧ Pl n (iT tEa) (iT tHa) (Red (foC n tBe)) bz fz ∧ Len n r fz ∧ Cost n (cT tKi tEa tPr tEx tSt) bz fz = x3 + x5 * (x7 - r) := by
    rcases hc with ⟨k0, h5, hz1, hz2, hz3, h3⟩ | ⟨k1, h7, h72, h5, bz, fz, H, hP, hL, hC⟩
    · have hE2 : ∀ t, t < n → iT a' t = -1000000 ∧ iT b' t = -1000000 := by
        rcases hEe with ⟨_, z⟩ | ⟨⟨t, z1, z2⟩, _⟩
        · exact z
        · have := hz2 t z1; omega
      have e0 : x3 + x5 * (x7 - r) = x3 := by rw [h5, Int.zero_mul]; omega
      have p0 := bend0 hT hz1 hz2 hz3 hY (T := r) hr.2.1
      have cb := cost_b hT p0.2.2.2
      rw [p0.2.1, ← h3] at cb
      refine ⟨⟨by omega, by omega, fun _ => h5, cb⟩, fun T g1 g2 g3 => ?_, iT a, iT b, by rw [h5]; exact p0.2.2.1, p0.2.2.2, hr.2.1, by rw [e0, h3]; exact p0.2.1⟩
      have p := bend0 hT hz1 hz2 hz3 hY (T := T) (fun t ht => by have := hr.2.1 t ht; omega)
      have q1 : ∀ t, t < n → iT a t = max (iT a t) (T + iT a' t) := fun t ht => by have := hE2 t ht; have := hbb t ht; omega
      have q2 : ∀ t, t < n → iT b t = max (iT b t) (T + iT b' t) := fun t ht => by have := hE2 t ht; have := hbb t ht; omega
      refine ⟨p.1.congr q1 q2, ?_⟩
      rw [← Cost.congr (c := (cT tKi tEa tPr tEx tSt)) q1 q2, p.2.1, e0, h5, Int.zero_mul, h3]; omega
    · have hE2 : LeaT n (onT (iT tEa) (mdT tKi tEa tHa tEx) (iT tHa) (erT tKi tEa tHa tPr tEx) (s2T tKi tEa tHa tEx tSt) (iT th)) (offT (iT tEa) (mdT tKi tEa tHa tEx) (iT tHa) (erT tKi tEa tHa tPr tEx) (s2T tKi tEa tHa tEx tSt) (iT th)) (iT th) (Red (foC n tBe)) (paI pa) (fun _ => -1000000) (fun t => if 0 < iT ou t then 0 else -1000000) (iT a') (iT b') := by
        rcases hEe with ⟨z, _⟩ | ⟨_, z, _⟩
        · exfalso
          have : sT (iT ou) n = 0 := by
            rw [sT_congr (g := fun _ => 0) (fun t ht => by have := z t ht; have := (hF.1 t ht).2.1; show iT ou t = 0; omega)]; exact sT_zero n
          have := hF.2.2
          omega
        · exact z
      have vb := v_bd hT H hP hE hB h7
      have cb := cost_b hT hP
      have tc : Cost n (cT tKi tEa tPr tEx tSt) bz fz = sT (mnT (cT tKi tEa tPr tEx tSt) (iT tEa) (mdT tKi tEa tHa tEx) (iT tHa) (erT tKi tEa tHa tPr tEx) (s2T tKi tEa tHa tEx tSt) (iT th)) n - x5 * x7 := by
        have := tight_cost H.2.2.1.flow H.2.2.2
        rw [H.2.2.1.2.2] at this
        exact this
      have m1 : x5 * (x7 - r) = x5 * x7 - x5 * r := Int.mul_sub _ _ _
      have hx := hrk2.2 k1
      have pr := bend1 hT H hP hL (by omega) hY hE2 (T := r) hr.2.1 (by omega) hr0
      refine ⟨⟨vb.1, vb.2, fun q => by omega, by omega⟩, fun T g1 g2 g3 => ?_, _, _, pr.2.2.1, pr.2.2.2.1, pr.2.2.2.2, by rw [pr.2.1]; omega⟩
      have p := bend1 hT H hP hL (by omega) hY hE2 (T := T) (fun t ht => by have := hr.2.1 t ht; omega) (g3 k1) (by omega)
      refine ⟨p.1, ?_⟩
      have m2 : x5 * (T - r) = x5 * T - x5 * r := Int.mul_sub _ _ _
      rw [p.2.1]; omega
  obtain ⟨m1, m2, bz, fz, m3, m4, m5, m6⟩ := main
  have cb := cost_b hT m4
  rw [m6] at cb
  have pf := (red_pl foC_lt hrk hT.h0).mp m4
  have eb := Early.least foC_lt hrk hE (b := bz) (f := fz) (fun t ht => ⟨(pf t ht).1, by have := (pf t ht).2.1; omega, fun o q => (pf t ht).2.2.2 o q.2.1 q⟩)
  have hsr : sh ≤ r := by
    rcases hB.2.2 with z | ⟨t, z1, z2⟩
    · omega
    · have := eb t z1
      have := (pf t z1).2.1
      have := m5 t z1
      omega
  exact ⟨⟨hsr, hr0, hrk2.1, hrk2.2⟩, m1, hbb, cb, m2, bz, fz, m3, m4, m5, m6⟩
end DRAW
