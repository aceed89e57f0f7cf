/-! the class: the curve is drawn -/
theorem ThePlan.congr {n : Nat} {e h : Nat → Int} {c : Nat → Int → Int} {fo : Nat → Nat → Prop} {T : Int} {b f b' f' : Nat → Int} (H : ThePlan n e h c fo T b f) (hb : ∀ t, t < n → b t = b' t) (hf : ∀ t, t < n → f t = f' t) : ThePlan n e h c fo T b' f' :=
  ⟨⟨H.1.1.congr hb hf, H.1.2.1.congr hf, fun b2 f2 g1 g2 => by rw [← Cost.congr hb hf]; exact H.1.2.2 b2 f2 g1 g2⟩, fun b2 f2 O t ht => by rw [← hb t ht, ← hf t ht]; exact H.2 b2 f2 O t ht⟩
section MOM
variable {n : Nat} {on off th : Nat → Int} {fr : Nat → Nat → Prop} {pa : Nat → Nat → Int} {B C b f b' f' : Nat → Int}
theorem SolT.congrM (hb : ∀ t, t < n → b t = b' t) (hf : ∀ t, t < n → f t = f' t) (H : SolT n on off th fr pa b f) : SolT n on off th fr pa b' f' := by
  intro t ht
  obtain ⟨a1, a2, a3⟩ := H t ht
  rw [← hb t ht, ← hf t ht]
  exact ⟨a1, a2, fun o ho => by rw [← hf o ho]; exact a3 o ho⟩
theorem LeaT.congrM (hb : ∀ t, t < n → b t = b' t) (hf : ∀ t, t < n → f t = f' t) (H : LeaT n on off th fr pa B C b f) : LeaT n on off th fr pa B C b' f' :=
  ⟨H.1.congrM hb hf, fun t ht => by rw [← hb t ht, ← hf t ht]; exact H.2.1 t ht, fun b2 f2 S G t ht => by rw [← hb t ht, ← hf t ht]; exact H.2.2 b2 f2 S G t ht⟩
end MOM
/-- a bend of the curve -/
def BendOK (n : Nat) (tKi tEa tHa tPr tEx tSt tBe : Nat → Int32) (sh : Int) (eL : Nat → Int32) (eC eS : Nat → Int64) (eB eE eF eG : Nat → Nat → Int32) (i : Nat) : Prop :=
  (sh ≤ (eL i).toInt ∧ (eL i).toInt ≤ 720) ∧ (0 ≤ (eC i).toInt ∧ (eC i).toInt ≤ 144000000) ∧ (0 ≤ (eS i).toInt ∧ (eS i).toInt ≤ 144000000) ∧ (i = 0 → (eS i).toInt = 0) ∧
  (∀ j, j + 1 = i → (eL i).toInt < (eL j).toInt ∧ (eS j).toInt < (eS i).toInt ∧ (eC i).toInt = (eC j).toInt + (eS i).toInt * ((eL j).toInt - (eL i).toInt)) ∧
  (∀ t, t < n → (0 ≤ iT (eB i) t ∧ iT (eB i) t ≤ 1000) ∧ (0 ≤ iT (eE i) t ∧ iT (eE i) t ≤ 1000) ∧ (-1000000 ≤ iT (eF i) t ∧ iT (eF i) t ≤ 1000) ∧ -1000000 ≤ iT (eG i) t ∧ iT (eG i) t ≤ 1000) ∧
  ∀ T : Int, (eL i).toInt ≤ T → T ≤ 1001 → (∀ j, j + 1 = i → T ≤ (eL j).toInt) → ThePlan n (iT tEa) (iT tHa) (cT tKi tEa tPr tEx tSt) (foC n tBe) T (fun t => max (iT (eB i) t) (T + iT (eF i) t)) (fun t => max (iT (eE i) t) (T + iT (eG i) t)) ∧ Cost n (cT tKi tEa tPr tEx tSt) (fun t => max (iT (eB i) t) (T + iT (eF i) t)) (fun t => max (iT (eE i) t) (T + iT (eG i) t)) = (eC i).toInt - (eS i).toInt * (T - (eL i).toInt)
section DRAW
variable {n : Nat} {tKi tEa tHa tPr tEx tSt tBe th pa ou : Nat → Int32} {nFo : Int32} {nRo nBe nEa nMi nHa nER nMR : Nat → Int32} {sh : Int} {eL eL' : Nat → Int32} {eC eS eC' eS' : Nat → Int64} {eB eE eF eG eB' eE' eF' eG' : Nat → Nat → Int32}
theorem BendOK.congr {i : Nat} (h : ∀ j, j ≤ i → eL j = eL' j ∧ eC j = eC' j ∧ eS j = eS' j ∧ eB j = eB' j ∧ eE j = eE' j ∧ eF j = eF' j ∧ eG j = eG' j) (H : BendOK n tKi tEa tHa tPr tEx tSt tBe sh eL eC eS eB eE eF eG i) : BendOK n tKi tEa tHa tPr tEx tSt tBe sh eL' eC' eS' eB' eE' eF' eG' i := by
  obtain ⟨q1, q2, q3, q4, q5, q6, q7⟩ := h i (Nat.le_refl _)
  unfold BendOK at H ⊢
  rw [← q1, ← q2, ← q3, ← q4, ← q5, ← q6, ← q7]
  obtain ⟨h1, h2, h3, h4, h5, h6, h7⟩ := H
  refine ⟨h1, h2, h3, h4, fun j hj => ?_, h6, fun T g1 g2 g3 => h7 T g1 g2 (fun j hj => ?_)⟩
  · obtain ⟨r1, r2, r3, _⟩ := h j (by omega)
    rw [← r1, ← r2, ← r3]; exact h5 j hj
  · have r1 := (h j (by omega)).1
    rw [r1]; exact g3 j hj
/-- what is known before a bend -/
def DrawI (n : Nat) (tKi tEa tHa tPr tEx tSt tBe : Nat → Int32) (sh x3 x5 x7 : Int) (k : Nat) (th pa ou : Nat → Int32) : Prop :=
  FS n (Red (foC n tBe)) (iT th) (iT ou) (paI pa) x5 ∧ (∃ b' f', SolT n (onT (iT tEa) (mdT tKi tEa tHa tEx) (iT tHa) (erT tKi tEa tHa tPr tEx) (s2T tKi tEa tHa tEx tSt) (iT th)) (offT (iT tEa) (mdT tKi tEa tHa tEx) (iT tHa) (erT tKi tEa tHa tPr tEx) (s2T tKi tEa tHa tEx tSt) (iT th)) (iT th) (Red (foC n tBe)) (paI pa) b' f' ∧ GeB n (fun _ => 0) (fun _ => 0) b' f' ∧ ∀ t, t < n → f' t ≤ 720 - k ∧ (0 < k → f' t ≤ x7 - 1)) ∧
  ((k = 0 ∧ x5 = 0 ∧ (∀ t, t < n → iT th t = 0) ∧ (∀ t, t < n → iT ou t = 0) ∧ (∀ o t, o < n → t < n → paI pa o t = 0) ∧ x3 = sT (mnT (cT tKi tEa tPr tEx tSt) (iT tEa) (mdT tKi tEa tHa tEx) (iT tHa) (erT tKi tEa tHa tPr tEx) (s2T tKi tEa tHa tEx tSt) (fun _ => 0)) n) ∨ (0 < k ∧ sh < x7 ∧ x7 + k ≤ 721 ∧ 0 < x5 ∧ ∃ bz fz, PushC n tKi tEa tHa tPr tEx tSt tBe th ou pa bz fz x7 x5 ∧ Pl n (iT tEa) (iT tHa) (Red (foC n tBe)) bz fz ∧ Len n x7 fz ∧ Cost n (cT tKi tEa tPr tEx tSt) bz fz = x3))
theorem cost_b (hT : TB n (nI n) tKi tEa tHa tPr tEx tSt tBe) {fo : Nat → Nat → Prop} {b f : Nat → Int} (P : Pl n (iT tEa) (iT tHa) fo b f) : 0 ≤ Cost n (cT tKi tEa tPr tEx tSt) b f ∧ Cost n (cT tKi tEa tPr tEx tSt) b f ≤ 144000000 := by
  have hn := hT.2.1
  have k : 0 ≤ Cost n (cT tKi tEa tPr tEx tSt) b f ∧ Cost n (cT tKi tEa tPr tEx tSt) b f ≤ n * 12000000 := sT_bound (fun t ht => cT_bd (hT.2.2.1 t ht) (P t ht).2.1 (P t ht).2.2.1)
  omega
theorem draw_step (hT : TB n (nI n) tKi tEa tHa tPr tEx tSt tBe) {B : Nat → Int} (hE : Early n (foC n tBe) (iT tHa) B) (hB : LenOf n (iT tHa) B sh) {x3 x5 x7 r : Int} {k : Nat} (D : DrawI n tKi tEa tHa tPr tEx tSt tBe sh x3 x5 x7 k th pa ou) {a b a' b' : Nat → Int} (hY : LeaT n (onT (iT tEa) (mdT tKi tEa tHa tEx) (iT tHa) (erT tKi tEa tHa tPr tEx) (s2T tKi tEa tHa tEx tSt) (iT th)) (offT (iT tEa) (mdT tKi tEa tHa tEx) (iT tHa) (erT tKi tEa tHa tPr tEx) (s2T tKi tEa tHa tEx tSt) (iT th)) (iT th) (Red (foC n tBe)) (paI pa) (fun _ => 0) (fun _ => 0) a b) (hr : MaxEnd n (b) r)
    (hEe : ((∀ t, t < n → ¬ 0 < iT ou t) ∧ ∀ t, t < n → a' t = -1000000 ∧ b' t = -1000000) ∨ ((∃ t, t < n ∧ 0 < iT ou t) ∧ LeaT n (onT (iT tEa) (mdT tKi tEa tHa tEx) (iT tHa) (erT tKi tEa tHa tPr tEx) (s2T tKi tEa tHa tEx tSt) (iT th)) (offT (iT tEa) (mdT tKi tEa tHa tEx) (iT tHa) (erT tKi tEa tHa tPr tEx) (s2T tKi tEa tHa tEx tSt) (iT th)) (iT th) (Red (foC n tBe)) (paI pa) (fun _ => -1000000) (fun t => if 0 < iT ou t then 0 else -1000000) a' b' ∧ ∀ t, t < n → a' t ≤ 1000 ∧ b' t ≤ 1000)) :
    (sh ≤ r ∧ 0 ≤ r ∧ r + k ≤ 720 ∧ (0 < k → r < x7 ∧ x7 ≤ 720)) ∧ (0 ≤ x5 ∧ x5 ≤ 144000000 ∧ (k = 0 → x5 = 0) ∧ 0 ≤ x3 ∧ x3 ≤ 144000000) ∧ (∀ t, t < n → (0 ≤ a t ∧ a t ≤ 1000) ∧ (0 ≤ b t ∧ b t ≤ 1000) ∧ (-1000000 ≤ a' t ∧ a' t ≤ 1000) ∧ -1000000 ≤ b' t ∧ b' t ≤ 1000) ∧ (0 ≤ x3 + x5 * (x7 - r) ∧ x3 + x5 * (x7 - r) ≤ 144000000) ∧
    (∀ T : Int, r ≤ T → T ≤ 1001 → (0 < k → T ≤ x7) → ThePlan n (iT tEa) (iT tHa) (cT tKi tEa tPr tEx tSt) (foC n tBe) T (fun t => max (a t) (T + a' t)) (fun t => max (b t) (T + b' t)) ∧ Cost n (cT tKi tEa tPr tEx tSt) (fun t => max (a t) (T + a' t)) (fun t => max (b t) (T + b' t)) = x3 + x5 * (x7 - r) - x5 * (T - r)) ∧
    ∃ bz fz, PushC n tKi tEa tHa tPr tEx tSt tBe th ou pa bz fz r x5 ∧ Pl n (iT tEa) (iT tHa) (Red (foC n tBe)) bz fz ∧ Len n r fz ∧ Cost n (cT tKi tEa tPr tEx tSt) bz fz = x3 + x5 * (x7 - r) := by
  obtain ⟨rk, hrk⟩ := hT.2.2.2.2
  obtain ⟨hF, ⟨b1, f1, S, G, hf1⟩, hc⟩ := D
  have le := hY.2.2 b1 f1 S G
  have g0 : ∀ t, t < n → 0 ≤ a t ∧ 0 ≤ b t := hY.2.1
  have hab : ∀ t, t < n → a t ≤ b t := fun t ht => by
    have := (hY.1 t ht).1
    have := (hT.onb (iT th) t ht).1
    omega
  have hsh := hB.1
  have hr0 := hr.1
  have hk : k ≤ 720 := by rcases hc with ⟨z, _⟩ | ⟨_, z1, z2, _⟩ <;> omega
  have hrk2 : r + k ≤ 720 ∧ (0 < k → r < x7 ∧ x7 ≤ 720) := by
    have e1 : 0 < k → x7 ≤ 720 ∧ 0 < x7 := fun q => by rcases hc with ⟨z, _⟩ | ⟨_, z1, z2, _⟩ <;> omega
    rcases hr.2.2 with z | ⟨t, z1, z2⟩
    · exact ⟨by omega, fun q => by have := e1 q; omega⟩
    · have l1 := (le t z1).2
      have l2 := hf1 t z1
      exact ⟨by omega, fun q => by have := e1 q; have := l2.2 q; omega⟩
  have hbb : ∀ t, t < n → (0 ≤ a t ∧ a t ≤ 1000) ∧ (0 ≤ b t ∧ b t ≤ 1000) ∧ (-1000000 ≤ a' t ∧ a' t ≤ 1000) ∧ -1000000 ≤ b' t ∧ b' t ≤ 1000 := fun t ht => by
    have l1 := g0 t ht
    have l2 := hab t ht
    have l3 := hr.2.1 t ht
    refine ⟨by omega, by omega, ?_⟩
    rcases hEe with ⟨_, z⟩ | ⟨_, z1, z2⟩
    · have := z t ht; omega
    · have m1 : -1000000 ≤ a' t := (z1.2.1 t ht).1
      have m2 := (z1.1 t ht).1
      have m3 := (hT.onb (iT th) t ht).1
      have m4 := z2 t ht
      omega
  have main : (0 ≤ x5 ∧ x5 ≤ 144000000 ∧ (k = 0 → x5 = 0) ∧ 0 ≤ x3 ∧ x3 ≤ 144000000) ∧ (∀ T : Int, r ≤ T → T ≤ 1001 → (0 < k → T ≤ x7) → ThePlan n (iT tEa) (iT tHa) (cT tKi tEa tPr tEx tSt) (foC n tBe) T (fun t => max (a t) (T + a' t)) (fun t => max (b t) (T + b' t)) ∧ Cost n (cT tKi tEa tPr tEx tSt) (fun t => max (a t) (T + a' t)) (fun t => max (b t) (T + b' t)) = x3 + x5 * (x7 - r) - x5 * (T - r)) ∧
    ∃ bz fz, PushC n tKi tEa tHa tPr tEx tSt tBe th ou pa bz fz r x5 ∧ Pl n (iT tEa) (iT tHa) (Red (foC n tBe)) bz fz ∧ Len n r fz ∧ Cost n (cT tKi tEa tPr tEx tSt) bz fz = x3 + x5 * (x7 - r) := by
    rcases hc with ⟨k0, h5, hz1, hz2, hz3, h3⟩ | ⟨k1, h7, h72, h5, bz, fz, H, hP, hL, hC⟩
    · have hE2 : ∀ t, t < n → a' t = -1000000 ∧ b' t = -1000000 := by
        rcases hEe with ⟨_, z⟩ | ⟨⟨t, z1, z2⟩, _⟩
        · exact z
        · have := hz2 t z1; omega
      have e0 : x3 + x5 * (x7 - r) = x3 := by rw [h5, Int.zero_mul]; omega
      have p0 := bend0 hT hz1 hz2 hz3 hY (T := r) hr.2.1
      have cb := cost_b hT p0.2.2.2
      rw [p0.2.1, ← h3] at cb
      refine ⟨⟨by omega, by omega, fun _ => h5, cb⟩, fun T g1 g2 g3 => ?_, a, b, by rw [h5]; exact p0.2.2.1, p0.2.2.2, hr.2.1, by rw [e0, h3]; exact p0.2.1⟩
      have p := bend0 hT hz1 hz2 hz3 hY (T := T) (fun t ht => by have := hr.2.1 t ht; omega)
      have q1 : ∀ t, t < n → a t = max (a t) (T + a' t) := fun t ht => by have := hE2 t ht; have := hbb t ht; omega
      have q2 : ∀ t, t < n → b t = max (b t) (T + b' t) := fun t ht => by have := hE2 t ht; have := hbb t ht; omega
      refine ⟨p.1.congr q1 q2, ?_⟩
      rw [← Cost.congr (c := (cT tKi tEa tPr tEx tSt)) q1 q2, p.2.1, e0, h5, Int.zero_mul, h3]; omega
    · have hE2 : LeaT n (onT (iT tEa) (mdT tKi tEa tHa tEx) (iT tHa) (erT tKi tEa tHa tPr tEx) (s2T tKi tEa tHa tEx tSt) (iT th)) (offT (iT tEa) (mdT tKi tEa tHa tEx) (iT tHa) (erT tKi tEa tHa tPr tEx) (s2T tKi tEa tHa tEx tSt) (iT th)) (iT th) (Red (foC n tBe)) (paI pa) (fun _ => -1000000) (fun t => if 0 < iT ou t then 0 else -1000000) a' b' := by
        rcases hEe with ⟨z, _⟩ | ⟨_, z, _⟩
        · exfalso
          have : sT (iT ou) n = 0 := by
            rw [sT_congr (g := fun _ => 0) (fun t ht => by have := z t ht; have := (hF.1 t ht).2.1; show iT ou t = 0; omega)]; exact sT_zero n
          have := hF.2.2
          omega
        · exact z
      have vb := v_bd hT H hP hE hB h7
      have cb := cost_b hT hP
      have tc : Cost n (cT tKi tEa tPr tEx tSt) bz fz = sT (mnT (cT tKi tEa tPr tEx tSt) (iT tEa) (mdT tKi tEa tHa tEx) (iT tHa) (erT tKi tEa tHa tPr tEx) (s2T tKi tEa tHa tEx tSt) (iT th)) n - x5 * x7 := by
        have := tight_cost H.2.2.1.flow H.2.2.2
        rw [H.2.2.1.2.2] at this
        exact this
      have m1 : x5 * (x7 - r) = x5 * x7 - x5 * r := Int.mul_sub _ _ _
      have hx := hrk2.2 k1
      have pr := bend1 hT H hP hL (by omega) hY hE2 (T := r) hr.2.1 (by omega) hr0
      refine ⟨⟨vb.1, vb.2, fun q => by omega, by omega⟩, fun T g1 g2 g3 => ?_, _, _, pr.2.2.1, pr.2.2.2.1, pr.2.2.2.2, by rw [pr.2.1]; omega⟩
      have p := bend1 hT H hP hL (by omega) hY hE2 (T := T) (fun t ht => by have := hr.2.1 t ht; omega) (g3 k1) (by omega)
      refine ⟨p.1, ?_⟩
      have m2 : x5 * (T - r) = x5 * T - x5 * r := Int.mul_sub _ _ _
      rw [p.2.1]; omega
  obtain ⟨m1, m2, bz, fz, m3, m4, m5, m6⟩ := main
  have cb := cost_b hT m4
  rw [m6] at cb
  have pf := (red_pl foC_lt hrk hT.h0).mp m4
  have eb := Early.least foC_lt hrk hE (b := bz) (f := fz) (fun t ht => ⟨(pf t ht).1, by have := (pf t ht).2.1; omega, fun o q => (pf t ht).2.2.2 o q.2.1 q⟩)
  have hsr : sh ≤ r := by
    rcases hB.2.2 with z | ⟨t, z1, z2⟩
    · omega
    · have := eb t z1
      have := (pf t z1).2.1
      have := m5 t z1
      omega
  exact ⟨⟨hsr, hr0, hrk2.1, hrk2.2⟩, m1, hbb, cb, m2, bz, fz, m3, m4, m5, m6⟩
/-- between two bends -/
def StI (n : Nat) (tKi tEa tHa tPr tEx tSt tBe : Nat → Int32) (sh : Int) (x3 x5 : Int64) (x7 x8 : Int32) (k : Nat) (th pa ou : Nat → Int32) (eL : Nat → Int32) (eC eS : Nat → Int64) : Prop :=
  (x8 = 1 ∧ DrawI n tKi tEa tHa tPr tEx tSt tBe sh x3.toInt x5.toInt x7.toInt k th pa ou ∧ ∀ j, j + 1 = k → (eL j).toInt = x7.toInt ∧ (eC j).toInt = x3.toInt ∧ (eS j).toInt < x5.toInt) ∨ (x8 = 0 ∧ 0 < k ∧ ∀ j, j + 1 = k → (eL j).toInt = sh)
theorem draw_b (hT : TB n (nI n) tKi tEa tHa tPr tEx tSt tBe) (hL : Laid n tKi tEa tHa tPr tEx tSt tBe nFo nRo nBe nEa nMi nHa nER nMR) {a2 : Int32} {B : Nat → Int} (hE : Early n (foC n tBe) (iT tHa) B) (hB : LenOf n (iT tHa) B a2.toInt) {x3 x5 : Int64} {x7 : Int32} {k : Nat} (hx7 : k = 0 → x7 = 0) (D : DrawI n tKi tEa tHa tPr tEx tSt tBe a2.toInt x3.toInt x5.toInt x7.toInt k th pa ou) (hlink : ∀ j, j + 1 = k → (eL j).toInt = x7.toInt ∧ (eC j).toInt = x3.toInt ∧ (eS j).toInt < x5.toInt) (hbe : ∀ i, i < k → BendOK n tKi tEa tHa tPr tEx tSt tBe a2.toInt eL eC eS eB eE eF eG i) {qd : Int32} {fr qu : Nat → Int32} {eM : Nat} {k27 : Int64 → Int64 → Int32 → Int32 → Int32 → Int32 → (Nat → Int32) → (Nat → Int32) → (Nat → Int32) → (Nat → Int32) → (Nat → Int32) → Nat → (Nat → Int32) → (Nat → Int64) → (Nat → Int64) → (Nat → Nat → Int32) → (Nat → Nat → Int32) → (Nat → Nat → Int32) → (Nat → Nat → Int32) → Prop}
    (hk : ∀ (x3 x5 : Int64) (x7 x8 qd : Int32) (th pa ou fr qu : Nat → Int32) (eL : Nat → Int32) (eC eS : Nat → Int64) (eB eE eF eG : Nat → Nat → Int32), (∀ i, i < k + 1 → BendOK n tKi tEa tHa tPr tEx tSt tBe a2.toInt eL eC eS eB eE eF eG i) → StI n tKi tEa tHa tPr tEx tSt tBe a2.toInt x3 x5 x7 x8 (k + 1) th pa ou eL eC eS → k27 x3 x5 x7 x8 (nI (k + 1)) qd th pa ou fr qu eM eL eC eS eB eE eF eG) :
    wp_X3_draw_b50 a2 (nI n) nFo nRo nBe nEa nMi nHa nER nMR k27 x3 x5 x7 (nI k) qd th pa ou fr qu k eM eL eC eS eB eE eF eG := by
  have hn := hT.2.1
  obtain ⟨hro, hbt, hfo, hNK⟩ := id hL
  obtain ⟨hF, ⟨b1, f1, S, G, hf1⟩, hc⟩ := id D
  obtain ⟨yb, yf, hY⟩ := LeaT.ex S G
  have le := hY.2.2 b1 f1 S G
  have hth : ∀ o t, o < n → t < n → 0 < paI pa o t → 0 < iT th t := fun o t ho ht q => by
    have h1 := (hF.1 t ht).2.2.1
    unfold innF at h1
    have h2 := sT_part (f := fun o => paI pa o t) (n := n) (fun j hj => (hF.2.1 j t hj ht).1) ho
    omega
  have hpa : ∀ o t, o < n → t < n → 0 < paI pa o t → foC n tBe t o := fun o t ho ht q => ((hF.2.1 o t ho ht).2.1 (by omega)).1
  refine wp_rfs hn hro hbt hNK (hT.onb _) (hT.offb _) hth hpa hY (fun t ht => ?_) (fun r a b hab hr => ?_)
  · have h1 := le t ht
    have h2 := hf1 t ht
    have h3 := (hY.1 t ht).1
    have h4 := (hT.onb (iT th) t ht).1
    omega
  have hY2 := hY.congrM (fun t ht => (hab t ht).1.symm) (fun t ht => (hab t ht).2.symm)
  have hr2 : MaxEnd n (iT b) r.toInt := ⟨hr.1, fun t ht => by rw [(hab t ht).2]; exact hr.2.1 t ht, by
    rcases hr.2.2 with z | ⟨t, z1, z2⟩
    · exact Or.inl z
    · exact Or.inr ⟨t, z1, by rw [(hab t z1).2]; exact z2⟩⟩
  obtain ⟨bE, fE, hEE⟩ : ∃ bE fE, (∃ t, t < n ∧ 0 < iT ou t) → LeaT n (onT (iT tEa) (mdT tKi tEa tHa tEx) (iT tHa) (erT tKi tEa tHa tPr tEx) (s2T tKi tEa tHa tEx tSt) (iT th)) (offT (iT tEa) (mdT tKi tEa tHa tEx) (iT tHa) (erT tKi tEa tHa tPr tEx) (s2T tKi tEa tHa tEx tSt) (iT th)) (iT th) (Red (foC n tBe)) (paI pa) (fun _ => -1000000) (fun t => if 0 < iT ou t then 0 else -1000000) bE fE ∧ ∀ t, t < n → bE t ≤ 1000 ∧ fE t ≤ 1000 := by
    rcases hc with ⟨k0, h5, hz1, hz2, hz3, h3⟩ | ⟨k1, h7, h72, h5, bz, fz, H, hP, hLn, hC⟩
    · exact ⟨fun _ => 0, fun _ => 0, fun ⟨t, z1, z2⟩ => by have := hz2 t z1; omega⟩
    · obtain ⟨bE, fE, z⟩ := yE_ex hT H hP hLn (by omega)
      exact ⟨bE, fE, fun _ => z⟩
  have go : ∀ a' b' : Nat → Int32, (((∀ t, t < n → ¬ 0 < iT ou t) ∧ ∀ t, t < n → iT a' t = -1000000 ∧ iT b' t = -1000000) ∨ ((∃ t, t < n ∧ 0 < iT ou t) ∧ LeaT n (onT (iT tEa) (mdT tKi tEa tHa tEx) (iT tHa) (erT tKi tEa tHa tPr tEx) (s2T tKi tEa tHa tEx tSt) (iT th)) (offT (iT tEa) (mdT tKi tEa tHa tEx) (iT tHa) (erT tKi tEa tHa tPr tEx) (s2T tKi tEa tHa tEx tSt) (iT th)) (iT th) (Red (foC n tBe)) (paI pa) (fun _ => -1000000) (fun t => if 0 < iT ou t then 0 else -1000000) (iT a') (iT b') ∧ ∀ t, t < n → iT a' t ≤ 1000 ∧ iT b' t ≤ 1000)) → ∀ x3_120 : Int64, x3_120 = (x3 + (x5 * (Int32.toInt64 (x7 - r)))) → ∀ eL_122 : Nat → Int32, eL_122 = va_up eL k r → ∀ eC_124 : Nat → Int64, eC_124 = va_up eC k x3_120 → ∀ eS_126 : Nat → Int64, eS_126 = va_up eS k x5 → ((r ≤ a2 → wp_X3_draw_b135 (nI n) nFo nBe nEa nMi nHa nER nMR k27 0 x3_120 x5 r k r (nI k) qd th pa ou fr qu eM eL_122 eC_124 eS_126 (va_up eB k a) (va_up eE k b) (va_up eF k a') (va_up eG k b')) ∧
   (¬ r ≤ a2 → wp_X3_draw_b135 (nI n) nFo nBe nEa nMi nHa nER nMR k27 1 x3_120 x5 r k r (nI k) qd th pa ou fr qu eM eL_122 eC_124 eS_126 (va_up eB k a) (va_up eE k b) (va_up eF k a') (va_up eG k b'))) := by
    intro a' b' hEe x3' ex3 eL' eL2 eC' eC2 eS' eS2
    obtain ⟨⟨c1, c2, c3, c4⟩, ⟨d1, d2, d3, d4, d5⟩, hbb, hcb, hpl, bz, fz, z1, z2, z3, z4⟩ := draw_step hT hE hB D hY2 hr2 hEe
    have x7b : -1000 ≤ x7.toInt ∧ x7.toInt ≤ 1000 := by
      rcases Nat.eq_zero_or_pos k with q | q
      · rw [hx7 q]; decide
      · have := c4 q; omega
    have e7 : (x7 - r).toInt = x7.toInt - r.toInt := i_sub (by omega) (by omega)
    have e3 : x3'.toInt = x3.toInt + x5.toInt * (x7.toInt - r.toInt) := by
      have m : (x5 * Int32.toInt64 (x7 - r)).toInt = x5.toInt * (x7.toInt - r.toInt) := by
        rw [l_mul]
        · rw [l_of, e7]
        · rw [l_of, e7]; omega
        · rw [l_of, e7]; omega
      rw [ex3, l_add]
      · rw [m]
      · rw [m]; omega
      · rw [m]; omega
    have hnew : ∀ i, i < k + 1 → BendOK n tKi tEa tHa tPr tEx tSt tBe a2.toInt eL' eC' eS' (va_up eB k a) (va_up eE k b) (va_up eF k a') (va_up eG k b') i := by
      intro i hi
      rcases Nat.lt_or_ge i k with q | q
      · refine (hbe i q).congr (fun j hj => ?_)
        rw [eL2, eC2, eS2, va_up_ne _ _ (by omega), va_up_ne _ _ (by omega), va_up_ne _ _ (by omega), va_up_ne _ _ (by omega), va_up_ne _ _ (by omega), va_up_ne _ _ (by omega), va_up_ne _ _ (by omega)]
        exact ⟨rfl, rfl, rfl, rfl, rfl, rfl, rfl⟩
      · have eik : i = k := by omega
        subst eik
        unfold BendOK
        rw [eL2, eC2, eS2, va_up_self, va_up_self, va_up_self, va_up_self, va_up_self, va_up_self, va_up_self]
        refine ⟨⟨c1, by omega⟩, by rw [e3]; exact hcb, ⟨d1, d2⟩, d3, fun j hj => ?_, hbb, fun T g1 g2 g3 => ?_⟩
        · obtain ⟨l1, l2, l3⟩ := hlink j hj
          rw [va_up_ne _ _ (by omega), va_up_ne _ _ (by omega), va_up_ne _ _ (by omega), l1, l2]
          exact ⟨(c4 (by omega)).1, l3, e3⟩
        · rw [e3]
          refine hpl T g1 g2 (fun q => ?_)
          have := g3 (i - 1) (by omega)
          rw [va_up_ne _ _ (by omega), (hlink (i - 1) (by omega)).1] at this
          exact this
    refine ⟨fun q => ⟨fun _ c ec => ?_, fun w => absurd rfl w⟩, fun q => ⟨fun w => absurd w (by decide), fun _ => ?_⟩⟩
    · rw [ec, nI_1]
      refine hk _ _ _ _ _ _ _ _ _ _ _ _ _ _ _ _ _ hnew (Or.inr ⟨rfl, by omega, fun j hj => ?_⟩)
      rw [eL2, show j = k by omega, va_up_self]
      rw [i_le] at q
      omega
    · rw [i_le] at q
      rw [va_up_self, va_up_self]
      refine wp_cpush hT hL (fun t ht => ⟨(hbb t ht).1.1, (hbb t ht).1.2⟩) z2 z3 hE hB (by omega) d1 z1 hY2.1 (fun s qd th' pa' ou' fr' qu' s0 s1 hH hS hN x5' ex5 c ec => ?_)
      obtain ⟨b2, f2, lo1, lo2, lo3⟩ := lowered hT hS hY2.2.1 hr2.2.1 hN
      have hspos : 0 < s.toInt := by
        rcases Int.lt_or_le 0 s.toInt with w | w
        · exact w
        · exfalso
          obtain ⟨w1, w2⟩ := s1 (by omega)
          rw [w1, w2] at lo1
          have ll := hY2.2.2 b2 f2 lo1 lo2
          have sh0 := hB.1
          rcases hr2.2.2 with v | ⟨t, v1, v2⟩
          · omega
          · have := (ll t v1).2
            have := lo3 t v1
            omega
      have vb := v_bd hT hH z2 hE hB (by omega)
      have e5 : x5'.toInt = x5.toInt + s.toInt := by
        rw [ex5, l_add]
        · rw [l_of]
        · rw [l_of]; omega
        · rw [l_of]; omega
      rw [ec, nI_1]
      refine hk _ _ _ _ _ _ _ _ _ _ _ _ _ _ _ _ _ hnew (Or.inl ⟨rfl, ⟨by rw [e5]; exact hH.2.2.1, ⟨b2, f2, lo1, lo2, fun t ht => ?_⟩, Or.inr ⟨by omega, by omega, by omega, by omega, bz, fz, by rw [e5]; exact hH, z2, z3, by rw [e3]; exact z4⟩⟩, fun j hj => ?_⟩)
      · have := lo3 t ht
        exact ⟨by omega, fun _ => this⟩
      · rw [show j = k by omega, eL2, eC2, eS2, va_up_self, va_up_self, va_up_self]
        exact ⟨rfl, rfl, by omega⟩
  refine wp_rfe hn hro hbt hNK (hT.onb _) (hT.offb _) hth hpa hEE (fun a' b' h1 h2 => ?_) (fun a' b' h1 h2 => go a' b' (Or.inl ⟨h1, h2⟩))
  have hz := hEE h1
  exact go a' b' (Or.inr ⟨h1, hz.1.congrM (fun t ht => (h2 t ht).1.symm) (fun t ht => (h2 t ht).2.symm), fun t ht => by rw [(h2 t ht).1, (h2 t ht).2]; exact hz.2 t ht⟩)
theorem bend_cat {i : Nat} (H : BendOK n tKi tEa tHa tPr tEx tSt tBe sh eL eC eS eB eE eF eG i) {T : Int} (h1 : (eL i).toInt ≤ T) (h2 : T ≤ 1001) (h3 : ∀ j, j + 1 = i → T ≤ (eL j).toInt) : CAt n (iT tEa) (iT tHa) (cT tKi tEa tPr tEx tSt) (foC n tBe) T ((eC i).toInt - (eS i).toInt * (T - (eL i).toInt)) := by
  obtain ⟨p, q⟩ := H.2.2.2.2.2.2 T h1 h2 h3
  exact ⟨_, _, p.1, q⟩
end DRAW
