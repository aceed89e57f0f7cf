/-! the class: moments of a push, and moments that are tight at a length -/
section CTWO
variable {n : Nat} {e md h er s2 th th' ou ou' : Nat → Int} {c : Nat → Int → Int} {fr : Nat → Nat → Prop} {pa pa' : Nat → Nat → Int} {b f bz fz : Nat → Int} {len v d : Int} {p : Nat → Nat} {m l : Nat}
theorem mv_th (hfr : ∀ t, ¬ fr t t) (hF : FS n fr th ou pa v) (hi : ∀ i k, i < k → k ≤ m → p i ≠ p k) (hW : Way (2 * n) (Arc n (onT e md h er s2 th) (offT e md h er s2 th) th fr pa b f) (RootN n fr b) p m) (hR : WayRoom er s2 th pa p m d) (hM : Moved n th th' pa pa' p 0 m d) : ∀ t, t < n → (th' t = th t) ∨ (th' t = th t + d ∧ b t + onT e md h er s2 th t = f t ∧ d ≤ rOn (er t) (er t + s2 t) (th t)) ∨ (th' t = th t - d ∧ 0 < th t ∧ b t + offT e md h er s2 th t = f t ∧ d ≤ rOff (er t) (er t + s2 t) (th t)) := by
  have hpf : ∀ o t, o < n → t < n → 0 < pa o t → fr t o := fun o t ho ht z => (hF.2.1 o t ho ht).2.1 (by omega)
  have hpp : ∀ t, t < n → ¬ 0 < pa t t := fun t ht z => hfr t (hpf t t ht ht z)
  have step : ∀ u w, ina p 0 m u w = 1 → Arc n (onT e md h er s2 th) (offT e md h er s2 th) th fr pa b f u w ∧ d ≤ roomI er s2 th pa u w := fun u w z => by
    obtain ⟨i, i1, i2, i3, i4⟩ := ina_ex z
    rw [← i3, ← i4]; exact ⟨hW.2.2 i i2, hR.2.1 i i2⟩
  intro t ht
  have z := hM.1 t ht
  rcases ina_01 p 0 m (2 * t) (2 * t + 1) with a | a
  · rcases ina_01 p 0 m (2 * t + 1) (2 * t) with q | q
    · rw [a, q] at z; simp at z; exact Or.inl z
    · obtain ⟨s1, s2'⟩ := step _ _ q
      have k := arc_bwd hfr s1
      rw [room_bwd] at s2'
      rw [a, q] at z
      exact Or.inr (Or.inr ⟨by omega, k.2.1, k.2.2, s2'⟩)
  · have q := ina_rev hi a
    obtain ⟨s1, s2'⟩ := step _ _ a
    have k := arc_fwd hpp s1
    rw [room_fwd] at s2'
    rw [a, q] at z
    exact Or.inr (Or.inl ⟨by omega, k.2, s2'⟩)
theorem mv_pa (hi : ∀ i k, i < k → k ≤ m → p i ≠ p k) (hW : Way (2 * n) (Arc n (onT e md h er s2 th) (offT e md h er s2 th) th fr pa b f) (RootN n fr b) p m) (hM : Moved n th th' pa pa' p 0 m d) : ∀ o t, o < n → t < n → (pa' o t = pa o t) ∨ (pa' o t = pa o t + d ∧ b t = f o) ∨ (pa' o t = pa o t - d ∧ f o = b t) := by
  intro o t ho ht
  by_cases hot : o = t
  · rw [hot]; exact Or.inl (hM.2.2.1 t ht)
  · have z := hM.2.1 o t ho ht hot
    rcases ina_01 p 0 m (2 * o + 1) (2 * t) with a | a
    · rcases ina_01 p 0 m (2 * t) (2 * o + 1) with q | q
      · rw [a, q] at z; simp at z; exact Or.inl z
      · obtain ⟨i, i1, i2, i3, i4⟩ := ina_ex q
        have s1 := hW.2.2 i i2
        rw [i3, i4] at s1
        have k := arc_rev hot s1
        rw [a, q] at z
        exact Or.inr (Or.inr ⟨by omega, k.2.2.2⟩)
    · have q := ina_rev hi a
      obtain ⟨i, i1, i2, i3, i4⟩ := ina_ex a
      have s1 := hW.2.2 i i2
      rw [i3, i4] at s1
      have k := arc_pair hot s1
      rw [a, q] at z
      exact Or.inr (Or.inl ⟨by omega, k.2.2.2⟩)
/-- moments keep to what the flow asks for when it grows along a way that is tight in them -/
theorem push_sol (hK : TwoK n c e md h er s2) (hfr : ∀ t, ¬ fr t t) (hF : FS n fr th ou pa v) (hi : ∀ i k, i < k → k ≤ m → p i ≠ p k) (hW : Way (2 * n) (Arc n (onT e md h er s2 th) (offT e md h er s2 th) th fr pa b f) (RootN n fr b) p m) (hR : WayRoom er s2 th pa p m d) (hd : 0 < d) (hM : Moved n th th' pa pa' p 0 m d) (S : SolT n (onT e md h er s2 th) (offT e md h er s2 th) th fr pa b f) : SolT n (onT e md h er s2 th') (offT e md h er s2 th') th' fr pa' b f := by
  intro t ht
  obtain ⟨s1, s2', s3⟩ := S t ht
  obtain ⟨k1, k2, k3, k4, _⟩ := hK.1 t ht
  have key : b t + onT e md h er s2 th' t ≤ f t ∧ (0 < th' t → f t - offT e md h er s2 th' t ≤ b t) := by
    rcases mv_th hfr hF hi hW hR hM t ht with z | ⟨z, z1, z2⟩ | ⟨z, z1, z2, z3⟩
    · rw [onT_at, offT_at, z]; exact ⟨s1, s2'⟩
    · unfold rOn at z2
      have k := push_on (e := e t) (md := md t) (h := h t) (er := er t) (s2 := s2 t) (th := th t) (d := d) k1 k2 k4 hd (fun q => by rw [if_pos q] at z2; exact z2) (fun q q2 => by rw [if_neg q, if_pos q2] at z2; exact z2)
      rw [onT_at] at z1 ⊢
      rw [offT_at, z]
      omega
    · unfold rOff at z3
      have k := push_off (e := e t) (md := md t) (h := h t) (er := er t) (s2 := s2 t) (th := th t) (d := d) k1 k2 k4 hd (fun q q2 => by rw [if_neg q, if_pos q2] at z3; exact z3) (fun q q2 => by rw [if_neg q, if_neg q2] at z3; exact z3)
      rw [offT_at] at z2 ⊢
      rw [onT_at, z]
      omega
  refine ⟨key.1, key.2, fun o ho => ⟨(s3 o ho).1, fun q => ?_⟩⟩
  rcases mv_pa hi hW hM o t ho ht with z | ⟨z, z1⟩ | ⟨z, z1⟩
  · exact (s3 o ho).2 (by omega)
  · omega
  · omega
/-- a way tight in some moments is tight in all that lie between its two ends -/
theorem arc_nod (S : SolT n (onT e md h er s2 th) (offT e md h er s2 th) th fr pa bz fz) {u w : Nat} (hA : Arc n (onT e md h er s2 th) (offT e md h er s2 th) th fr pa b f u w) : nod bz fz u - nod b f u ≤ nod bz fz w - nod b f w ∧ (nod bz fz u = nod b f u → nod bz fz w = nod b f w → Arc n (onT e md h er s2 th) (offT e md h er s2 th) th fr pa bz fz u w) := by
  rcases hA with ⟨t, h1, rfl, rfl, h4⟩ | ⟨t, h1, rfl, rfl, h4, h5⟩ | ⟨t, o, h1, h2, rfl, rfl, h5, h6⟩ | ⟨t, o, h1, h2, rfl, rfl, h5, h6⟩
  · rw [nod_b, nod_b, nod_f, nod_f]
    have := (S t h1).1
    exact ⟨by omega, fun q1 q2 => Or.inl ⟨t, h1, rfl, rfl, by omega⟩⟩
  · rw [nod_b, nod_b, nod_f, nod_f]
    have := (S t h1).2.1 h4
    exact ⟨by omega, fun q1 q2 => Or.inr (Or.inl ⟨t, h1, rfl, rfl, h4, by omega⟩)⟩
  · rw [nod_b, nod_b, nod_f, nod_f]
    have := ((S t h1).2.2 o h2).1 h5
    exact ⟨by omega, fun q1 q2 => Or.inr (Or.inr (Or.inl ⟨t, o, h1, h2, rfl, rfl, h5, by omega⟩))⟩
  · rw [nod_b, nod_b, nod_f, nod_f]
    have := ((S t h1).2.2 o h2).2 h5
    exact ⟨by omega, fun q1 q2 => Or.inr (Or.inr (Or.inr ⟨t, o, h1, h2, rfl, rfl, h5, by omega⟩))⟩
theorem way_z (S : SolT n (onT e md h er s2 th) (offT e md h er s2 th) th fr pa bz fz) (hz : ∀ t, t < n → 0 ≤ bz t ∧ fz t ≤ len) (hW : Way (2 * n) (Arc n (onT e md h er s2 th) (offT e md h er s2 th) th fr pa b f) (RootN n fr b) p m) (hT : TermN n fr f len (p m)) : Way (2 * n) (Arc n (onT e md h er s2 th) (offT e md h er s2 th) th fr pa bz fz) (RootN n fr bz) p m ∧ TermN n fr fz len (p m) := by
  obtain ⟨⟨s, q1, q2, q3, q4⟩, w2, w3⟩ := hW
  obtain ⟨l, g1, g2, g3, g4⟩ := hT
  have up : ∀ i, i ≤ m → 0 ≤ nod bz fz (p i) - nod b f (p i) := by
    intro i
    induction i with
    | zero =>
      intro _
      rw [q2, nod_b, nod_b]
      have := (hz s q1).1
      omega
    | succ i ih =>
      intro hi
      have := ih (by omega)
      have := (arc_nod S (w3 i (by omega))).1
      omega
  have dn : ∀ j i, i + j = m → nod bz fz (p i) - nod b f (p i) ≤ 0 := by
    intro j
    induction j with
    | zero =>
      intro i hi
      rw [show i = m by omega, g2, nod_f, nod_f]
      have := (hz l g1).2
      omega
    | succ j ih =>
      intro i hi
      have := ih (i + 1) (by omega)
      have := (arc_nod S (w3 i (by omega))).1
      omega
  have eq : ∀ i, i ≤ m → nod bz fz (p i) = nod b f (p i) := fun i hi => by
    have := up i hi
    have := dn (m - i) i (by omega)
    omega
  refine ⟨⟨⟨s, q1, q2, q3, ?_⟩, w2, fun i hi => (arc_nod S (w3 i hi)).2 (eq i (by omega)) (eq (i + 1) (by omega))⟩, ⟨l, g1, g2, ?_, g4⟩⟩
  · have := eq 0 (Nat.zero_le _)
    rw [q2, nod_b, nod_b] at this
    omega
  · have := eq m (Nat.le_refl _)
    rw [g2, nod_f, nod_f] at this
    omega
theorem FS.congr (H : FS n fr th ou pa v) (ho : ∀ t, t < n → ou' t = ou t) : FS n fr th ou' pa v := by
  refine ⟨fun t ht => ?_, H.2.1, ?_⟩
  · rw [ho t ht]; exact H.1 t ht
  · rw [← H.2.2]; exact sT_congr ho
theorem Push.congr (H : Push n c e md h er s2 th ou fr pa b f len v) (ho : ∀ t, t < n → ou' t = ou t) : Push n c e md h er s2 th ou' fr pa b f len v := by
  refine ⟨H.1, H.2.1, H.2.2.1.congr ho, fun t ht => ?_, H.2.2.2.2⟩
  rw [ho t ht]; exact H.2.2.2.1 t ht
theorem way_short {N : Nat} (hi : ∀ i k, i < k → k ≤ m → p i ≠ p k) (hp : ∀ i, i ≤ m → p i < N) : m < N := by
  rcases Nat.lt_or_ge m N with z | z
  · exact z
  · exfalso
    have key : ∀ a, a ≤ m + 1 → a ≤ ctB (fun v => decide (∃ j, j < a ∧ p j = v)) N := by
      intro a
      induction a with
      | zero => intro _; exact Nat.zero_le _
      | succ a ih =>
        intro ha
        have h1 := ih (by omega)
        have h2 := ctB_lt (n := N) (p := fun v => decide (∃ j, j < a ∧ p j = v)) (q := fun v => decide (∃ j, j < a + 1 ∧ p j = v)) (fun v _ hp => by
          obtain ⟨j, hj, e⟩ := of_decide_eq_true hp
          exact decide_eq_true ⟨j, by omega, e⟩) (v := p a) (hp a (by omega)) (by
          apply decide_eq_false
          rintro ⟨j, hj, e⟩
          exact hi j a hj (by omega) e) (decide_eq_true ⟨a, by omega, rfl⟩)
        omega
    have k1 := key (m + 1) (Nat.le_refl _)
    have k2 := ctB_le (fun v => decide (∃ j, j < m + 1 ∧ p j = v)) N
    omega
end CTWO
/-! the class: all pushes at a length -/
section CPUSHES
variable {n : Nat} {tKi tEa tHa tPr tEx tSt tBe : Nat → Int32} {nFo : Int32} {nRo nBe nEa nMi nHa nER nMR : Nat → Int32}
theorem TB.twoK (hT : TB n (nI n) tKi tEa tHa tPr tEx tSt tBe) : TwoK n (cT tKi tEa tPr tEx tSt) (iT tEa) (mdT tKi tEa tHa tEx) (iT tHa) (erT tKi tEa tHa tPr tEx) (s2T tKi tEa tHa tEx tSt) := by
  refine ⟨hT.two, fun t ht h => ?_, fun t ht h => ?_⟩
  · unfold erT at h
    by_cases q : (tHa t).toInt < (tEa t).toInt
    · exact q
    · rw [if_neg q] at h; omega
  · unfold s2T at h
    unfold mdT
    by_cases q : (tKi t).toInt = 2 ∧ (tHa t).toInt < (tEa t).toInt - (tEx t).toInt
    · rw [if_pos q]; exact q.2
    · rw [if_neg q] at h; omega
theorem TB.ers (hT : TB n (nI n) tKi tEa tHa tPr tEx tSt tBe) : ∀ t, t < n → 0 ≤ erT tKi tEa tHa tPr tEx t ∧ erT tKi tEa tHa tPr tEx t ≤ 100000 ∧ 0 ≤ s2T tKi tEa tHa tEx tSt t ∧ s2T tKi tEa tHa tEx tSt t ≤ 100000 := by
  intro t ht
  obtain ⟨a1, a2, a3, a4, a5, a6, a7, a8, a9, a10, a11⟩ := hT.2.2.1 t ht
  unfold erT s2T
  refine ⟨?_, ?_, ?_, ?_⟩
  · split
    · split <;> omega
    · omega
  · split
    · split <;> omega
    · omega
  · split <;> omega
  · split <;> omega
theorem TB.onb (hT : TB n (nI n) tKi tEa tHa tPr tEx tSt tBe) (th : Nat → Int) : ∀ t, t < n → 0 ≤ onT (iT tEa) (mdT tKi tEa tHa tEx) (iT tHa) (erT tKi tEa tHa tPr tEx) (s2T tKi tEa tHa tEx tSt) th t ∧ onT (iT tEa) (mdT tKi tEa tHa tEx) (iT tHa) (erT tKi tEa tHa tPr tEx) (s2T tKi tEa tHa tEx tSt) th t ≤ 60 := fun t ht => by
  have k := hT.two t ht
  have a := sOn_in (e := iT tEa t) (er := erT tKi tEa tHa tPr tEx t) (mr := erT tKi tEa tHa tPr tEx t + s2T tKi tEa tHa tEx tSt t) (th := th t) k.1 k.2.1
  have b := hT.h0 t ht
  have c := hT.he t ht
  rw [onT_at]; omega
theorem TB.offb (hT : TB n (nI n) tKi tEa tHa tPr tEx tSt tBe) (th : Nat → Int) : ∀ t, t < n → 0 ≤ offT (iT tEa) (mdT tKi tEa tHa tEx) (iT tHa) (erT tKi tEa tHa tPr tEx) (s2T tKi tEa tHa tEx tSt) th t ∧ offT (iT tEa) (mdT tKi tEa tHa tEx) (iT tHa) (erT tKi tEa tHa tPr tEx) (s2T tKi tEa tHa tEx tSt) th t ≤ 60 := fun t ht => by
  have k := hT.two t ht
  have a := sOff_in (e := iT tEa t) (er := erT tKi tEa tHa tPr tEx t) (mr := erT tKi tEa tHa tPr tEx t + s2T tKi tEa tHa tEx tSt t) (th := th t) k.1 k.2.1
  have b := hT.h0 t ht
  have c := hT.he t ht
  rw [offT_at]; omega
/-- a flow of the class that goes with moments at a length -/
def PushC (n : Nat) (tKi tEa tHa tPr tEx tSt tBe nTh nOu nPa : Nat → Int32) (b f : Nat → Int) (len v : Int) : Prop := Push n (cT tKi tEa tPr tEx tSt) (iT tEa) (mdT tKi tEa tHa tEx) (iT tHa) (erT tKi tEa tHa tPr tEx) (s2T tKi tEa tHa tEx tSt) (iT nTh) (iT nOu) (Red (foC n tBe)) (paI nPa) b f len v
theorem red_irr (hT : TB n (nI n) tKi tEa tHa tPr tEx tSt tBe) : ∀ t, ¬ Red (foC n tBe) t t := by
  obtain ⟨rk, hr⟩ := hT.2.2.2.2
  intro t h
  have := hr t t h.1
  omega
/-- the slope is not beyond what can be saved -/
theorem v_bd (hT : TB n (nI n) tKi tEa tHa tPr tEx tSt tBe) {nTh nOu nPa : Nat → Int32} {b f : Nat → Int} {len v sh : Int} (H : PushC n tKi tEa tHa tPr tEx tSt tBe nTh nOu nPa b f len v) (hP : Pl n (iT tEa) (iT tHa) (Red (foC n tBe)) b f) {B : Nat → Int} (hE : Early n (foC n tBe) (iT tHa) B) (hB : LenOf n (iT tHa) B sh) (hs : sh < len) : 0 ≤ v ∧ v ≤ 144000000 := by
  obtain ⟨rk, hr⟩ := hT.2.2.2.2
  obtain ⟨hK, hfr, hF, hG⟩ := H
  have hn := hT.2.1
  have F := hF.flow
  have L := least_T hK.1 F
  have c1 := tight_cost F hG
  have c2 := cost_nonneg hT.c0 hP
  have pl := early_pl (e := iT tEa) (h := iT tHa) (fun t ht => ⟨Int.le_refl _, (hT.he t ht).1⟩) hE
  have pl' := (red_pl (b := B) (f := fun t => B t + iT tHa t) foC_lt hr hT.h0).mpr pl
  have c3 := dual_le F L pl' (T := sh) (fun t ht => hB.2.1 t ht)
  have c4 : Cost n (cT tKi tEa tPr tEx tSt) B (fun t => B t + iT tHa t) ≤ n * 12000000 := (sT_bound (fun t ht => cT_bd (hT.2.2.1 t ht) (pl t ht).2.1 (pl t ht).2.2.1)).2
  have hv : 0 ≤ v := by rw [← hF.2.2]; exact sT_nonneg (fun t ht => (hF.1 t ht).2.1)
  rw [hF.2.2] at c1 c3
  have c5 : v * 1 ≤ v * (len - sh) := Int.mul_le_mul_of_nonneg_left (by omega) hv
  have c6 : v * (len - sh) = v * len - v * sh := Int.mul_sub _ _ _
  omega
theorem fw_any (hT : TB n (nI n) tKi tEa tHa tPr tEx tSt tBe) (hL : Laid n tKi tEa tHa tPr tEx tSt tBe nFo nRo nBe nEa nMi nHa nER nMR) {f1 f2 : Nat → Int32} {len : Int32} (hf : ∀ t, t < n → 0 ≤ iT f1 t ∧ iT f1 t ≤ 1000) {th pa fr qu : Nat → Int32} {qd : Int32} {Q : Int32 → Int32 → (Nat → Int32) → (Nat → Int32) → Prop} (hQ : ∀ (x qd : Int32) (fr qu : Nat → Int32), ((∃ t, t < n ∧ x = nI t ∧ (∃ p m, FoundW n (ArcC n (iT tEa) (mdT tKi tEa tHa tEx) (iT tHa) (erT tKi tEa tHa tPr tEx) (s2T tKi tEa tHa tEx tSt) tBe th pa f1 f2) (RootC n tBe f1) (TermN n (Red (foC n tBe)) (iT f2) len.toInt) fr (2 * t + 1) p m)) ∨ (x = -1 ∧ (∃ R, NoWay (ArcC n (iT tEa) (mdT tKi tEa tHa tEx) (iT tHa) (erT tKi tEa tHa tPr tEx) (s2T tKi tEa tHa tEx tSt) tBe th pa f1 f2) (RootC n tBe f1) (TermN n (Red (foC n tBe)) (iT f2) len.toInt) R))) → Q x qd fr qu) : wp_X4_findWay f1 f2 (nI n) nFo qd nBe nEa nMi nHa nER nMR th pa fr qu len Q := by
  obtain ⟨hro, hbe, hfo, hNK⟩ := hL
  exact wp_fw hT.2.1 hbe hNK (hT.onb _) (hT.offb _) hf hfo (fun t q fr qu ht H => hQ _ _ _ _ (Or.inl ⟨t, ht, rfl, H⟩)) (fun q fr qu H => hQ _ _ _ _ (Or.inr ⟨rfl, H⟩))
theorem push_body (hT : TB n (nI n) tKi tEa tHa tPr tEx tSt tBe) (hL : Laid n tKi tEa tHa tPr tEx tSt tBe nFo nRo nBe nEa nMi nHa nER nMR) {f1 f2 : Nat → Int32} {len : Int32} (hf : ∀ t, t < n → 0 ≤ iT f1 t ∧ iT f1 t ≤ 1000) {bz fz : Nat → Int} (hP : Pl n (iT tEa) (iT tHa) (Red (foC n tBe)) bz fz) (hLen : Len n len.toInt fz) {B : Nat → Int} {sh : Int} (hE : Early n (foC n tBe) (iT tHa) B) (hB : LenOf n (iT tHa) B sh) (hs : sh < len.toInt) {v0 : Int} (hv0 : 0 ≤ v0)
    {r : Nat} {s qd : Int32} {th pa ou fr qu : Nat → Int32} (hH : PushC n tKi tEa tHa tPr tEx tSt tBe th ou pa bz fz len.toInt (v0 + s.toInt)) (hS : SolT n (onT (iT tEa) (mdT tKi tEa tHa tEx) (iT tHa) (erT tKi tEa tHa tPr tEx) (s2T tKi tEa tHa tEx tSt) (iT th)) (offT (iT tEa) (mdT tKi tEa tHa tEx) (iT tHa) (erT tKi tEa tHa tPr tEx) (s2T tKi tEa tHa tEx tSt) (iT th)) (iT th) (Red (foC n tBe)) (paI pa) (iT f1) (iT f2)) (hs0 : 0 ≤ s.toInt) (hPot : PotW (2 * n) (WA n (iT tEa) (mdT tKi tEa tHa tEx) (iT tHa) (erT tKi tEa tHa tPr tEx) (s2T tKi tEa tHa tEx tSt) (iT th) (Red (foC n tBe)) (paI pa) (iT f1) (iT f2)) (RootC n tBe f1) (TermN n (Red (foC n tBe)) (iT f2) len.toInt) r) {t : Nat} (ht : t < n) (hFW : (∃ p m, FoundW n (ArcC n (iT tEa) (mdT tKi tEa tHa tEx) (iT tHa) (erT tKi tEa tHa tPr tEx) (s2T tKi tEa tHa tEx tSt) tBe th pa f1 f2) (RootC n tBe f1) (TermN n (Red (foC n tBe)) (iT f2) len.toInt) fr (2 * t + 1) p m))
    {K : Int32 → Int32 → Int32 → (Nat → Int32) → (Nat → Int32) → (Nat → Int32) → (Nat → Int32) → (Nat → Int32) → Prop}
    (hKK : ∀ (r' : Nat) (s x qd : Int32) (th pa ou fr qu : Nat → Int32), r' < r → PushC n tKi tEa tHa tPr tEx tSt tBe th ou pa bz fz len.toInt (v0 + s.toInt) → SolT n (onT (iT tEa) (mdT tKi tEa tHa tEx) (iT tHa) (erT tKi tEa tHa tPr tEx) (s2T tKi tEa tHa tEx tSt) (iT th)) (offT (iT tEa) (mdT tKi tEa tHa tEx) (iT tHa) (erT tKi tEa tHa tPr tEx) (s2T tKi tEa tHa tEx tSt) (iT th)) (iT th) (Red (foC n tBe)) (paI pa) (iT f1) (iT f2) → 0 < s.toInt → PotW (2 * n) (WA n (iT tEa) (mdT tKi tEa tHa tEx) (iT tHa) (erT tKi tEa tHa tPr tEx) (s2T tKi tEa tHa tEx tSt) (iT th) (Red (foC n tBe)) (paI pa) (iT f1) (iT f2)) (RootC n tBe f1) (TermN n (Red (foC n tBe)) (iT f2) len.toInt) r' → ((∃ t, t < n ∧ x = nI t ∧ (∃ p m, FoundW n (ArcC n (iT tEa) (mdT tKi tEa tHa tEx) (iT tHa) (erT tKi tEa tHa tPr tEx) (s2T tKi tEa tHa tEx tSt) tBe th pa f1 f2) (RootC n tBe f1) (TermN n (Red (foC n tBe)) (iT f2) len.toInt) fr (2 * t + 1) p m)) ∨ (x = -1 ∧ (∃ R, NoWay (ArcC n (iT tEa) (mdT tKi tEa tHa tEx) (iT tHa) (erT tKi tEa tHa tPr tEx) (s2T tKi tEa tHa tEx tSt) tBe th pa f1 f2) (RootC n tBe f1) (TermN n (Red (foC n tBe)) (iT f2) len.toInt) R))) → K s x qd th pa ou fr qu) :
    wp_X4_roomOfWay nER nMR th pa fr (nI t) (fun (r_23 : Int32) => wp_X4_flowAlong th pa ou fr (nI t) r_23 (fun (nTh_24 : Nat → Int32) (nPa_25 : Nat → Int32) (nOu_26 : Nat → Int32) => ∀ x4_27 : Int32, x4_27 = (s + r_23) → wp_X4_findWay f1 f2 (nI n) nFo qd nBe nEa nMi nHa nER nMR nTh_24 nPa_25 fr qu len (fun (r_29 : Int32) (nQd_30 : Int32) (nFr_31 : Nat → Int32) (nQu_32 : Nat → Int32) => K x4_27 r_29 nQd_30 nTh_24 nPa_25 nOu_26 nFr_31 nQu_32))) := by
  have hn := hT.2.1
  have hNK := hL.2.2.2
  obtain ⟨p, m, w1, w2, w3, w4, w5, w6, w7⟩ := hFW
  have hm : m < 2 * n := way_short w6 w1.2.1
  have hvb := v_bd hT hH hP hE hB hs
  obtain ⟨hK, hfr, hF, hG⟩ := id hH
  have hpf : ∀ o u, o < n → u < n → 0 < paI pa o u → Red (foC n tBe) u o := fun o u ho hu z => (hF.2.1 o u ho hu).2.1 (by omega)
  have Sz := tight_sol hK.1 hF.flow hP hG
  have w3' := w3
  rw [← w2] at w3'
  have wz := way_z Sz (fun u hu => ⟨(hP u hu).1, hLen u hu⟩) w1 w3'
  have hers := hT.ers
  refine wp_rw hn hNK hers (fun u hu => (hF.1 u hu).1) (by omega) w1.2.1 w4 w5 w2 (fun d hR => ?_)
  have hd : 0 < d.toInt := by
    rcases hR.2.2 with z | ⟨i, z1, z2⟩
    · omega
    · rw [z2]; exact room_pos hK hfr hpf (w1.2.2 i z1)
  have hd2 := push_fin hK hfr hF (by omega) (fun u hu => ⟨(hers u hu).2.1, (hers u hu).2.2.2⟩) w1 w2 w3' hR (E := B) (sh := sh) (fun u hu => ⟨(hE u hu).1, hB.2.1 u hu, fun o ho => (hE u hu).2.1 o ho.1⟩) hs
  refine wp_fa hn (by omega) w6 (fun i hi => arc_step hfr hpf (w1.2.2 i hi)) (w1.2.1 0 (Nat.zero_le _)) w4 w5 ht w2 ⟨by omega, by omega⟩ (fun u hu => ⟨(hF.1 u hu).1, by have := (hF.1 u hu).2.2.2.2.1; omega⟩) (fun o u ho hu => ⟨(hF.2.1 o u ho hu).1, by have := (hF.2.1 o u ho hu).2.2; omega⟩) ⟨(hF.1 t ht).2.1, by have := (hF.1 t ht).2.2.2.2.2; omega⟩ (fun th' pa' ou' hM hou x ex => ?_)
  have ex' : x.toInt = s.toInt + d.toInt := by rw [ex, i_add (by omega) (by omega)]
  have H1 := push_one hH w6 wz.1 w2 wz.2 hR hM
  have H2 := H1.2.congr (ou' := iT ou') hou
  have S' := push_sol hK hfr hF w6 w1 hR hd hM hS
  have W := push_W hK hfr hF w6 w1 hR hd hM hd2
  have ew : (fun u v => 0 < WA n (iT tEa) (mdT tKi tEa tHa tEx) (iT tHa) (erT tKi tEa tHa tPr tEx) (s2T tKi tEa tHa tEx tSt) (iT th) (Red (foC n tBe)) (paI pa) (iT f1) (iT f2) u v) = (ArcC n (iT tEa) (mdT tKi tEa tHa tEx) (iT tHa) (erT tKi tEa tHa tPr tEx) (s2T tKi tEa tHa tEx tSt) tBe th pa f1 f2) := funext (fun u => funext (fun v => propext WA_pos))
  obtain ⟨r', hr', hPot'⟩ := potW_step (W' := (WA n (iT tEa) (mdT tKi tEa tHa tEx) (iT tHa) (erT tKi tEa tHa tPr tEx) (s2T tKi tEa tHa tEx tSt) (iT th') (Red (foC n tBe)) (paI pa') (iT f1) (iT f2))) (fun u v => WA_le2 u v) hPot (p := p) (m := m) (by rw [ew]; exact w1) w3' (by omega) (by rw [ew]; exact w7) W.1 W.2
  refine fw_any hT hL hf (fun y qd fr qu hy => hKK r' x y qd th' pa' ou' fr qu hr' ?_ S' (by omega) hPot' hy)
  unfold PushC
  rw [show v0 + x.toInt = v0 + s.toInt + d.toInt by omega]
  exact H2
theorem push_loop (hT : TB n (nI n) tKi tEa tHa tPr tEx tSt tBe) (hL : Laid n tKi tEa tHa tPr tEx tSt tBe nFo nRo nBe nEa nMi nHa nER nMR) {f1 f2 : Nat → Int32} {len : Int32} (hf : ∀ t, t < n → 0 ≤ iT f1 t ∧ iT f1 t ≤ 1000) {bz fz : Nat → Int} (hP : Pl n (iT tEa) (iT tHa) (Red (foC n tBe)) bz fz) (hLen : Len n len.toInt fz) {B : Nat → Int} {sh : Int} (hE : Early n (foC n tBe) (iT tHa) B) (hB : LenOf n (iT tHa) B sh) (hs : sh < len.toInt) {v0 : Int} (hv0 : 0 ≤ v0) {th0 pa0 : Nat → Int32}
    {Q : (Int32) → (Int32) → (Nat → Int32) → (Nat → Int32) → (Nat → Int32) → (Nat → Int32) → (Nat → Int32) → Prop}
    (hQ : ∀ (s qd : Int32) (th pa ou fr qu : Nat → Int32), 0 ≤ s.toInt → (s.toInt = 0 → th = th0 ∧ pa = pa0) → PushC n tKi tEa tHa tPr tEx tSt tBe th ou pa bz fz len.toInt (v0 + s.toInt) → SolT n (onT (iT tEa) (mdT tKi tEa tHa tEx) (iT tHa) (erT tKi tEa tHa tPr tEx) (s2T tKi tEa tHa tEx tSt) (iT th)) (offT (iT tEa) (mdT tKi tEa tHa tEx) (iT tHa) (erT tKi tEa tHa tPr tEx) (s2T tKi tEa tHa tEx tSt) (iT th)) (iT th) (Red (foC n tBe)) (paI pa) (iT f1) (iT f2) → (∃ R, NoWay (ArcC n (iT tEa) (mdT tKi tEa tHa tEx) (iT tHa) (erT tKi tEa tHa tPr tEx) (s2T tKi tEa tHa tEx tSt) tBe th pa f1 f2) (RootC n tBe f1) (TermN n (Red (foC n tBe)) (iT f2) len.toInt) R) → Q s qd th pa ou fr qu) :
    ∀ (R k r : Nat) (s x5 qd : Int32) (th pa ou fr qu : Nat → Int32), r ≤ R → k + r ≤ 30000 → PushC n tKi tEa tHa tPr tEx tSt tBe th ou pa bz fz len.toInt (v0 + s.toInt) → SolT n (onT (iT tEa) (mdT tKi tEa tHa tEx) (iT tHa) (erT tKi tEa tHa tPr tEx) (s2T tKi tEa tHa tEx tSt) (iT th)) (offT (iT tEa) (mdT tKi tEa tHa tEx) (iT tHa) (erT tKi tEa tHa tPr tEx) (s2T tKi tEa tHa tEx tSt) (iT th)) (iT th) (Red (foC n tBe)) (paI pa) (iT f1) (iT f2) → (0 ≤ s.toInt ∧ (s.toInt = 0 → th = th0 ∧ pa = pa0)) → PotW (2 * n) (WA n (iT tEa) (mdT tKi tEa tHa tEx) (iT tHa) (erT tKi tEa tHa tPr tEx) (s2T tKi tEa tHa tEx tSt) (iT th) (Red (foC n tBe)) (paI pa) (iT f1) (iT f2)) (RootC n tBe f1) (TermN n (Red (foC n tBe)) (iT f2) len.toInt) r → ((∃ t, t < n ∧ x5 = nI t ∧ (∃ p m, FoundW n (ArcC n (iT tEa) (mdT tKi tEa tHa tEx) (iT tHa) (erT tKi tEa tHa tPr tEx) (s2T tKi tEa tHa tEx tSt) tBe th pa f1 f2) (RootC n tBe f1) (TermN n (Red (foC n tBe)) (iT f2) len.toInt) fr (2 * t + 1) p m)) ∨ (x5 = -1 ∧ (∃ R, NoWay (ArcC n (iT tEa) (mdT tKi tEa tHa tEx) (iT tHa) (erT tKi tEa tHa tPr tEx) (s2T tKi tEa tHa tEx tSt) tBe th pa f1 f2) (RootC n tBe f1) (TermN n (Red (foC n tBe)) (iT f2) len.toInt) R))) →
      wp_X4_push_L15 len f1 f2 nBe (nI n) nER nEa nFo nHa nMR nMi Q (R + 1) s x5 (nI k) qd th pa ou fr qu := by
  have hn := hT.2.1
  have neg1 : (-1 : Int32) < 0 := by decide
  intro R
  induction R with
  | zero =>
    intro k r s x5 qd th pa ou fr qu hr hk hH hS hs0 hPot hx
    rw [wp_X4_push_L15]
    refine pk_le 100000 k (fun q => absurd q (by omega)) (fun _ => ?_)
    rcases hx with ⟨t, ht, e5, hFW⟩ | ⟨e5, hR⟩
    · rw [e5]
      refine ⟨fun q => absurd q (nI_pos (by omega)), fun _ => ?_⟩
      exact push_body hT hL hf hP hLen hE hB hs hv0 hH hS hs0.1 hPot ht hFW (K := fun s x qd th pa ou fr qu => ∀ x6_33 : Int32, x6_33 = nI k + 1 → wp_X4_push_L15 len f1 f2 nBe (nI n) nER nEa nFo nHa nMR nMi Q 0 s x x6_33 qd th pa ou fr qu) (fun r' _ _ _ _ _ _ _ _ h1 _ _ _ _ _ => absurd h1 (by omega))
    · rw [e5]
      exact ⟨fun _ => hQ s qd th pa ou fr qu hs0.1 hs0.2 hH hS hR, fun q => absurd neg1 q⟩
  | succ R ih =>
    intro k r s x5 qd th pa ou fr qu hr hk hH hS hs0 hPot hx
    rw [wp_X4_push_L15]
    refine pk_le 100000 k (fun q => absurd q (by omega)) (fun _ => ?_)
    rcases hx with ⟨t, ht, e5, hFW⟩ | ⟨e5, hR⟩
    · rw [e5]
      refine ⟨fun q => absurd q (nI_pos (by omega)), fun _ => ?_⟩
      refine push_body hT hL hf hP hLen hE hB hs hv0 hH hS hs0.1 hPot ht hFW (K := fun s x qd th pa ou fr qu => ∀ x6_33 : Int32, x6_33 = nI k + 1 → wp_X4_push_L15 len f1 f2 nBe (nI n) nER nEa nFo nHa nMR nMi Q (R + 1) s x x6_33 qd th pa ou fr qu) (fun r' s x qd th pa ou fr qu h1 h2 h3 h4 h5 h6 y ey => ?_)
      rw [ey, nI_1]
      exact ih (k + 1) r' s x qd th pa ou fr qu (by omega) (by omega) h2 h3 ⟨by omega, fun q => absurd q (by omega)⟩ h5 h6
    · rw [e5]
      exact ⟨fun _ => hQ s qd th pa ou fr qu hs0.1 hs0.2 hH hS hR, fun q => absurd neg1 q⟩
/-- all pushes at a length above the shortest -/
theorem wp_cpush (hT : TB n (nI n) tKi tEa tHa tPr tEx tSt tBe) (hL : Laid n tKi tEa tHa tPr tEx tSt tBe nFo nRo nBe nEa nMi nHa nER nMR) {f1 f2 : Nat → Int32} {len : Int32} (hf : ∀ t, t < n → 0 ≤ iT f1 t ∧ iT f1 t ≤ 1000) {bz fz : Nat → Int} (hP : Pl n (iT tEa) (iT tHa) (Red (foC n tBe)) bz fz) (hLen : Len n len.toInt fz) {B : Nat → Int} {sh : Int} (hE : Early n (foC n tBe) (iT tHa) B) (hB : LenOf n (iT tHa) B sh) (hs : sh < len.toInt) {v0 : Int} (hv0 : 0 ≤ v0) {th0 pa0 ou fr qu : Nat → Int32} {qd : Int32}
    (hH : PushC n tKi tEa tHa tPr tEx tSt tBe th0 ou pa0 bz fz len.toInt v0) (hS : SolT n (onT (iT tEa) (mdT tKi tEa tHa tEx) (iT tHa) (erT tKi tEa tHa tPr tEx) (s2T tKi tEa tHa tEx tSt) (iT th0)) (offT (iT tEa) (mdT tKi tEa tHa tEx) (iT tHa) (erT tKi tEa tHa tPr tEx) (s2T tKi tEa tHa tEx tSt) (iT th0)) (iT th0) (Red (foC n tBe)) (paI pa0) (iT f1) (iT f2))
    {Q : (Int32) → (Int32) → (Nat → Int32) → (Nat → Int32) → (Nat → Int32) → (Nat → Int32) → (Nat → Int32) → Prop}
    (hQ : ∀ (s qd : Int32) (th pa ou fr qu : Nat → Int32), 0 ≤ s.toInt → (s.toInt = 0 → th = th0 ∧ pa = pa0) → PushC n tKi tEa tHa tPr tEx tSt tBe th ou pa bz fz len.toInt (v0 + s.toInt) → SolT n (onT (iT tEa) (mdT tKi tEa tHa tEx) (iT tHa) (erT tKi tEa tHa tPr tEx) (s2T tKi tEa tHa tEx tSt) (iT th)) (offT (iT tEa) (mdT tKi tEa tHa tEx) (iT tHa) (erT tKi tEa tHa tPr tEx) (s2T tKi tEa tHa tEx tSt) (iT th)) (iT th) (Red (foC n tBe)) (paI pa) (iT f1) (iT f2) → (∃ R, NoWay (ArcC n (iT tEa) (mdT tKi tEa tHa tEx) (iT tHa) (erT tKi tEa tHa tPr tEx) (s2T tKi tEa tHa tEx tSt) tBe th pa f1 f2) (RootC n tBe f1) (TermN n (Red (foC n tBe)) (iT f2) len.toInt) R) → Q s qd th pa ou fr qu) : wp_X4_push f1 f2 (nI n) nFo qd nBe nEa nMi nHa nER nMR th0 pa0 ou fr qu len Q := by
  have hn := hT.2.1
  refine fw_any hT hL hf (fun x qd fr qu hx => ⟨28825, ?_⟩)
  have hb : 2 * n * (2 * (2 * n * (2 * n)) + 1) + 2 * (2 * n * (2 * n)) ≤ 28824 := by
    have h1 : 2 * n * (2 * n) ≤ 24 * 24 := Nat.mul_le_mul (by omega) (by omega)
    have h2 : 2 * n * (2 * (2 * n * (2 * n)) + 1) ≤ 24 * (2 * (24 * 24) + 1) := Nat.mul_le_mul (by omega) (by omega)
    omega
  have key := push_loop hT hL hf hP hLen hE hB hs hv0 hQ 28824 0 _ 0 x qd th0 pa0 ou fr qu hb (by omega) (by
    show PushC n tKi tEa tHa tPr tEx tSt tBe th0 ou pa0 bz fz len.toInt (v0 + 0)
    rw [Int.add_zero]; exact hH) hS ⟨by decide, fun _ => ⟨rfl, rfl⟩⟩ (potW_start (fun u v => WA_le2 u v) _ _) hx
  rw [nI_0] at key
  exact key
end CPUSHES
