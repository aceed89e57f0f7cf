/-! the plans of a flow -/
def onT (e md h er s2 th : Nat → Int) (t : Nat) : Int := sOn (e t) (md t) (h t) (er t) (er t + s2 t) (th t)
def offT (e md h er s2 th : Nat → Int) (t : Nat) : Int := sOff (e t) (md t) (h t) (er t) (er t + s2 t) (th t)
def mnT (c : Nat → Int → Int) (e md h er s2 th : Nat → Int) (t : Nat) : Int := c t (onT e md h er s2 th t) + th t * onT e md h er s2 th t
section PLANOF
variable {n : Nat} {e md h er s2 th ou inn : Nat → Int} {c : Nat → Int → Int} {fr : Nat → Nat → Prop} {pa : Nat → Nat → Int} {T : Int} {b f : Nat → Int}
theorem least_T (H : ∀ t, t < n → TwoSl (c t) (e t) (md t) (h t) (er t) (s2 t)) (F : Flow n fr th ou inn pa) : Least n e h c th (mnT c e md h er s2 th) := by
  intro t ht x h1 h2
  exact (two_on (H t ht) (F.1 t ht).1 h1 h2).1
theorem tight_sol (H : ∀ t, t < n → TwoSl (c t) (e t) (md t) (h t) (er t) (s2 t)) (F : Flow n fr th ou inn pa) (P : Pl n e h fr b f) (G : Tight n c T th ou inn (mnT c e md h er s2 th) pa b f) : SolT n (onT e md h er s2 th) (offT e md h er s2 th) th fr pa b f := by
  intro t ht
  obtain ⟨a1, a2, a3, a4⟩ := P t ht
  have g := (two_on (H t ht) (F.1 t ht).1 a2 a3).2 (G.1 t ht).1
  have g1 : onT e md h er s2 th t ≤ f t - b t := g.1
  refine ⟨by omega, fun q => ?_, fun o ho => ⟨fun q => a4 o ho q, fun q => ?_⟩⟩
  · have g2 : f t - b t ≤ offT e md h er s2 th t := g.2 q
    omega
  · have := G.2 o t ho ht (by omega)
    omega
theorem sT_zero_all {g : Nat → Int} {m : Nat} (h1 : ∀ k, k < m → 0 ≤ g k) (h2 : sT g m ≤ 0) : ∀ k, k < m → g k = 0 := by
  intro k hk
  have := sT_part (n := m) h1 hk
  have := h1 k hk
  omega
/-- a task without flow passes none on -/
theorem Flow.none (F : Flow n fr th ou inn pa) {t : Nat} (ht : t < n) (h0 : ¬ 0 < th t) : ou t = 0 ∧ ∀ u, u < n → pa t u = 0 := by
  obtain ⟨a1, a2, a3, a4, a5⟩ := F.1 t ht
  have hp : ∀ u, u < n → 0 ≤ pa t u := fun u hu => (F.2 t u ht hu).1
  have := sT_nonneg (f := fun u => pa t u) hp
  exact ⟨by omega, sT_zero_all (g := fun u => pa t u) hp (by omega)⟩
theorem plan_of (H : ∀ t, t < n → TwoSl (c t) (e t) (md t) (h t) (er t) (s2 t)) (hh : ∀ t, t < n → 0 ≤ h t) (F : Flow n fr th ou inn pa) {bz fz b0 f0 bE fE : Nat → Int} {T1 FAR : Int}
    (Pz : Pl n e h fr bz fz) (Lz : Len n T1 fz) (Gz : Tight n c T1 th ou inn (mnT c e md h er s2 th) pa bz fz)
    (Y0 : LeaT n (onT e md h er s2 th) (offT e md h er s2 th) th fr pa (fun _ => 0) (fun _ => 0) b0 f0)
    (YE : LeaT n (onT e md h er s2 th) (offT e md h er s2 th) th fr pa (fun _ => FAR) (fun t => if 0 < ou t then 0 else FAR) bE fE)
    (hlen : ∀ t, t < n → f0 t ≤ T) (hT1 : T ≤ T1) (hF : FAR ≤ -T1) (hT : 0 ≤ T) :
    ThePlan n e h c fr T (fun t => max (b0 t) (T + bE t)) (fun t => max (f0 t) (T + fE t)) ∧ Cost n c (fun t => max (b0 t) (T + bE t)) (fun t => max (f0 t) (T + fE t)) = sT (mnT c e md h er s2 th) n - sT ou n * T  ∧ Tight n c T th ou inn (mnT c e md h er s2 th) pa (fun t => max (b0 t) (T + bE t)) (fun t => max (f0 t) (T + fE t)) := by
  have L := least_T H F
  have Sz := tight_sol H F Pz Gz
  have Gz0 : GeB n (fun _ => 0) (fun _ => 0) bz fz := fun t ht => by
    have := Pz t ht
    have := hh t ht
    dsimp only
    omega
  have le0 := Y0.2.2 bz fz Sz Gz0
  have leE := YE.2.2 _ _ (Sz.shift (-T1)) (fun t ht => by
    have p := Pz t ht
    have q := hh t ht
    dsimp only
    refine ⟨by omega, ?_⟩
    by_cases ho : 0 < ou t
    · rw [if_pos ho, (Gz.1 t ht).2.1 (by omega)]; omega
    · rw [if_neg ho]; omega)
  have hon : ∀ t, t < n → h t ≤ onT e md h er s2 th t ∧ onT e md h er s2 th t ≤ e t := fun t ht => sOn_in (H t ht).1 (H t ht).2.1
  have hoff : ∀ t, t < n → h t ≤ offT e md h er s2 th t ∧ offT e md h er s2 th t ≤ e t := fun t ht => sOff_in (H t ht).1 (H t ht).2.1
  have S := Y0.1.sup (YE.1.shift T)
  have fr0 : ∀ t, t < n → ¬ 0 < th t → max (f0 t) (T + fE t) = max (b0 t) (T + bE t) + onT e md h er s2 th t := by
    intro t ht h0
    have hn := F.none ht h0
    have p1 := Y0.free ht h0 (fun u hu => by rw [hn.2 u hu]; omega) (by have := (Y0.2.1 t ht).1; have := hon t ht; have := hh t ht; dsimp only at *; omega)
    have p2 := YE.free ht h0 (fun u hu => by rw [hn.2 u hu]; omega) (by
      have := (YE.2.1 t ht).1
      have := hon t ht
      have := hh t ht
      dsimp only at *
      rw [if_neg (by rw [hn.1]; omega)]
      omega)
    omega
  have hP : Pl n e h fr (fun t => max (b0 t) (T + bE t)) (fun t => max (f0 t) (T + fE t)) := by
    intro t ht
    obtain ⟨s1, s2', s3⟩ := S t ht
    have g0 := (Y0.2.1 t ht).1
    have g1 := hon t ht
    have g2 := hoff t ht
    have g3 := fr0 t ht
    dsimp only at *
    refine ⟨by omega, by omega, ?_, fun o ho q => (s3 o ho).1 q⟩
    by_cases h0 : 0 < th t
    · have := s2' h0; omega
    · have := g3 h0; omega
  have hLen : Len n T (fun t => max (f0 t) (T + fE t)) := fun t ht => by
    have h1 := hlen t ht
    have h2 := (leE t ht).2
    have h3 := Lz t ht
    show max (f0 t) (T + fE t) ≤ T
    omega
  have hG : Tight n c T th ou inn (mnT c e md h er s2 th) pa (fun t => max (b0 t) (T + bE t)) (fun t => max (f0 t) (T + fE t)) := by
    refine ⟨fun t ht => ⟨?_, fun q => ?_, fun q => ?_⟩, fun o t ho ht q => ?_⟩
    · obtain ⟨s1, s2', s3⟩ := S t ht
      have g3 := fr0 t ht
      dsimp only at *
      by_cases h0 : 0 < th t
      · have := s2' h0
        exact two_eq (H t ht) h0 (by show onT e md h er s2 th t ≤ _; omega) (by show _ ≤ offT e md h er s2 th t; omega)
      · have := g3 h0
        rw [show max (f0 t) (T + fE t) - max (b0 t) (T + bE t) = onT e md h er s2 th t by omega]
        rfl
    · have h1 := hLen t ht
      have h2 := (YE.2.1 t ht).2
      have h3 := (F.1 t ht).2.1
      dsimp only at *
      rw [if_pos (by omega)] at h2
      omega
    · have h1 := (Gz.1 t ht).2.2 q
      have h2 := (le0 t ht).1
      have h3 := (leE t ht).1
      have h4 := (Y0.2.1 t ht).1
      dsimp only at *
      omega
    · have h1 := (F.2 o t ho ht)
      have s := (S t ht).2.2 o ho
      have k1 := s.1 (h1.2 q)
      have k2 := s.2 (by have := h1.1; omega)
      dsimp only at *
      omega
  have hO := tight_opt F L hP hLen hG
  refine ⟨⟨hO, fun b' f' O' => ?_⟩, tight_cost F hG, hG⟩
  have G' := opt_tight F L hP hLen hG O'
  have S' := tight_sol H F O'.1 G'
  have k0 := Y0.2.2 b' f' S' (fun t ht => by
    have := O'.1 t ht
    have := hh t ht
    dsimp only
    omega)
  have kE := YE.2.2 _ _ (S'.shift (-T)) (fun t ht => by
    have p := O'.1 t ht
    have q := hh t ht
    dsimp only
    refine ⟨by omega, ?_⟩
    by_cases ho : 0 < ou t
    · rw [if_pos ho, (G'.1 t ht).2.1 (by omega)]; omega
    · rw [if_neg ho]; omega)
  intro t ht
  have k1 := k0 t ht
  have k2 := kE t ht
  dsimp only at *
  omega
/-- without any flow: the least moments are THE PLAN of every length that holds them -/
theorem plan_zero (H : ∀ t, t < n → TwoSl (c t) (e t) (md t) (h t) (er t) (s2 t)) (hh : ∀ t, t < n → 0 ≤ h t) {b0 f0 : Nat → Int}
    (Y0 : LeaT n (onT e md h er s2 (fun _ => 0)) (offT e md h er s2 (fun _ => 0)) (fun _ => 0) fr (fun _ _ => 0) (fun _ => 0) (fun _ => 0) b0 f0) (hlen : ∀ t, t < n → f0 t ≤ T) :
    ThePlan n e h c fr T b0 f0 ∧ Cost n c b0 f0 = sT (mnT c e md h er s2 (fun _ => 0)) n ∧ Flow n fr (fun _ => 0) (fun _ => 0) (fun _ => 0) (fun _ _ => 0) ∧ Tight n c T (fun _ => 0) (fun _ => 0) (fun _ => 0) (mnT c e md h er s2 (fun _ => 0)) (fun _ _ => 0) b0 f0 ∧ ∀ t, t < n → f0 t - b0 t = onT e md h er s2 (fun _ => 0) t := by
  have F : Flow n fr (fun _ => 0) (fun _ => 0) (fun _ => 0) (fun _ _ => 0) := ⟨fun t ht => ⟨by simp, by simp, by simp, by simp [sT_zero], by simp [sT_zero]⟩, fun o t _ _ => ⟨by simp, fun q => absurd rfl q⟩⟩
  have L := least_T H F
  have hon : ∀ t, t < n → h t ≤ onT e md h er s2 (fun _ => 0) t ∧ onT e md h er s2 (fun _ => 0) t ≤ e t := fun t ht => sOn_in (H t ht).1 (H t ht).2.1
  have hx : ∀ t, t < n → f0 t - b0 t = onT e md h er s2 (fun _ => 0) t := fun t ht => by
    have := Y0.free ht (by omega) (fun u hu => by omega) (by have := (Y0.2.1 t ht).1; have := hon t ht; have := hh t ht; dsimp only at *; omega)
    omega
  have hP : Pl n e h fr b0 f0 := by
    intro t ht
    have g0 := (Y0.2.1 t ht).1
    have g1 := hon t ht
    have g2 := hx t ht
    dsimp only at *
    exact ⟨g0, by omega, by omega, fun o ho q => ((Y0.1 t ht).2.2 o ho).1 q⟩
  have hG : Tight n c T (fun _ => 0) (fun _ => 0) (fun _ => 0) (mnT c e md h er s2 (fun _ => 0)) (fun _ _ => 0) b0 f0 := by
    refine ⟨fun t ht => ⟨?_, fun q => absurd rfl q, fun q => absurd rfl q⟩, fun o t ho ht q => absurd rfl q⟩
    rw [hx t ht]; rfl
  have hO := tight_opt F L hP hlen hG
  refine ⟨⟨hO, fun b' f' O' => ?_⟩, ?_, F, hG, hx⟩
  · have G' := opt_tight F L hP hlen hG O'
    have S' := tight_sol H F O'.1 G'
    exact Y0.2.2 b' f' S' (fun t ht => by
      have := O'.1 t ht
      have := hh t ht
      dsimp only
      omega)
  · have := tight_cost F hG
    rw [sT_zero, Int.zero_mul, Int.sub_zero] at this
    exact this
end PLANOF
