/-! cuts of a net of rooms, and what a push along a way changes -/
def bI (b : Bool) : Int := if b then 1 else 0
theorem bI_t : bI true = 1 := rfl
theorem bI_f : bI false = 0 := rfl
theorem sT_zero : ∀ n : Nat, sT (fun _ => 0) n = 0
  | 0 => rfl
  | n + 1 => by rw [sT, sT_zero n]; rfl
theorem sT_nonneg {f : Nat → Int} {n : Nat} (h : ∀ k, k < n → 0 ≤ f k) : 0 ≤ sT f n := by
  have := sT_le (f := fun _ => 0) (g := f) (n := n) h
  rw [sT_zero] at this
  exact this
theorem sT_part {f : Nat → Int} : ∀ {n : Nat}, (∀ k, k < n → 0 ≤ f k) → ∀ {i : Nat}, i < n → f i ≤ sT f n
  | 0, _, i, hi => absurd hi (by omega)
  | n + 1, h, i, hi => by
    rw [sT]
    have h0 := sT_nonneg (f := f) (n := n) (fun k hk => h k (by omega))
    have hn := h n (by omega)
    rcases Nat.lt_or_ge i n with q | q
    · have := sT_part (n := n) (fun k hk => h k (by omega)) q
      omega
    · rw [show i = n by omega]; omega
/-- one summand more -/
theorem sT_one (f : Nat → Int) (i : Nat) (d : Int) : ∀ n : Nat, sT (fun k => f k + (if k = i then d else 0)) n = sT f n + (if i < n then d else 0)
  | 0 => by simp [sT]
  | n + 1 => by
    rw [sT, sT, sT_one f i d n]
    rcases Nat.lt_trichotomy i n with q | q | q
    · rw [if_pos q, if_neg (by omega), if_pos (by omega)]; omega
    · subst q; rw [if_neg (by omega), if_pos rfl, if_pos (by omega)]; omega
    · rw [if_neg (by omega), if_neg (by omega), if_neg (by omega)]; omega
/-- what goes out of a set -/
def cutv (r : Nat → Nat → Int) (N : Nat) (Y : Nat → Bool) : Int := sT (fun a => sT (fun c => if Y a && !Y c then r a c else 0) N) N
/-- the room of one pair changes -/
def addE (r : Nat → Nat → Int) (u v : Nat) (d : Int) : Nat → Nat → Int := fun a c => r a c + (if a = u ∧ c = v then d else 0)
theorem cutv_addE {r : Nat → Nat → Int} {N u v : Nat} {d : Int} {Y : Nat → Bool} (hu : u < N) (hv : v < N) : cutv (addE r u v d) N Y = cutv r N Y + (if Y u && !Y v then d else 0) := by
  have h1 : ∀ a, sT (fun c => if Y a && !Y c then addE r u v d a c else 0) N = sT (fun c => if Y a && !Y c then r a c else 0) N + (if a = u then (if Y u && !Y v then d else 0) else 0) := by
    intro a
    by_cases ha : a = u
    · subst ha
      have e : ∀ c, c < N → (if Y a && !Y c then addE r a v d a c else 0) = (if Y a && !Y c then r a c else 0) + (if c = v then (if Y a && !Y v then d else 0) else 0) := by
        intro c _
        by_cases hc : c = v
        · subst hc
          simp only [addE, and_self, if_true]
          split <;> simp
        · simp only [addE, hc, and_false, if_false]
          simp
      rw [sT_congr e, sT_one, if_pos hv, if_pos rfl]
    · rw [if_neg ha]
      have e : ∀ c, c < N → (if Y a && !Y c then addE r u v d a c else 0) = (if Y a && !Y c then r a c else 0) := by
        intro c _
        simp only [addE, ha, false_and, if_false]
        simp
      rw [sT_congr e]; simp
  unfold cutv
  rw [sT_congr (fun a _ => h1 a), sT_one, if_pos hu]
/-- d goes from u to v -/
def pushE (r : Nat → Nat → Int) (u v : Nat) (d : Int) : Nat → Nat → Int := addE (addE r u v (-d)) v u d
theorem cutv_push {r : Nat → Nat → Int} {N u v : Nat} {d : Int} {Y : Nat → Bool} (hu : u < N) (hv : v < N) : cutv (pushE r u v d) N Y = cutv r N Y + d * (bI (Y v) - bI (Y u)) := by
  unfold pushE
  rw [cutv_addE hv hu, cutv_addE hu hv]
  cases Y u <;> cases Y v <;> simp [bI] <;> omega
theorem cutv_nonneg {r : Nat → Nat → Int} {N : Nat} {Y : Nat → Bool} (h : ∀ a c, a < N → c < N → 0 ≤ r a c) : 0 ≤ cutv r N Y := by
  refine sT_nonneg (fun a ha => sT_nonneg (fun c hc => ?_))
  have := h a c ha hc
  split <;> omega
/-- a room that leaves a set is in its cut -/
theorem cutv_ge {r : Nat → Nat → Int} {N : Nat} {Y : Nat → Bool} (h : ∀ a c, a < N → c < N → 0 ≤ r a c) {u v : Nat} (hu : u < N) (hv : v < N) (h1 : Y u = true) (h2 : Y v = false) : r u v ≤ cutv r N Y := by
  have hin : ∀ a, a < N → ∀ c, c < N → 0 ≤ (if Y a && !Y c then r a c else 0) := fun a ha c hc => by
    have := h a c ha hc
    split <;> omega
  have g1 := sT_part (n := N) (hin u hu) hv
  have g2 := sT_part (f := fun a => sT (fun c => if Y a && !Y c then r a c else 0) N) (n := N) (fun a ha => sT_nonneg (hin a ha)) hu
  have e : (if Y u && !Y v then r u v else 0) = r u v := by simp [h1, h2]
  rw [e] at g1
  exact Int.le_trans g1 g2
theorem cutv_zero {r : Nat → Nat → Int} {N : Nat} {Y : Nat → Bool} (h : ∀ a c, a < N → c < N → Y a = true → Y c = false → r a c = 0) : cutv r N Y = 0 := by
  have e : ∀ a, a < N → sT (fun c => if Y a && !Y c then r a c else 0) N = 0 := by
    intro a ha
    have e2 : ∀ c, c < N → (if Y a && !Y c then r a c else 0) = 0 := by
      intro c hc
      cases h1 : Y a <;> cases h2 : Y c <;> simp
      exact h a c ha hc h1 h2
    rw [sT_congr e2, sT_zero]
  unfold cutv
  rw [sT_congr e, sT_zero]
/-- what a search found: the least of the least cuts -/
theorem min_cut {r0 r : Nat → Nat → Int} {N s t : Nat} {F : Int} {R : Nat → Bool} (hr : ∀ a c, a < N → c < N → 0 ≤ r a c) (hF : ∀ Y : Nat → Bool, Y s = true → Y t = false → cutv r N Y = cutv r0 N Y - F) (hs : R s = true) (ht : R t = false)
    (hR : ∀ a c, a < N → c < N → R a = true → R c = false → r a c = 0) (rk : Nat → Nat) (fr : Nat → Nat) (hw : ∀ c, c < N → R c = true → c ≠ s → fr c < N ∧ R (fr c) = true ∧ rk (fr c) < rk c ∧ r (fr c) c ≠ 0) :
    (∀ Y : Nat → Bool, Y s = true → Y t = false → cutv r0 N R ≤ cutv r0 N Y) ∧ ∀ Y : Nat → Bool, Y s = true → Y t = false → cutv r0 N Y ≤ cutv r0 N R → ∀ c, c < N → R c = true → Y c = true := by
  have h0 := cutv_zero hR
  have hRF := hF R hs ht
  refine ⟨fun Y h1 h2 => ?_, fun Y h1 h2 h3 => ?_⟩
  · have a := cutv_nonneg (Y := Y) hr
    have b := hF Y h1 h2
    omega
  · have b := hF Y h1 h2
    have key : ∀ (k c : Nat), rk c ≤ k → c < N → R c = true → Y c = true := by
      intro k
      induction k with
      | zero =>
        intro c hk hc hRc
        by_cases hcs : c = s
        · rw [hcs]; exact h1
        · have := (hw c hc hRc hcs).2.2.1
          omega
      | succ k ih =>
        intro c hk hc hRc
        by_cases hcs : c = s
        · rw [hcs]; exact h1
        · obtain ⟨g1, g2, g3, g4⟩ := hw c hc hRc hcs
          have hy := ih (fr c) (by omega) g1 g2
          cases hyc : Y c with
          | true => rfl
          | false =>
            exfalso
            have g5 := cutv_ge hr g1 hc hy hyc
            have g6 := hr (fr c) c g1 hc
            omega
    exact fun c hc hRc => key (rk c) c (Nat.le_refl _) hc hRc
