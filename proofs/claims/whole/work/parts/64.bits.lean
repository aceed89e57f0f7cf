/-! bits of ints (the first rows are the kit's, given for pasting), and books as the class holds them -/
def bt (x : Int32) (i : Nat) : Bool := x.toBitVec.getLsbD i
theorem b_ext {x y : Int32} (h : ∀ i, i < 32 → bt x i = bt y i) : x = y := Int32.toBitVec_inj.mp (BitVec.eq_of_getLsbD_eq (fun i hi => h i hi))
theorem b_or (x y : Int32) (i : Nat) : bt (x ||| y) i = (bt x i || bt y i) := by unfold bt; rw [Int32.toBitVec_or, BitVec.getLsbD_or]
theorem b_and (x y : Int32) (i : Nat) : bt (x &&& y) i = (bt x i && bt y i) := by unfold bt; rw [Int32.toBitVec_and, BitVec.getLsbD_and]
theorem b_xor (x y : Int32) (i : Nat) : bt (x ^^^ y) i = (bt x i ^^ bt y i) := by unfold bt; rw [Int32.toBitVec_xor, BitVec.getLsbD_xor]
theorem b_big {x : Int32} {i : Nat} (h : 32 ≤ i) : bt x i = false := BitVec.getLsbD_of_ge _ _ h
theorem b_m1 : ∀ i, i < 32 → bt (-1) i = true := by decide +kernel
theorem b_0 (i : Nat) : bt 0 i = false := BitVec.getLsbD_zero
theorem b_1 : ∀ i, i < 32 → bt 1 i = decide (i = 0) := by decide +kernel
theorem s_l : ∀ n, n < 32 → ((nI n &&& 31).toBitVec.smod 32).toNat = n := by decide +kernel
theorem b_shl (n : Nat) (hn : n < 32) (x : Int32) {i : Nat} (hi : i < 32) : bt (x <<< (nI n &&& 31)) i = (decide (n ≤ i) && bt x (i - n)) := by
  unfold bt
  rw [Int32.toBitVec_shiftLeft]
  show (x.toBitVec <<< ((nI n &&& 31).toBitVec.smod 32).toNat).getLsbD i = _
  rw [s_l n hn, BitVec.getLsbD_shiftLeft]
  rcases Nat.lt_or_ge i n with h | h
  · simp [h, Nat.not_le.mpr h]
  · simp [hi, h, Nat.not_lt.mpr h]
theorem b_sshr (n : Nat) (hn : n < 32) (x : Int32) {i : Nat} (hi : i < 32) : bt (x >>> (nI n &&& 31)) i = if n + i < 32 then bt x (n + i) else bt x 31 := by
  unfold bt
  rw [Int32.toBitVec_shiftRight]
  show (x.toBitVec.sshiftRight ((nI n &&& 31).toBitVec.smod 32).toNat).getLsbD i = _
  rw [s_l n hn, BitVec.getLsbD_sshiftRight, BitVec.msb_eq_getLsbD_last]
  simp [hi]
/-- one bit, read -/
theorem b_get (x : Int32) {k : Nat} (hk : k < 32) : ((x >>> (nI k &&& 31)) &&& 1) = if bt x k then 1 else 0 := by
  apply b_ext
  intro i hi
  rw [b_and, b_sshr k hk x hi, b_1 i hi]
  by_cases h0 : i = 0
  · subst h0
    rw [if_pos (by omega)]
    cases hb : bt x k
    · simp [hb, b_0]
    · simp [hb, b_1 0 (by omega)]
  · have e : bt (if bt x k then (1 : Int32) else 0) i = false := by
      split
      · rw [b_1 i hi]; simp [h0]
      · exact b_0 i
    rw [e]; simp [h0]
theorem b_get0 {x : Int32} {k : Nat} (hk : k < 32) : ((x >>> (nI k &&& 31)) &&& 1) = 0 ↔ bt x k = false := by
  rw [b_get x hk]
  cases bt x k <;> simp <;> decide
theorem b_get1 {x : Int32} {k : Nat} (hk : k < 32) : ((x >>> (nI k &&& 31)) &&& 1) = 1 ↔ bt x k = true := by
  rw [b_get x hk]
  cases bt x k <;> simp <;> decide
/-- one bit alone -/
theorem b_one {k : Nat} (hk : k < 32) (i : Nat) : bt (1 <<< (nI k &&& 31)) i = decide (i = k) := by
  rcases Nat.lt_or_ge i 32 with hi | hi
  · rw [b_shl k hk 1 hi]
    rcases Nat.lt_trichotomy i k with q | q | q
    · simp [show ¬ k ≤ i by omega, show ¬ i = k by omega]
    · subst q; simp [b_1 0 (by omega)]
    · rw [b_1 (i - k) (by omega)]; simp [show ¬ i - k = 0 by omega, show ¬ i = k by omega]
  · rw [b_big hi]; simp; omega
theorem b_set {x : Int32} {k : Nat} (hk : k < 32) (i : Nat) : bt (x ||| (1 <<< (nI k &&& 31))) i = (bt x i || decide (i = k)) := by rw [b_or, b_one hk]
theorem b_not {x : Int32} {i : Nat} (hi : i < 32) : bt (x ^^^ (-1)) i = !bt x i := by rw [b_xor, b_m1 i hi]; simp
theorem b_clr {x : Int32} {k : Nat} (hk : k < 32) {i : Nat} (hi : i < 32) : bt (x &&& ((1 <<< (nI k &&& 31)) ^^^ (-1))) i = (bt x i && !decide (i = k)) := by rw [b_and, b_not hi, b_one hk]
theorem b_sub {x y : Int32} : x &&& (y ^^^ (-1)) = 0 ↔ ∀ i, i < 32 → bt x i = true → bt y i = true := by
  constructor
  · intro h i hi hx
    have : bt (x &&& (y ^^^ (-1))) i = bt 0 i := congrArg (fun z => bt z i) h
    rw [b_and, b_not hi, b_0, hx] at this
    simpa using this
  · intro h
    apply b_ext
    intro i hi
    rw [b_and, b_not hi, b_0]
    cases hx : bt x i
    · rfl
    · rw [h i hi hx]; rfl
theorem b_nat {x : Int32} {n : Nat} (h : ∀ i, n ≤ i → bt x i = false) : x.toBitVec.toNat < 2 ^ n := Nat.lt_pow_two_of_testBit _ (fun i hi => h i hi)
theorem b_nI (x : Int32) : x = nI x.toBitVec.toNat := Int32.toBitVec_inj.mp (by show _ = BitVec.ofNat 32 _; simp)
theorem jb_all : ∀ a, a < 64 → ∀ b, b < 64 → jBits (nI (64 * a + b)) = nI (ctB (bt (nI (64 * a + b))) 12) := by decide +kernel
theorem jb_ct {x : Int32} (h : ∀ i, 12 ≤ i → bt x i = false) : jBits x = nI (ctB (bt x) 12) := by
  have h1 := b_nat h
  have h2 := jb_all (x.toBitVec.toNat / 64) (by omega) (x.toBitVec.toNat % 64) (by omega)
  rw [show 64 * (x.toBitVec.toNat / 64) + x.toBitVec.toNat % 64 = x.toBitVec.toNat by omega, ← b_nI x] at h2
  exact h2
theorem wp_hasBit {x : Int32} {k : Nat} (hk : k < 32) {Q : Int32 → Prop} (h : Q (if bt x k then 1 else 0)) : wp_X7_hasBit x (nI k) Q := by
  unfold wp_X7_hasBit
  rw [b_get0 hk]
  cases hb : bt x k
  · rw [hb] at h; exact ⟨fun _ => by simpa using h, fun q => absurd rfl q⟩
  · rw [hb] at h; exact ⟨fun q => absurd q (by decide), fun _ => by simpa using h⟩
/-- a bit as an if -/
theorem wp_bit {x : Int32} {k : Nat} (hk : k < 32) {A B : Prop} (h0 : bt x k = false → A) (h1 : bt x k = true → B) : wp_X7_hasBit x (nI k) (fun r => (r = 0 → A) ∧ (¬ r = 0 → B)) := by
  refine wp_hasBit hk ?_
  cases hb : bt x k
  · exact ⟨fun _ => h0 hb, fun q => absurd (by simp) q⟩
  · exact ⟨fun q => absurd q (by simp), fun _ => h1 hb⟩
theorem wp_bit' {x : Int32} {k : Nat} (hk : k < 32) {A B : Prop} (h0 : bt x k = false → A) (h1 : bt x k = true → B) : wp_X7_hasBit x (nI k) (fun r => (¬ r = 0 → B) ∧ (r = 0 → A)) := by
  refine wp_hasBit hk ?_
  cases hb : bt x k
  · exact ⟨fun q => absurd (by simp) q, fun _ => h0 hb⟩
  · exact ⟨fun _ => h1 hb, fun q => absurd q (by simp)⟩
/-- numbers of a task in their bounds -/
def NumOK (ki ea ha pr ex st : Int32) : Prop := 0 ≤ ki.toInt ∧ ki.toInt ≤ 4 ∧ 0 ≤ ha.toInt ∧ ha.toInt ≤ ea.toInt ∧ ea.toInt ≤ 60 ∧ 0 ≤ pr.toInt ∧ pr.toInt ≤ 100000 ∧ 0 ≤ ex.toInt ∧ ex.toInt ≤ 100000 ∧ 0 ≤ st.toInt ∧ st.toInt ≤ 100000
def foC (n : Nat) (be : Nat → Int32) (t o : Nat) : Prop := t < n ∧ o < n ∧ bt (be t) o = true
def Acy (fo : Nat → Nat → Prop) : Prop := ∃ rk : Nat → Nat, ∀ t o, fo t o → rk o < rk t
def BitsOK (n : Nat) (be : Nat → Int32) : Prop := ∀ t, t < n → ∀ o, bt (be t) o = true → o < n
/-- the tasks of the class -/
def TB (n : Nat) (tC : Int32) (tKi tEa tHa tPr tEx tSt tBe : Nat → Int32) : Prop := tC = nI n ∧ n ≤ 12 ∧ (∀ t, t < n → NumOK (tKi t) (tEa t) (tHa t) (tPr t) (tEx t) (tSt t)) ∧ BitsOK n tBe ∧ Acy (foC n tBe)
/-- the same tasks in the reference's book -/
def MB (n : Nat) (tKi tEa tHa tPr tEx tSt tBe : Nat → Int32) (pT : Int32) (pK pN pF : Nat → Int32) : Prop := pT = nI n ∧ (∀ t, t < n → pK t = tKi t ∧ pN (5 * t) = tEa t ∧ pN (5 * t + 1) = tHa t ∧ pN (5 * t + 2) = tPr t ∧ pN (5 * t + 3) = tEx t ∧ pN (5 * t + 4) = tSt t) ∧ (∀ t o, t < n → o < n → (pF (12 * t + o) = 0 ↔ bt (tBe t) o = false)) ∧ ∀ k, k < 144 → pF k = 0 ∨ pF k = 1
def iT (a : Nat → Int32) (t : Nat) : Int := (a t).toInt
def cT (tKi tEa tPr tEx tSt : Nat → Int32) (t : Nat) (x : Int) : Int := aCost (tKi t).toInt (tPr t).toInt (tEx t).toInt (tSt t).toInt (tEa t).toInt x
theorem foC_lt {n : Nat} {be : Nat → Int32} : ∀ t o, foC n be t o → t < n ∧ o < n := fun _ _ h => ⟨h.1, h.2.1⟩
/-- numbers by their places -/
theorem in_nI {k n : Nat} (h : k < n) (hn : n < 2 ^ 31) : vp_in (nI k) n := vp_in_nI h hn
theorem cl_nI {k : Nat} (h : k < 2 ^ 31) : Int32.toNatClampNeg (nI k) = k := nI_clamp h
theorem of_toInt {x : Int32} {k : Nat} (h : x.toInt = k) : x = nI k := by
  have h2 := x.toInt_lt
  exact Int32.toInt_inj.mp (by rw [h, nI_toInt (by omega)])
theorem upd_at (f : Nat → Int32) (k : Nat) (v : Int32) : upd f k v k = v := by simp [upd]
theorem upd_ne {f : Nat → Int32} {k j : Nat} {v : Int32} (h : j ≠ k) : upd f k v j = f j := by simp [upd, h]
theorem lit_nI (n : Nat) : (OfNat.ofNat n : Int32) = nI n := rfl
theorem lt_nI {a b : Nat} (ha : a < 2 ^ 31) (hb : b < 2 ^ 31) : nI a < nI b ↔ a < b := nI_ltI ha hb
theorem le_nI {a b : Nat} (ha : a < 2 ^ 31) (hb : b < 2 ^ 31) : nI a ≤ nI b ↔ a ≤ b := nI_leI ha hb
theorem ifs_max {a b : Int32} : (if a < b then b else a).toInt = max a.toInt b.toInt := by
  by_cases h : a < b
  · rw [if_pos h]; rw [i_lt] at h; omega
  · rw [if_neg h]; rw [i_lt] at h; omega
theorem ifs_min {a b : Int32} : (if a < b then a else b).toInt = min a.toInt b.toInt := by
  by_cases h : a < b
  · rw [if_pos h]; rw [i_lt] at h; omega
  · rw [if_neg h]; rw [i_lt] at h; omega
theorem ifl_min {a b : Int64} : (if a < b then a else b).toInt = min a.toInt b.toInt := by
  by_cases h : a < b
  · rw [if_pos h]; rw [l_lt] at h; omega
  · rw [if_neg h]; rw [l_lt] at h; omega
/-- comparing longs -/
theorem cmp_lt0 {a b : Int64} : lg_cmp a b < 0 ↔ a.toInt < b.toInt := by
  unfold lg_cmp
  by_cases h : a > b
  · rw [if_pos h]
    have h2 : b < a := h
    rw [l_lt] at h2
    constructor
    · intro q; exact absurd q (by decide)
    · intro q; omega
  · rw [if_neg h]
    have h2 : ¬ b < a := h
    rw [l_lt] at h2
    by_cases h3 : a = b
    · rw [if_pos h3, h3]
      constructor
      · intro q; exact absurd q (by decide)
      · intro q; omega
    · rw [if_neg h3]
      rw [l_eq] at h3
      exact ⟨fun _ => by omega, fun _ => by decide⟩
theorem cmp_gt0 {a b : Int64} : 0 < lg_cmp a b ↔ b.toInt < a.toInt := by
  unfold lg_cmp
  by_cases h : a > b
  · rw [if_pos h]
    have h2 : b < a := h
    rw [l_lt] at h2
    exact ⟨fun _ => h2, fun _ => by decide⟩
  · rw [if_neg h]
    have h2 : ¬ b < a := h
    rw [l_lt] at h2
    by_cases h3 : a = b
    · rw [if_pos h3]
      constructor
      · intro q; exact absurd q (by decide)
      · intro q; omega
    · rw [if_neg h3]
      constructor
      · intro q; exact absurd q (by decide)
      · intro q; omega
theorem i_nle {a b : Int32} : ¬ a ≤ b ↔ b.toInt < a.toInt := by rw [i_le]; omega
theorem i_nlt {a b : Int32} : ¬ a < b ↔ b.toInt ≤ a.toInt := by rw [i_lt]; omega
theorem cmp_le0 {a b : Int64} : lg_cmp a b ≤ 0 ↔ a.toInt ≤ b.toInt := by
  have h1 := cmp_gt0 (a := a) (b := b)
  rw [i_lt] at h1
  rw [i_le]
  have e0 : (0 : Int32).toInt = 0 := rfl
  omega
theorem cmp_ge0 {a b : Int64} : 0 ≤ lg_cmp a b ↔ b.toInt ≤ a.toInt := by
  have h1 := cmp_lt0 (a := a) (b := b)
  rw [i_lt] at h1
  rw [i_le]
  have e0 : (0 : Int32).toInt = 0 := rfl
  omega
theorem cmp_eq0 {a b : Int64} : lg_cmp a b = 0 ↔ a.toInt = b.toInt := by
  have h1 := cmp_le0 (a := a) (b := b)
  have h2 := cmp_ge0 (a := a) (b := b)
  rw [i_le] at h1 h2
  rw [i_eq]
  have e0 : (0 : Int32).toInt = 0 := rfl
  omega
theorem nar_b0 : vp_nar .boolean 0 = 0 := by decide +kernel
theorem nar_b1 : vp_nar .boolean 1 = 1 := by decide +kernel
theorem nar_b {x : Int32} (h : x = 0 ∨ x = 1) : vp_nar .boolean x = x := by
  rcases h with rfl | rfl
  · exact nar_b0
  · exact nar_b1
