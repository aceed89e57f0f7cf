/-! the class: asking the curve -/
section ASKC
variable {n : Nat} {tKi tEa tHa tPr tEx tSt tBe : Nat → Int32} {sh : Int} {cC : Int32} {eM : Nat} {eL : Nat → Int32} {eC eS : Nat → Int64} {eB eE eF eG : Nat → Nat → Int32}
theorem CurveOK.nz (H : CurveOK n tKi tEa tHa tPr tEx tSt tBe sh cC eM eL eC eS eB eE eF eG) : ¬ cC = 0 := by
  obtain ⟨k, h1, h2, h3, _⟩ := H
  rw [h1]
  intro q
  have := (nI_eq (a := k) (b := 0) (by omega) (by omega)).mp q
  omega
theorem TB.sp (hT : TB n (nI n) tKi tEa tHa tPr tEx tSt tBe) : SpOK n tHa := fun t ht => by
  have h1 : 0 ≤ (tHa t).toInt := hT.h0 t ht
  have h2 : (tHa t).toInt ≤ (tEa t).toInt ∧ (tEa t).toInt ≤ 60 := hT.he t ht
  omega
/-- how many bends are made anew -/
theorem rc_K (n : Nat) (tKi tEa tHa tPr tEx tSt tBe : Nat → Int32) (sh : Int) (cC : Int32) {eM : Nat} (hM : eM ≤ 721) : ∃ K, eM + K ≤ 721 ∧ (cC = 0 → eM + K = max eM (kS n tKi tEa tHa tPr tEx tSt tBe sh)) ∧ (¬ cC = 0 → K = 0) := by
  by_cases q : cC = 0
  · have := kS_le n tKi tEa tHa tPr tEx tSt tBe sh
    exact ⟨max eM (kS n tKi tEa tHa tPr tEx tSt tBe sh) - eM, by omega, fun _ => by omega, fun z => absurd q z⟩
  · exact ⟨0, by omega, fun z => absurd z q, fun _ => rfl⟩
theorem wp_rc (hT : TB n (nI n) tKi tEa tHa tPr tEx tSt tBe) (hsh : Sh n (foC n tBe) (iT tHa) sh) {K : Nat} (hC : ¬ cC = 0 → CurveOK n tKi tEa tHa tPr tEx tSt tBe sh cC eM eL eC eS eB eE eF eG) (hK0 : cC = 0 → eM + K = max eM (kS n tKi tEa tHa tPr tEx tSt tBe sh)) (hK1 : ¬ cC = 0 → K = 0) {iRo iEa : Nat → Int32} {nC nFo nQd : Int32} {nRo nBe nEa nMi nHa nER nMR nTh nPa nOu nFr nQu : Nat → Int32} {Q : (Nat → Int32) → (Nat → Int32) → Int32 → Int32 → Int32 → Int32 → (Nat → Int32) → (Nat → Int32) → (Nat → Int32) → (Nat → Int32) → (Nat → Int32) → (Nat → Int32) → (Nat → Int32) → (Nat → Int32) → (Nat → Int32) → (Nat → Int32) → (Nat → Int32) → (Nat → Int32) → Nat → (Nat → Int32) → (Nat → Int64) → (Nat → Int64) → (Nat → Nat → Int32) → (Nat → Nat → Int32) → (Nat → Nat → Int32) → (Nat → Nat → Int32) → Prop}
    (hQ : ∀ (iRo iEa : Nat → Int32) (cC nC nFo nQd : Int32) (nRo nBe nEa nMi nHa nER nMR nTh nPa nOu nFr nQu : Nat → Int32) (eM' : Nat) (eL : Nat → Int32) (eC eS : Nat → Int64) (eB eE eF eG : Nat → Nat → Int32), eM' = eM + K → CurveOK n tKi tEa tHa tPr tEx tSt tBe sh cC eM' eL eC eS eB eE eF eG → Q iRo iEa cC nC nFo nQd nRo nBe nEa nMi nHa nER nMR nTh nPa nOu nFr nQu eM' eL eC eS eB eE eF eG) :
    wp_X7_readyCurve (nI n) tKi tEa tHa tPr tEx tSt tBe iRo iEa cC nC nFo nQd nRo nBe nEa nMi nHa nER nMR nTh nPa nOu nFr nQu eM eL eC eS eB eE eF eG K Q := by
  refine ⟨fun q => hQ _ _ _ _ _ _ _ _ _ _ _ _ _ _ _ _ _ _ _ _ _ _ _ _ _ _ (by rw [hK1 q]; rfl) (hC q), fun q => ⟨fun z => absurd z (by decide), fun _ => ?_⟩⟩
  refine wp_bE hT.2.1 hT.2.2.2.1 hT.2.2.2.2 hT.sp (fun r ro ea h1 h2 h3 h4 h5 => ?_)
  have e : r.toInt = sh := Sh.one hT ⟨_, h2, h3⟩ hsh
  refine wp_draw hT (a2 := r) (by rw [e]; exact hsh) (by rw [e]; exact hK0 q) (fun c nC nFo nQd a1 a2 a3 a4 a5 a6 a7 a8 a9 a10 a11 a12 eM' eL eC eS eB eE eF eG g1 g2 => hQ _ _ _ _ _ _ _ _ _ _ _ _ _ _ _ _ _ _ _ _ _ _ _ _ _ _ g1 (by rw [e] at g2; exact g2))
theorem wp_ba {i : Nat} (h1 : i < 721) (h2 : i < eM) {Q : Nat → Prop} (hQ : Q i) : wp_X3_bendAt eM (nI i) Q := by
  unfold wp_X3_bendAt
  rw [cl_nI (by omega)]
  exact ⟨pk_in i 721 h1, h2, pk_in i 721 h1, h2, hQ⟩
theorem wp_shc (H : CurveOK n tKi tEa tHa tPr tEx tSt tBe sh cC eM eL eC eS eB eE eF eG) {Q : Int32 → Prop} (hQ : ∀ r : Int32, r.toInt = sh → Q r) : wp_X7_shortest cC eM eL Q := by
  obtain ⟨k, h1, h2, h3, h4, h5, h6⟩ := H
  unfold wp_X7_shortest
  rw [h1, show k = (k - 1) + 1 by omega, nI_pred]
  exact wp_ba (by omega) (by omega) (hQ _ (h6 (k - 1) (by omega)))
theorem wp_lf (H : CurveOK n tKi tEa tHa tPr tEx tSt tBe sh cC eM eL eC eS eB eE eF eG) {a1 : Int32} {Q : Int32 → Prop} (hQ0 : sh ≤ a1.toInt → a1.toInt ≤ 1000 → Q 0) (hQ1 : sh ≤ a1.toInt → 1000 < a1.toInt → Q (-1)) (hQ8 : a1.toInt < sh → Q (-8)) : wp_X7_lengthFinding cC eM eL a1 Q := by
  refine wp_shc H (fun r hr => ?_)
  have e1 : (1000 : Int32).toInt = 1000 := rfl
  rw [i_le, i_le, hr, e1]
  exact ⟨fun q => ⟨fun q2 => hQ0 q q2, fun q2 => hQ1 q (by omega)⟩, fun q => hQ8 (by omega)⟩
theorem wp_bf (H : CurveOK n tKi tEa tHa tPr tEx tSt tBe sh cC eM eL eC eS eB eE eF eG) {a1 : Int32} (ha : sh ≤ a1.toInt) {Q : Nat → Prop} (hQ : ∀ i, (∀ j, j ≤ i → BendOK n tKi tEa tHa tPr tEx tSt tBe sh eL eC eS eB eE eF eG j) → (eL i).toInt ≤ a1.toInt → (∀ j, j + 1 = i → a1.toInt < (eL j).toInt) → Q i) : wp_X3_bendFor cC eM eL a1 Q := by
  obtain ⟨k, h1, h2, h3, h4, h5, h6⟩ := H
  have ek : k = (k - 1) + 1 := by omega
  have hex : ∀ i, i < k → (∀ j, j < i → a1.toInt < (eL j).toInt) → (eL i).toInt ≤ a1.toInt → wp_X3_bendAt eM (nI i) (fun j => Q j) := fun i g1 g2 g3 => wp_ba (by omega) (by omega) (hQ i (fun j hj => h5 j (by omega)) g3 (fun j hj => g2 j (by omega)))
  have loop : ∀ m i, i + m + 1 = k → (∀ j, j < i → a1.toInt < (eL j).toInt) → wp_X3_bendFor_L2 a1 cC eL eM (fun x => wp_X3_bendAt eM x (fun j => Q j)) (m + 1) (nI i) := by
    intro m
    induction m with
    | zero =>
      intro i hi hj
      rw [wp_X3_bendFor_L2, h1, ek, nI_pred]
      exact pk_le (k - 1) i (fun _ => hex i (by omega) hj (by rw [h6 i (by omega)]; exact ha)) (fun q => absurd q (by omega))
    | succ m ih =>
      intro i hi hj
      rw [wp_X3_bendFor_L2, h1, ek, nI_pred]
      refine pk_le (k - 1) i (fun q => absurd q (by omega)) (fun _ => wp_ba (by omega) (by omega) ?_)
      rw [i_le]
      refine ⟨fun q => hex i (by omega) hj q, fun q x ex => ?_⟩
      rw [ex, nI_1, ← ek, ← h1]
      refine ih (i + 1) (by omega) (fun j hj2 => ?_)
      rcases Nat.lt_or_ge j i with z | z
      · exact hj j z
      · rw [show j = i by omega]; omega
  have key := loop (k - 1) 0 (by omega) (fun j h => absurd h (by omega))
  rw [nI_0] at key
  exact ⟨_, key⟩
theorem wp_lw (H : CurveOK n tKi tEa tHa tPr tEx tSt tBe sh cC eM eL eC eS eB eE eF eG) {a1 : Int64} {Q : Int32 → Prop} (hQ : ∀ k i, cC = nI k → k ≤ 721 → k ≤ eM → i < k → (∀ j, 0 < j → j ≤ i → (eC j).toInt ≤ a1.toInt) → (i + 1 < k → a1.toInt < (eC (i + 1)).toInt) → Q (nI i)) : wp_X3_lastWithin cC eM eC a1 Q := by
  obtain ⟨k, h1, h2, h3, h4, h5, h6⟩ := H
  have ek : k = (k - 1) + 1 := by omega
  have loop : ∀ m i, i + m + 1 = k → (∀ j, 0 < j → j ≤ i → (eC j).toInt ≤ a1.toInt) → wp_X3_lastWithin_L2 a1 cC eC eM (fun x => Q x) (m + 1) (nI i) := by
    intro m
    induction m with
    | zero =>
      intro i hi hj
      rw [wp_X3_lastWithin_L2, h1, ek, nI_pred]
      exact pk_le (k - 1) i (fun _ => hQ k i h1 h3 h4 (by omega) hj (fun q => absurd q (by omega))) (fun q => absurd q (by omega))
    | succ m ih =>
      intro i hi hj
      rw [wp_X3_lastWithin_L2, h1, ek, nI_pred, nI_1]
      refine pk_le (k - 1) i (fun q => absurd q (by omega)) (fun _ => wp_ba (by omega) (by omega) ?_)
      rw [cmp_gt0]
      refine ⟨fun q => hQ k i h1 h3 h4 (by omega) hj (fun _ => q), fun q x ex => ?_⟩
      rw [ex, ← ek, ← h1]
      refine ih (i + 1) (by omega) (fun j hj1 hj2 => ?_)
      rcases Nat.lt_or_ge j (i + 1) with z | z
      · exact hj j hj1 (by omega)
      · rw [show j = i + 1 by omega]; omega
  have key := loop (k - 1) 0 (by omega) (fun j h1 h2 => absurd h1 (by omega))
  rw [nI_0] at key
  exact ⟨_, key⟩
end ASKC
