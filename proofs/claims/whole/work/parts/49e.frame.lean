/-! two worlds side by side: a call reaches one of them -/
theorem join_L {A0 : Nat → Prop} {D : va_G} {wl wr w1 : va_W} {H H1 : Heap} (hP : va_P D vwCl (wl ++ wr) H) (hD : va_D A0 (wl ++ wr)) (hk : ∀ q : Nat, q < H.size → ¬ va_A wl H.size q → H1[q]? = H[q]?) (hF : ∀ q, va_A wl H.size q → A0 q) (hP1 : va_P D vwCl w1 H1) (hD1 : va_D (va_A wl H.size) w1) : va_P D vwCl (w1 ++ wr) H1 ∧ va_D A0 (w1 ++ wr) := by
  have apart : ∀ (k : Nat) (q : Nat × va_E), wr[k]? = some q → q.1 < H.size ∧ ¬ va_A wl H.size q.1 := by
    intro k q hq
    have h2 : (wl ++ wr)[wl.length + k]? = some q := by
      rw [List.getElem?_append_right (by omega), show wl.length + k - wl.length = k by omega]; exact hq
    have hl := (hP _ q h2).lt
    refine ⟨hl, fun h => ?_⟩
    rcases h with ⟨j, e, h⟩ | h
    · have hj := (List.getElem?_eq_some_iff.mp h).1
      have h4 : (wl ++ wr)[j]? = some (q.1, e) := by rw [List.getElem?_append_left hj]; exact h
      have := hD.1 _ _ q (q.1, e) h2 h4 rfl
      omega
    · omega
  refine ⟨va_P.app hP1 (fun k q hq => ?_), va_D.app (hD1.weaken (fun k q _ h => hF q.1 h)) ⟨fun i j x y hi hj hxy => ?_, fun k q hq => ?_⟩ (fun i j x y hx hy hxy => ?_)⟩
  · have h2 : (wl ++ wr)[wl.length + k]? = some q := by
      rw [List.getElem?_append_right (by omega), show wl.length + k - wl.length = k by omega]; exact hq
    obtain ⟨g1, g2⟩ := apart k q hq
    exact (hP _ q h2).kept (hk q.1 g1 g2)
  · have h2 : (wl ++ wr)[wl.length + i]? = some x := by
      rw [List.getElem?_append_right (by omega), show wl.length + i - wl.length = i by omega]; exact hi
    have h3 : (wl ++ wr)[wl.length + j]? = some y := by
      rw [List.getElem?_append_right (by omega), show wl.length + j - wl.length = j by omega]; exact hj
    have := hD.1 _ _ x y h2 h3 hxy
    omega
  · have h2 : (wl ++ wr)[wl.length + k]? = some q := by
      rw [List.getElem?_append_right (by omega), show wl.length + k - wl.length = k by omega]; exact hq
    exact hD.2 _ q h2
  · exact (apart j y hy).2 (by rw [← hxy]; exact hD1.2 i x hx)
theorem join_R {A0 : Nat → Prop} {D : va_G} {wl wr w1 : va_W} {H H1 : Heap} (hP : va_P D vwCl (wl ++ wr) H) (hD : va_D A0 (wl ++ wr)) (hk : ∀ q : Nat, q < H.size → ¬ va_A wr H.size q → H1[q]? = H[q]?) (hF : ∀ q, va_A wr H.size q → A0 q) (hP1 : va_P D vwCl w1 H1) (hD1 : va_D (va_A wr H.size) w1) : va_P D vwCl (wl ++ w1) H1 ∧ va_D A0 (wl ++ w1) := by
  have left : ∀ (k : Nat) (q : Nat × va_E), wl[k]? = some q → (wl ++ wr)[k]? = some q := fun k q h => by rw [List.getElem?_append_left (List.getElem?_eq_some_iff.mp h).1]; exact h
  have apart : ∀ (k : Nat) (q : Nat × va_E), wl[k]? = some q → q.1 < H.size ∧ ¬ va_A wr H.size q.1 := by
    intro k q hq
    have h2 := left k q hq
    have hlt := (List.getElem?_eq_some_iff.mp hq).1
    have hl := (hP _ q h2).lt
    refine ⟨hl, fun h => ?_⟩
    rcases h with ⟨j, e, h⟩ | h
    · have h4 : (wl ++ wr)[wl.length + j]? = some (q.1, e) := by
        rw [List.getElem?_append_right (by omega), show wl.length + j - wl.length = j by omega]; exact h
      have := hD.1 _ _ q (q.1, e) h2 h4 rfl
      omega
    · omega
  refine ⟨va_P.app (fun k q hq => ?_) hP1, va_D.app ⟨fun i j x y hi hj hxy => ?_, fun k q hq => ?_⟩ (hD1.weaken (fun k q _ h => hF q.1 h)) (fun i j x y hx hy hxy => ?_)⟩
  · obtain ⟨g1, g2⟩ := apart k q hq
    exact (hP _ q (left k q hq)).kept (hk q.1 g1 g2)
  · exact hD.1 _ _ x y (left i x hi) (left j y hj) hxy
  · exact hD.2 _ q (left k q hq)
  · exact (apart i x hx).2 (by rw [hxy]; exact hD1.2 j y hy)
theorem va_P.left {D : va_G} {wl wr : va_W} {H : Heap} (h : va_P D vwCl (wl ++ wr) H) : va_P D vwCl wl H := fun k q hq => h k q (by rw [List.getElem?_append_left (List.getElem?_eq_some_iff.mp hq).1]; exact hq)
theorem va_P.right {D : va_G} {wl wr : va_W} {H : Heap} (h : va_P D vwCl (wl ++ wr) H) : va_P D vwCl wr H := fun k q hq => h (wl.length + k) q (by rw [List.getElem?_append_right (by omega), show wl.length + k - wl.length = k by omega]; exact hq)
theorem va_D.left {A : Nat → Prop} {wl wr : va_W} (h : va_D A (wl ++ wr)) : va_D A wl := by
  have left : ∀ (k : Nat) (q : Nat × va_E), wl[k]? = some q → (wl ++ wr)[k]? = some q := fun k q h => by rw [List.getElem?_append_left (List.getElem?_eq_some_iff.mp h).1]; exact h
  exact ⟨fun i j x y hi hj hxy => h.1 _ _ x y (left i x hi) (left j y hj) hxy, fun k q hq => h.2 _ q (left k q hq)⟩
theorem va_D.right {A : Nat → Prop} {wl wr : va_W} (h : va_D A (wl ++ wr)) : va_D A wr := by
  have rt : ∀ (k : Nat) (q : Nat × va_E), wr[k]? = some q → (wl ++ wr)[wl.length + k]? = some q := fun k q h => by rw [List.getElem?_append_right (by omega), show wl.length + k - wl.length = k by omega]; exact h
  exact ⟨fun i j x y hi hj hxy => by have := h.1 _ _ x y (rt i x hi) (rt j y hj) hxy; omega, fun k q hq => h.2 _ q (rt k q hq)⟩
section CLR
variable {p : Program} {l : Launch} {e : Env} {R : Room} {s : State} {m : MethodId} {args : Array Value} {below : List Frame} {meth : Method} {c : Code} {H : Heap} {locs : List Loc} {cells slots : Nat} {D : va_G} {S : Type} {Wf : S → va_W} {A : Nat → Prop} {pc : Nat} {ls : Array Slot} {mc ms : Nat} {rest st0 : List Value} {Q : State → Prop} {wl wr : va_W} {a : Array Value}
theorem cl_iL {post : Int32 → S → Prop} (hP : va_P D vwCl (wl ++ wr) H) (hD : va_D A (wl ++ wr)) (hS : va_S A s.heap H locs) (hA : ∀ q, s.heap.size ≤ q → A q) (hr : va_Run p l e R s m args below meth c H locs cells slots mc ms (F0 m pc ls st0) rest (va_Qi post (CB D Wf (va_A wl H.size)) (va_A wl H.size) a) (va_A wl H.size))
    (kk : ∀ (r : Int32) (u : S) (H1 : Heap) (locs1 : List Loc), post r u → va_P D vwCl (Wf u ++ wr) H1 → va_D A (Wf u ++ wr) → va_S A s.heap H1 locs1 → W p l e R s m args below meth c H1 locs1 (cells + mc) (slots + ms) Q (F0 m (pc + 3) ls (.int r :: rest))) : W p l e R s m args below meth c H locs cells slots Q (F0 m pc ls st0) := by
  have hF := wd_in hD.left hS hA
  refine va_calli hr hS (fun q _ h => hF q h) hF (fun r u t H1 locs1 ht hvm hw hB hz hk hS1 => ?_)
  obtain ⟨hP1, hD1⟩ := hB
  rw [ht] at hP1
  obtain ⟨j1, j2⟩ := join_L hP hD hk hF hP1 hD1
  exact kk r u H1 locs1 hw j1 j2 hS1
theorem cl_lL {post : Int64 → S → Prop} (hP : va_P D vwCl (wl ++ wr) H) (hD : va_D A (wl ++ wr)) (hS : va_S A s.heap H locs) (hA : ∀ q, s.heap.size ≤ q → A q) (hr : va_Run p l e R s m args below meth c H locs cells slots mc ms (F0 m pc ls st0) rest (va_Ql post (CB D Wf (va_A wl H.size)) (va_A wl H.size) a) (va_A wl H.size))
    (kk : ∀ (r : Int64) (u : S) (H1 : Heap) (locs1 : List Loc), post r u → va_P D vwCl (Wf u ++ wr) H1 → va_D A (Wf u ++ wr) → va_S A s.heap H1 locs1 → W p l e R s m args below meth c H1 locs1 (cells + mc) (slots + ms) Q (F0 m (pc + 3) ls (.long r :: rest))) : W p l e R s m args below meth c H locs cells slots Q (F0 m pc ls st0) := by
  have hF := wd_in hD.left hS hA
  refine va_calll hr hS (fun q _ h => hF q h) hF (fun r u t H1 locs1 ht hvm hw hB hz hk hS1 => ?_)
  obtain ⟨hP1, hD1⟩ := hB
  rw [ht] at hP1
  obtain ⟨j1, j2⟩ := join_L hP hD hk hF hP1 hD1
  exact kk r u H1 locs1 hw j1 j2 hS1
theorem cl_iR {post : Int32 → S → Prop} (hP : va_P D vwCl (wl ++ wr) H) (hD : va_D A (wl ++ wr)) (hS : va_S A s.heap H locs) (hA : ∀ q, s.heap.size ≤ q → A q) (hr : va_Run p l e R s m args below meth c H locs cells slots mc ms (F0 m pc ls st0) rest (va_Qi post (CB D Wf (va_A wr H.size)) (va_A wr H.size) a) (va_A wr H.size))
    (kk : ∀ (r : Int32) (u : S) (H1 : Heap) (locs1 : List Loc), post r u → va_P D vwCl (wl ++ Wf u) H1 → va_D A (wl ++ Wf u) → va_S A s.heap H1 locs1 → W p l e R s m args below meth c H1 locs1 (cells + mc) (slots + ms) Q (F0 m (pc + 3) ls (.int r :: rest))) : W p l e R s m args below meth c H locs cells slots Q (F0 m pc ls st0) := by
  have hF := wd_in hD.right hS hA
  refine va_calli hr hS (fun q _ h => hF q h) hF (fun r u t H1 locs1 ht hvm hw hB hz hk hS1 => ?_)
  obtain ⟨hP1, hD1⟩ := hB
  rw [ht] at hP1
  obtain ⟨j1, j2⟩ := join_R hP hD hk hF hP1 hD1
  exact kk r u H1 locs1 hw j1 j2 hS1
theorem cl_lR {post : Int64 → S → Prop} (hP : va_P D vwCl (wl ++ wr) H) (hD : va_D A (wl ++ wr)) (hS : va_S A s.heap H locs) (hA : ∀ q, s.heap.size ≤ q → A q) (hr : va_Run p l e R s m args below meth c H locs cells slots mc ms (F0 m pc ls st0) rest (va_Ql post (CB D Wf (va_A wr H.size)) (va_A wr H.size) a) (va_A wr H.size))
    (kk : ∀ (r : Int64) (u : S) (H1 : Heap) (locs1 : List Loc), post r u → va_P D vwCl (wl ++ Wf u) H1 → va_D A (wl ++ Wf u) → va_S A s.heap H1 locs1 → W p l e R s m args below meth c H1 locs1 (cells + mc) (slots + ms) Q (F0 m (pc + 3) ls (.long r :: rest))) : W p l e R s m args below meth c H locs cells slots Q (F0 m pc ls st0) := by
  have hF := wd_in hD.right hS hA
  refine va_calll hr hS (fun q _ h => hF q h) hF (fun r u t H1 locs1 ht hvm hw hB hz hk hS1 => ?_)
  obtain ⟨hP1, hD1⟩ := hB
  rw [ht] at hP1
  obtain ⟨j1, j2⟩ := join_R hP hD hk hF hP1 hD1
  exact kk r u H1 locs1 hw j1 j2 hS1
end CLR
theorem wd_preL {D : va_G} {tys : List (ClassId × FieldType)} {A : Nat → Prop} {wl wr : va_W} {s : State} {H : Heap} {locs : List Loc} {as : List Value} (hAB : AMB D tys A s) (hP : va_P D vwCl (wl ++ wr) H) (hD : va_D A (wl ++ wr)) (hS : va_S A s.heap H locs) (hA : ∀ q, s.heap.size ≤ q → A q) : ∀ U : State, U.heap = H → s.WarmedH U.vm → CPre D tys as wl H.size as.toArray U := wd_pre hAB hP.left hD.left hS hA
theorem wd_preR {D : va_G} {tys : List (ClassId × FieldType)} {A : Nat → Prop} {wl wr : va_W} {s : State} {H : Heap} {locs : List Loc} {as : List Value} (hAB : AMB D tys A s) (hP : va_P D vwCl (wl ++ wr) H) (hD : va_D A (wl ++ wr)) (hS : va_S A s.heap H locs) (hA : ∀ q, s.heap.size ≤ q → A q) : ∀ U : State, U.heap = H → s.WarmedH U.vm → CPre D tys as wr H.size as.toArray U := wd_pre hAB hP.right hD.right hS hA
/-- the classes of arrays -/
theorem ty_obj {s : State} {C : String} (h : va_AO C s) : ∃ cA : ClassId, ArrOfT s cA (.object C) ∧ va_RA s cA (.object C) := by
  obtain ⟨comp, c, k, h1, -, h3, h4, h5⟩ := Cond.arrayOver_spec h
  exact ⟨c, fun N z => ⟨(fun k h => by cases h), k, h3, comp, h4⟩, k, comp, h3, h4, h1, h5⟩
theorem ty_int {args : Array Value} {s : State} (h : (Cond.arrayClass .int).before args s = true) : ∃ cA : ClassId, ArrOfT s cA .int ∧ va_RA s cA .int := by
  obtain ⟨c, k, comp, h1, h3, h4⟩ := Cond.arrayClass_spec h
  exact ⟨c, fun N z => ⟨(fun k h => by cases h), k, h3, comp, h4⟩, h1⟩
theorem ty_long {args : Array Value} {s : State} (h : (Cond.arrayClass .long).before args s = true) : ∃ cA : ClassId, ArrOfT s cA .long ∧ va_RA s cA .long := by
  obtain ⟨c, k, comp, h1, h3, h4⟩ := Cond.arrayClass_spec h
  exact ⟨c, fun N z => ⟨(fun k h => by cases h), k, h3, comp, h4⟩, h1⟩
theorem ty_bool {args : Array Value} {s : State} (h : (Cond.arrayClass .boolean).before args s = true) : ∃ cA : ClassId, ArrOfT s cA .boolean ∧ va_RA s cA .boolean := by
  obtain ⟨c, k, comp, h1, h3, h4⟩ := Cond.arrayClass_spec h
  exact ⟨c, fun N z => ⟨(fun k h => by cases h), k, h3, comp, h4⟩, h1⟩

/-- what the law's loop carries at a place -/
def LKN (p : Program) (l : Launch) (e : Env) (s : State) (m : MethodId) (below : List Frame) (meth : Method) (c : Code) (b : Nat) (D : va_G) (cI cJ cZ cE cD cK : ClassId) (ad : Nat → Nat) (dd : Nat → Nat → Nat) (am : Nat → Nat) (ud : Nat → Nat → Nat) (Rel : LRT) (Q : State → Prop) (x3 : Int32) (pc : Nat) : Prop :=
  ∀ (bd : Nat → Nat → Nat) (bHK : Int32) (bHP : Int32) (bPF : Int32) (bWC : Int32) (bRi : Int32) (bBe : Int32) (bFi : Int32) (bWa : Nat → Int32) (dB : Nat → Int32) (dS : Nat → Int32) (dN : Nat → Nat → Int64) (tC : Int32) (tKi : Nat → Int32) (tEa : Nat → Int32) (tHa : Nat → Int32) (tPr : Nat → Int32) (tEx : Nat → Int32) (tSt : Nat → Int32) (tTo : Nat → Int32) (tBe : Nat → Int32) (kC : Int32) (kKi : Nat → Int32) (kEa : Nat → Int32) (kHa : Nat → Int32) (kPr : Nat → Int32) (kEx : Nat → Int32) (kSt : Nat → Int32) (kTo : Nat → Int32) (kBe : Nat → Int32) (aC : Int32) (aWh : Nat → Int32) (aTa : Nat → Int32) (aWa : Nat → Int32) (iRo : Nat → Int32) (iEa : Nat → Int32) (iLa : Nat → Int32) (cC : Int32) (nC : Int32) (nFo : Int32) (nQd : Int32) (nRo : Nat → Int32) (nBe : Nat → Int32) (nEa : Nat → Int32) (nMi : Nat → Int32) (nHa : Nat → Int32) (nER : Nat → Int32) (nMR : Nat → Int32) (nTh : Nat → Int32) (nPa : Nat → Int32) (nOu : Nat → Int32) (nFr : Nat → Int32) (nQu : Nat → Int32) (eM : Nat) (eL : Nat → Int32) (eC : Nat → Int64) (eS : Nat → Int64) (eB : Nat → Nat → Int32) (eE : Nat → Nat → Int32) (eF : Nat → Nat → Int32) (eG : Nat → Nat → Int32) (pT : Int32) (pK : Nat → Int32) (pN : Nat → Int32) (pF : Nat → Int32) (pS : Nat → Int32) (qT : Int32) (qK : Nat → Int32) (qN : Nat → Int32) (qF : Nat → Int32) (qS : Nat → Int32) (mKe : Int32) (mUn : Int32) (mFi : Int32) (mRi : Int32) (mBe : Int64) (mWc : Int32) (mAK : Int32) (mSh : Int32) (mIP : Int32) (mUS : Nat → Int32) (mWa : Nat → Int32) (mWi : Nat → Int32) (mSi : Nat → Int32) (mRo : Nat → Int64) (mSp : Nat → Int64) (mRw : Nat → Int32) (mSn : Nat → Int32) (mBg : Nat → Int32) (mLa : Nat → Int32) (mMo : Nat → Int32) (mRm : Nat → Int64) (mOw : Nat → Int64) (mGo : Nat → Int32) (mFr : Nat → Int32) (mQu : Nat → Int32) (mCh : Nat → Int64) (mPB : Nat → Int32) (mPS : Nat → Int32) (mFs : Nat → Int32) (ub : Nat → Nat) (uT : Nat → Int32) (uK : Nat → Nat → Int32) (uN : Nat → Nat → Int32) (uF : Nat → Nat → Int32) (uS : Nat → Nat → Int32), Rel bHK bHP bPF bWC bRi bBe bFi bWa dB dS dN tC tKi tEa tHa tPr tEx tSt tTo tBe kC kKi kEa kHa kPr kEx kSt kTo kBe aC aWh aTa aWa iRo iEa iLa cC nC nFo nQd nRo nBe nEa nMi nHa nER nMR nTh nPa nOu nFr nQu eM eL eC eS eB eE eF eG pT pK pN pF pS qT qK qN qF qS mKe mUn mFi mRi mBe mWc mAK mSh mIP mUS mWa mWi mSi mRo mSp mRw mSn mBg mLa mMo mRm mOw mGo mFr mQu mCh mPB mPS mFs ub uT uK uN uF uS → ∀ (H : Heap) (locs : List Loc) (ls : Array Slot), va_P D vwCl ((WC cI cJ cE cD ad bd dd bHK bHP bPF bWC bRi bBe bFi bWa dB dS dN tC tKi tEa tHa tPr tEx tSt tTo tBe kC kKi kEa kHa kPr kEx kSt kTo kBe aC aWh aTa aWa iRo iEa iLa cC nC nFo nQd nRo nBe nEa nMi nHa nER nMR nTh nPa nOu nFr nQu eM eL eC eS eB eE eF eG) ++ (WM cI cJ cZ cK am ud pT pK pN pF pS qT qK qN qF qS mKe mUn mFi mRi mBe mWc mAK mSh mIP mUS mWa mWi mSi mRo mSp mRw mSn mBg mLa mMo mRm mOw mGo mFr mQu mCh mPB mPS mFs ub uT uK uN uF uS)) H → va_D (fun q : Nat => s.heap.size ≤ q) ((WC cI cJ cE cD ad bd dd bHK bHP bPF bWC bRi bBe bFi bWa dB dS dN tC tKi tEa tHa tPr tEx tSt tTo tBe kC kKi kEa kHa kPr kEx kSt kTo kBe aC aWh aTa aWa iRo iEa iLa cC nC nFo nQd nRo nBe nEa nMi nHa nER nMR nTh nPa nOu nFr nQu eM eL eC eS eB eE eF eG) ++ (WM cI cJ cZ cK am ud pT pK pN pF pS qT qK qN qF qS mKe mUn mFi mRi mBe mWc mAK mSh mIP mUS mWa mWi mSi mRo mSp mRw mSn mBg mLa mMo mRm mOw mGo mFr mQu mCh mPB mPS mFs ub uT uK uN uF uS)) → va_S (fun q : Nat => s.heap.size ≤ q) s.heap H locs → lv_has ls 4 [(0, .ref b), (1, .ref (ad 0)), (2, .ref (am 0)), (3, .int x3)] → W p l e room_1 s m #[Value.ref b] below meth c H locs (234 + 5 * eM) (10911 + 55 * eM) Q (F0 m pc ls [])
theorem lgc (x : Int64) : lg_cmp x x = 0 := by simp [lg_cmp]
