/-- the words about nest mates that the system needs -/
def am_w : List Cond := [.methodLinkNest RX7 15 yX2_init RX7, .methodLinkNest RX7 18 yX5_init RX7, .methodLinkNest RX7 28 yX0_init RX7, .methodLinkNest RX7 35 yX6_init RX7, .methodLinkNest RX7 42 yX3_init RX7, .methodLinkNest RX3 19 yX4_init RX7, .methodLinkNest RX5 75 yX7_hasBit RX7, .methodLinkNest RX6 34 yX7_hasBit RX7, .methodLinkNest RX4 76 yX7_hasBit RX7, .methodLinkNest RX3 24 yX1_init RX7, .methodLinkNest RX9 9 yX8_init RX9, .fieldLinkNest RX2 34 RX7 "TAKEN" "[I" RX7, .fieldLinkNest RX5 40 RX7 "TAKEN" "[I" RX7]
theorem am_w_form : ∀ w ∈ am_w, (∃ a i x h, w = Cond.methodLinkNest a i x h) ∨ (∃ a i b n d h, w = Cond.fieldLinkNest a i b n d h) := (List.forall_mem_cons.mpr ⟨Or.inl ⟨_, _, _, _, rfl⟩, (List.forall_mem_cons.mpr ⟨Or.inl ⟨_, _, _, _, rfl⟩, (List.forall_mem_cons.mpr ⟨Or.inl ⟨_, _, _, _, rfl⟩, (List.forall_mem_cons.mpr ⟨Or.inl ⟨_, _, _, _, rfl⟩, (List.forall_mem_cons.mpr ⟨Or.inl ⟨_, _, _, _, rfl⟩, (List.forall_mem_cons.mpr ⟨Or.inl ⟨_, _, _, _, rfl⟩, (List.forall_mem_cons.mpr ⟨Or.inl ⟨_, _, _, _, rfl⟩, (List.forall_mem_cons.mpr ⟨Or.inl ⟨_, _, _, _, rfl⟩, (List.forall_mem_cons.mpr ⟨Or.inl ⟨_, _, _, _, rfl⟩, (List.forall_mem_cons.mpr ⟨Or.inl ⟨_, _, _, _, rfl⟩, (List.forall_mem_cons.mpr ⟨Or.inl ⟨_, _, _, _, rfl⟩, (List.forall_mem_cons.mpr ⟨Or.inr ⟨_, _, _, _, _, _, rfl⟩, (List.forall_mem_cons.mpr ⟨Or.inr ⟨_, _, _, _, _, _, rfl⟩, (fun _ h => absurd h List.not_mem_nil)⟩)⟩)⟩)⟩)⟩)⟩)⟩)⟩)⟩)⟩)⟩)⟩)⟩)
theorem am_w_tab : ∀ w ∈ am_w, w.onTables = true := by
  intro w hw
  rcases am_w_form w hw with ⟨a, i, x, h, rfl⟩ | ⟨a, i, b, n, d, h, rfl⟩ <;> rfl
/-- a static table of ints that nobody writes -/
def am_T (nm : String) (N : Nat) (f : Nat → Int32) (A : Nat → Prop) (U : State) : Prop := ∃ t : Nat, va_Z RX7 nm "[I" (.ref t) A U U.heap ∧ va_T .int t N (fun k => .int (f k)) A U U.heap
def am_taken : Nat → Int32 := fun k => match k with | 0 => 3 | 1 => 1 | 2 => 5 | 3 => 1 | _ => 4
def am_under : Nat → Int32 := fun k => match k with | 0 => -1 | 1 => 0 | 2 => 0 | 3 => 1 | _ => 0
/-- what every method takes as given beside its world -/
def AMB (D : va_G) (tys : List (ClassId × FieldType)) (A : Nat → Prop) (U : State) : Prop := va_K D vwCl tys U ∧ (∀ w ∈ am_w, va_Nw w U) ∧ am_T "TAKEN" 5 am_taken A U ∧ am_T "UNDER" 5 am_under A U ∧ va_AO RX1 U ∧ va_AO RX2 U ∧ va_AO RX8 U
theorem am_T.at {nm : String} {N : Nat} {f : Nat → Int32} {A A1 : Nat → Prop} {s U : State} {locs : List Loc} (h : am_T nm N f A s) (hS : va_S A s.heap U.heap locs) (hW : s.WarmedH U.vm) (h1 : ∀ q, A1 q → A q) : am_T nm N f A1 U := by
  obtain ⟨t, hz, ht⟩ := h
  exact ⟨t, (((hz.kept hS.2.1).moved hW.alike).narrow h1), (((ht.kept hS.2.1).moved hW.alike).narrow h1)⟩
theorem AMB.at {D : va_G} {tys : List (ClassId × FieldType)} {A A1 : Nat → Prop} {s U : State} {locs : List Loc} (h : AMB D tys A s) (hS : va_S A s.heap U.heap locs) (hW : s.WarmedH U.vm) (h1 : ∀ q, A1 q → A q) : AMB D tys A1 U := by
  refine ⟨va_K.moved hW.alike h.1, fun w hw => ?_, h.2.2.1.at hS hW h1, h.2.2.2.1.at hS hW h1, h.2.2.2.2.1.moved hW.alike, h.2.2.2.2.2.1.moved hW.alike, h.2.2.2.2.2.2.moved hW.alike⟩
  have hz := h.2.1 w hw
  rcases am_w_form w hw with ⟨a, i, x, h', rfl⟩ | ⟨a, i, b, n, d, h', rfl⟩
  · exact va_Nw.warmM hW hz
  · exact va_Nw.warmF hW hz
/-- a contract's start -/
def CPre (D : va_G) (tys : List (ClassId × FieldType)) (as : List Value) (wd : va_W) (sz : Nat) : Array Value → State → Prop := va_Pc as (fun U => U.heap.size = sz ∧ va_P D vwCl wd U.heap ∧ AMB D tys (va_A wd sz) U ∧ va_D (fun _ => True) wd)
theorem CPre.blind {D : va_G} {tys : List (ClassId × FieldType)} {as : List Value} {wd : va_W} {sz : Nat} : FrameBlind (CPre D tys as wd sz) := by
  intro a U g mk q
  obtain ⟨q0, q1, qP, ⟨qK, qN, ⟨t1, z1, y1⟩, ⟨t2, z2, y2⟩, o1, o2, o3⟩, qD⟩ := q
  exact ⟨q0, q1, qP, ⟨va_K.moved (u := U) (U := U.calling g mk a) (Vm.Alike.refl U.vm) qK, fun w hw => va_Nw.same (u := U) (U := U.calling g mk a) (am_w_tab w hw) rfl (qN w hw), ⟨t1, va_Z.moved (U := U.calling g mk a) (Vm.Alike.refl U.vm) z1, va_T.moved (U := U.calling g mk a) (Vm.Alike.refl U.vm) y1⟩, ⟨t2, va_Z.moved (U := U.calling g mk a) (Vm.Alike.refl U.vm) z2, va_T.moved (U := U.calling g mk a) (Vm.Alike.refl U.vm) y2⟩, va_AO.moved (U := U.calling g mk a) (Vm.Alike.refl U.vm) o1, va_AO.moved (U := U.calling g mk a) (Vm.Alike.refl U.vm) o2, va_AO.moved (U := U.calling g mk a) (Vm.Alike.refl U.vm) o3⟩, qD⟩
/-- a contract's end: the world behind it -/
def CB {S : Type} (D : va_G) (Wf : S → va_W) (A : Nat → Prop) : S → State → Prop := fun u t => va_P D vwCl (Wf u) t.heap ∧ va_D A (Wf u)
def CTi (l : Launch) (y : MethodName) (ws : List Cond) (rm : Room) (D : va_G) (tys : List (ClassId × FieldType)) (as : List Value) (wd : va_W) {S : Type} (post : Int32 → S → Prop) (Wf : S → va_W) (mc ms : Nat) : Prop :=
  ∀ sz, Met l y ws rm (CPre D tys as wd sz) (va_Qi post (CB D Wf (va_A wd sz)) (va_A wd sz)) mc ms (va_A wd sz)
def CTl (l : Launch) (y : MethodName) (ws : List Cond) (rm : Room) (D : va_G) (tys : List (ClassId × FieldType)) (as : List Value) (wd : va_W) {S : Type} (post : Int64 → S → Prop) (Wf : S → va_W) (mc ms : Nat) : Prop :=
  ∀ sz, Met l y ws rm (CPre D tys as wd sz) (va_Ql post (CB D Wf (va_A wd sz)) (va_A wd sz)) mc ms (va_A wd sz)
def CTv (l : Launch) (y : MethodName) (ws : List Cond) (rm : Room) (D : va_G) (tys : List (ClassId × FieldType)) (as : List Value) (wd : va_W) {S : Type} (post : S → Prop) (Wf : S → va_W) (mc ms : Nat) : Prop :=
  ∀ sz, Met l y ws rm (CPre D tys as wd sz) (va_Qv post (CB D Wf (va_A wd sz)) (va_A wd sz)) mc ms (va_A wd sz)
/-- an answer that is a cell: which one, the behind-state says -/
def CTr (l : Launch) (y : MethodName) (ws : List Cond) (rm : Room) (D : va_G) (tys : List (ClassId × FieldType)) (as : List Value) (wd : va_W) {S : Type} (post : S → Prop) (Wf : S → va_W) (Rf : S → Nat) (mc ms : Nat) : Prop :=
  ∀ sz, Met l y ws rm (CPre D tys as wd sz) (va_Qr post (fun u a t => a = Rf u ∧ CB D Wf (va_A wd sz) u t) (va_A wd sz)) mc ms (va_A wd sz)
/-- a method's entry -/
theorem ent {l : Launch} {y : MethodName} {ws ws' : List Cond} {rm : Room} {D : va_G} {tys : List (ClassId × FieldType)} {as : List Value} {wd : va_W} {cc : ByteArray} {maxL : Nat} {ret : Option FieldType} {Qf : (Nat → Prop) → Array Value → State → Outcome → State → Prop} {mc ms : Nat} (hy : plainName y.cls = true) (hw : ws = Cond.code y cc maxL ret :: ws') (hn : (lg_sl as).length ≤ maxL)
    (body : ∀ (p : Program) (e : Env) (s : State) (m : MethodId) (args : Array Value) (below : List Frame) (meth : Method) (c : Code) (A : Nat → Prop) (Q : State → Prop), Q = MQ below (Qf A) args s mc ms A → p.tables.exec = Jvm.exec → c.code = cc → meth.sig.returnType = ret → c.maxLocals = maxL → s.vm.findClass y.cls = some m.cls → (∀ w ∈ ws, w.before args s = true) → meth.locks = false → (∀ q, s.heap.size ≤ q → A q) → AMB D tys A s → va_P D vwCl wd s.heap → va_D A wd → va_S A s.heap s.heap [] → ∀ ls : Array Slot, lv_has ls maxL (lv_args 0 as) →
      W p l e (headSpec ws rm).room s m args below meth c s.heap [] 0 0 Q (F0 m 0 ls [])) :
    ∀ sz, Met l y ws rm (CPre D tys as wd sz) (Qf (va_A wd sz)) mc ms (va_A wd sz) := by
  intro sz
  refine Met.ofW (cc := cc) (maxL := maxL) (ret := ret) hy hw ?_
  intro p e s m args' below meth c s₁ B hml hv
  obtain ⟨rfl, hsz, hP, hAB, hD0⟩ := hv
  subst hsz
  rw [lg_entry_eq]
  exact body p e s m _ below meth c (va_A wd s.heap.size) _ rfl B.exec B.bytes B.returns hml (findClass_of_methodNamed B.named) (atoms_spec (ws := ws) B.pre) B.notSynchronized (fun q h => Or.inr h) hAB hP hD0.self va_S.rf _ (lv_entry as hn)
theorem ent_i {l : Launch} {y : MethodName} {ws ws' : List Cond} {rm : Room} {D : va_G} {tys : List (ClassId × FieldType)} {as : List Value} {wd : va_W} {cc : ByteArray} {maxL : Nat} {ret : Option FieldType} {mc ms : Nat} {S : Type} {post : Int32 → S → Prop} {Wf : S → va_W} (hy : plainName y.cls = true) (hw : ws = Cond.code y cc maxL ret :: ws') (hn : (lg_sl as).length ≤ maxL)
    (body : ∀ (p : Program) (e : Env) (s : State) (m : MethodId) (args : Array Value) (below : List Frame) (meth : Method) (c : Code) (A : Nat → Prop) (Q : State → Prop), Q = MQ below (va_Qi post (CB D Wf A) A) args s mc ms A → p.tables.exec = Jvm.exec → c.code = cc → meth.sig.returnType = ret → c.maxLocals = maxL → s.vm.findClass y.cls = some m.cls → (∀ w ∈ ws, w.before args s = true) → meth.locks = false → (∀ q, s.heap.size ≤ q → A q) → AMB D tys A s → va_P D vwCl wd s.heap → va_D A wd → va_S A s.heap s.heap [] → ∀ ls : Array Slot, lv_has ls maxL (lv_args 0 as) →
      W p l e (headSpec ws rm).room s m args below meth c s.heap [] 0 0 Q (F0 m 0 ls [])) : CTi l y ws rm D tys as wd post Wf mc ms := ent (Qf := fun A => va_Qi post (CB D Wf A) A) hy hw hn body
theorem ent_l {l : Launch} {y : MethodName} {ws ws' : List Cond} {rm : Room} {D : va_G} {tys : List (ClassId × FieldType)} {as : List Value} {wd : va_W} {cc : ByteArray} {maxL : Nat} {ret : Option FieldType} {mc ms : Nat} {S : Type} {post : Int64 → S → Prop} {Wf : S → va_W} (hy : plainName y.cls = true) (hw : ws = Cond.code y cc maxL ret :: ws') (hn : (lg_sl as).length ≤ maxL)
    (body : ∀ (p : Program) (e : Env) (s : State) (m : MethodId) (args : Array Value) (below : List Frame) (meth : Method) (c : Code) (A : Nat → Prop) (Q : State → Prop), Q = MQ below (va_Ql post (CB D Wf A) A) args s mc ms A → p.tables.exec = Jvm.exec → c.code = cc → meth.sig.returnType = ret → c.maxLocals = maxL → s.vm.findClass y.cls = some m.cls → (∀ w ∈ ws, w.before args s = true) → meth.locks = false → (∀ q, s.heap.size ≤ q → A q) → AMB D tys A s → va_P D vwCl wd s.heap → va_D A wd → va_S A s.heap s.heap [] → ∀ ls : Array Slot, lv_has ls maxL (lv_args 0 as) →
      W p l e (headSpec ws rm).room s m args below meth c s.heap [] 0 0 Q (F0 m 0 ls [])) : CTl l y ws rm D tys as wd post Wf mc ms := ent (Qf := fun A => va_Ql post (CB D Wf A) A) hy hw hn body
theorem ent_v {l : Launch} {y : MethodName} {ws ws' : List Cond} {rm : Room} {D : va_G} {tys : List (ClassId × FieldType)} {as : List Value} {wd : va_W} {cc : ByteArray} {maxL : Nat} {ret : Option FieldType} {mc ms : Nat} {S : Type} {post : S → Prop} {Wf : S → va_W} (hy : plainName y.cls = true) (hw : ws = Cond.code y cc maxL ret :: ws') (hn : (lg_sl as).length ≤ maxL)
    (body : ∀ (p : Program) (e : Env) (s : State) (m : MethodId) (args : Array Value) (below : List Frame) (meth : Method) (c : Code) (A : Nat → Prop) (Q : State → Prop), Q = MQ below (va_Qv post (CB D Wf A) A) args s mc ms A → p.tables.exec = Jvm.exec → c.code = cc → meth.sig.returnType = ret → c.maxLocals = maxL → s.vm.findClass y.cls = some m.cls → (∀ w ∈ ws, w.before args s = true) → meth.locks = false → (∀ q, s.heap.size ≤ q → A q) → AMB D tys A s → va_P D vwCl wd s.heap → va_D A wd → va_S A s.heap s.heap [] → ∀ ls : Array Slot, lv_has ls maxL (lv_args 0 as) →
      W p l e (headSpec ws rm).room s m args below meth c s.heap [] 0 0 Q (F0 m 0 ls [])) : CTv l y ws rm D tys as wd post Wf mc ms := ent (Qf := fun A => va_Qv post (CB D Wf A) A) hy hw hn body
theorem ent_r {l : Launch} {y : MethodName} {ws ws' : List Cond} {rm : Room} {D : va_G} {tys : List (ClassId × FieldType)} {as : List Value} {wd : va_W} {cc : ByteArray} {maxL : Nat} {ret : Option FieldType} {mc ms : Nat} {S : Type} {post : S → Prop} {Wf : S → va_W} {Rf : S → Nat} (hy : plainName y.cls = true) (hw : ws = Cond.code y cc maxL ret :: ws') (hn : (lg_sl as).length ≤ maxL)
    (body : ∀ (p : Program) (e : Env) (s : State) (m : MethodId) (args : Array Value) (below : List Frame) (meth : Method) (c : Code) (A : Nat → Prop) (Q : State → Prop), Q = MQ below (va_Qr post (fun u a t => a = Rf u ∧ CB D Wf A u t) A) args s mc ms A → p.tables.exec = Jvm.exec → c.code = cc → meth.sig.returnType = ret → c.maxLocals = maxL → s.vm.findClass y.cls = some m.cls → (∀ w ∈ ws, w.before args s = true) → meth.locks = false → (∀ q, s.heap.size ≤ q → A q) → AMB D tys A s → va_P D vwCl wd s.heap → va_D A wd → va_S A s.heap s.heap [] → ∀ ls : Array Slot, lv_has ls maxL (lv_args 0 as) →
      W p l e (headSpec ws rm).room s m args below meth c s.heap [] 0 0 Q (F0 m 0 ls [])) : CTr l y ws rm D tys as wd post Wf Rf mc ms := ent (Qf := fun A => va_Qr post (fun u a t => a = Rf u ∧ CB D Wf A u t) A) hy hw hn body
section RET
variable {p : Program} {l : Launch} {e : Env} {R : Room} {s : State} {m : MethodId} {args : Array Value} {below : List Frame} {meth : Method} {c : Code} {H : Heap} {locs : List Loc} {cells slots : Nat} {D : va_G} {S : Type} {Wf : S → va_W} {A : Nat → Prop} {cc : ByteArray} {pc : Nat} {ls : Array Slot} {mc ms : Nat} {Q : State → Prop}
theorem rt_i {post : Int32 → S → Prop} {v : Int32} (u : S) (hQ : Q = MQ below (va_Qi post (CB D Wf A) A) args s mc ms A) (hx : p.tables.exec = Jvm.exec) (hb : c.code = cc) (hr : meth.sig.returnType = some .int) (hlk : meth.locks = false) (hP : va_P D vwCl (Wf u) H) (hD : va_D A (Wf u)) (hS : va_S A s.heap H locs) (hc : cells ≤ mc ∧ slots ≤ ms) (hdg : decode cc pc = .ok (.ireturn, 1)) (h : post v u) : W p l e R s m args below meth c H locs cells slots Q (F0 m pc ls [.int v]) := by
  subst hQ
  exact W.widen hc.1 hc.2 (W.iret (v := v) hx hb hr (fun t ht _ => ⟨⟨v, u, rfl, h, by rw [ht]; exact hP, hD⟩, hS.F ht⟩) hS.2.2 hdg hlk)
theorem rt_z {post : Int32 → S → Prop} {v : Int32} (u : S) (hQ : Q = MQ below (va_Qi post (CB D Wf A) A) args s mc ms A) (hx : p.tables.exec = Jvm.exec) (hb : c.code = cc) (hr : meth.sig.returnType = some .boolean) (hlk : meth.locks = false) (hP : va_P D vwCl (Wf u) H) (hD : va_D A (Wf u)) (hS : va_S A s.heap H locs) (hc : cells ≤ mc ∧ slots ≤ ms) (hz : v = 0 ∨ v = 1) (hdg : decode cc pc = .ok (.ireturn, 1)) (h : post v u) : W p l e R s m args below meth c H locs cells slots Q (F0 m pc ls [.int v]) := by
  subst hQ
  exact W.widen hc.1 hc.2 (W.zret (v := v) hx hb hr (by rcases hz with rfl | rfl <;> rfl) (fun t ht _ => ⟨⟨v, u, rfl, h, by rw [ht]; exact hP, hD⟩, hS.F ht⟩) hS.2.2 hdg hlk)
theorem rt_l {post : Int64 → S → Prop} {v : Int64} (u : S) (hQ : Q = MQ below (va_Ql post (CB D Wf A) A) args s mc ms A) (hx : p.tables.exec = Jvm.exec) (hb : c.code = cc) (hr : meth.sig.returnType = some .long) (hlk : meth.locks = false) (hP : va_P D vwCl (Wf u) H) (hD : va_D A (Wf u)) (hS : va_S A s.heap H locs) (hc : cells ≤ mc ∧ slots ≤ ms) (hdg : decode cc pc = .ok (.lreturn, 1)) (h : post v u) : W p l e R s m args below meth c H locs cells slots Q (F0 m pc ls [.long v]) := by
  subst hQ
  exact W.widen hc.1 hc.2 (W.lret (v := v) hx hb hr (fun t ht _ => ⟨⟨v, u, rfl, h, by rw [ht]; exact hP, hD⟩, hS.F ht⟩) hS.2.2 hdg hlk)
theorem rt_v {post : S → Prop} (u : S) (hQ : Q = MQ below (va_Qv post (CB D Wf A) A) args s mc ms A) (hx : p.tables.exec = Jvm.exec) (hb : c.code = cc) (hr : meth.sig.returnType = none) (hlk : meth.locks = false) (hP : va_P D vwCl (Wf u) H) (hD : va_D A (Wf u)) (hS : va_S A s.heap H locs) (hc : cells ≤ mc ∧ slots ≤ ms) (hdg : decode cc pc = .ok (.return_, 1)) (h : post u) : W p l e R s m args below meth c H locs cells slots Q (F0 m pc ls []) := by
  subst hQ
  exact W.widen hc.1 hc.2 (W.vret hx hb hr (fun t ht _ => ⟨⟨u, rfl, h, by rw [ht]; exact hP, hD⟩, hS.F ht⟩) hS.2.2 hdg hlk)
theorem rt_r {post : S → Prop} {Rf : S → Nat} {C : String} (u : S) (hQ : Q = MQ below (va_Qr post (fun u a t => a = Rf u ∧ CB D Wf A u t) A) args s mc ms A) (hx : p.tables.exec = Jvm.exec) (hb : c.code = cc) (hr : meth.sig.returnType = some (.object C)) (hlk : meth.locks = false) (hP : va_P D vwCl (Wf u) H) (hD : va_D A (Wf u)) (hS : va_S A s.heap H locs) (hc : cells ≤ mc ∧ slots ≤ ms) (hdg : decode cc pc = .ok (.areturn, 1)) (h : post u) : W p l e R s m args below meth c H locs cells slots Q (F0 m pc ls [.ref (Rf u)]) := by
  subst hQ
  exact W.widen hc.1 hc.2 (W.aret hx hb hr (Or.inl ⟨C, rfl⟩) (Or.inr ⟨_, rfl⟩) (fun t ht _ => ⟨⟨u, Rf u, rfl, h, rfl, by rw [ht]; exact hP, hD⟩, hS.F ht⟩) hS.2.2 hdg hlk)
end RET
/-- what a callee may change, the caller may -/
theorem wd_in {A : Nat → Prop} {wd : va_W} {s : State} {H : Heap} {locs : List Loc} (hD : va_D A wd) (hS : va_S A s.heap H locs) (hA : ∀ q, s.heap.size ≤ q → A q) : ∀ q, va_A wd H.size q → A q := by
  intro q h
  rcases h with ⟨k, e, h⟩ | h
  · exact hD.2 k (q, e) h
  · exact hA q (Nat.le_trans hS.1 h)
/-- the start of a callee's contract, out of what the caller knows -/
theorem wd_pre {D : va_G} {tys : List (ClassId × FieldType)} {A : Nat → Prop} {wd : va_W} {s : State} {H : Heap} {locs : List Loc} {as : List Value} (hAB : AMB D tys A s) (hP : va_P D vwCl wd H) (hD : va_D A wd) (hS : va_S A s.heap H locs) (hA : ∀ q, s.heap.size ≤ q → A q) : ∀ U : State, U.heap = H → s.WarmedH U.vm → CPre D tys as wd H.size as.toArray U := by
  intro U hU hW
  subst hU
  exact ⟨rfl, rfl, hP, hAB.at hS hW (wd_in hD hS hA), hD.weaken (fun _ _ _ _ => trivial)⟩
section CAL
variable {p : Program} {l : Launch} {e : Env} {R : Room} {s : State} {m : MethodId} {args : Array Value} {below : List Frame} {meth : Method} {c : Code} {H : Heap} {locs : List Loc} {cells slots : Nat} {D : va_G} {S : Type} {Wf : S → va_W} {A : Nat → Prop} {pc : Nat} {ls : Array Slot} {mc ms : Nat} {rest st0 : List Value} {Q : State → Prop} {wd : va_W} {a : Array Value}
theorem cl_i {post : Int32 → S → Prop} (hD : va_D A wd) (hS : va_S A s.heap H locs) (hA : ∀ q, s.heap.size ≤ q → A q) (hr : va_Run p l e R s m args below meth c H locs cells slots mc ms (F0 m pc ls st0) rest (va_Qi post (CB D Wf (va_A wd H.size)) (va_A wd H.size) a) (va_A wd H.size))
    (kk : ∀ (r : Int32) (u : S) (H1 : Heap) (locs1 : List Loc), post r u → va_P D vwCl (Wf u) H1 → va_D A (Wf u) → va_S A s.heap H1 locs1 → W p l e R s m args below meth c H1 locs1 (cells + mc) (slots + ms) Q (F0 m (pc + 3) ls (.int r :: rest))) : W p l e R s m args below meth c H locs cells slots Q (F0 m pc ls st0) := by
  have hF := wd_in hD hS hA
  refine va_calli hr hS (fun q _ h => hF q h) hF (fun r u t H1 locs1 ht hvm hw hB hz hk hS1 => ?_)
  obtain ⟨hP1, hD1⟩ := hB
  rw [ht] at hP1
  exact kk r u H1 locs1 hw hP1 (hD1.weaken (fun _ q _ h => hF q.1 h)) hS1
theorem cl_l {post : Int64 → S → Prop} (hD : va_D A wd) (hS : va_S A s.heap H locs) (hA : ∀ q, s.heap.size ≤ q → A q) (hr : va_Run p l e R s m args below meth c H locs cells slots mc ms (F0 m pc ls st0) rest (va_Ql post (CB D Wf (va_A wd H.size)) (va_A wd H.size) a) (va_A wd H.size))
    (kk : ∀ (r : Int64) (u : S) (H1 : Heap) (locs1 : List Loc), post r u → va_P D vwCl (Wf u) H1 → va_D A (Wf u) → va_S A s.heap H1 locs1 → W p l e R s m args below meth c H1 locs1 (cells + mc) (slots + ms) Q (F0 m (pc + 3) ls (.long r :: rest))) : W p l e R s m args below meth c H locs cells slots Q (F0 m pc ls st0) := by
  have hF := wd_in hD hS hA
  refine va_calll hr hS (fun q _ h => hF q h) hF (fun r u t H1 locs1 ht hvm hw hB hz hk hS1 => ?_)
  obtain ⟨hP1, hD1⟩ := hB
  rw [ht] at hP1
  exact kk r u H1 locs1 hw hP1 (hD1.weaken (fun _ q _ h => hF q.1 h)) hS1
theorem cl_v {post : S → Prop} (hD : va_D A wd) (hS : va_S A s.heap H locs) (hA : ∀ q, s.heap.size ≤ q → A q) (hr : va_Run p l e R s m args below meth c H locs cells slots mc ms (F0 m pc ls st0) rest (va_Qv post (CB D Wf (va_A wd H.size)) (va_A wd H.size) a) (va_A wd H.size))
    (kk : ∀ (u : S) (H1 : Heap) (locs1 : List Loc), post u → va_P D vwCl (Wf u) H1 → va_D A (Wf u) → va_S A s.heap H1 locs1 → W p l e R s m args below meth c H1 locs1 (cells + mc) (slots + ms) Q (F0 m (pc + 3) ls rest)) : W p l e R s m args below meth c H locs cells slots Q (F0 m pc ls st0) := by
  have hF := wd_in hD hS hA
  refine va_callv hr hS (fun q _ h => hF q h) hF (fun u t H1 locs1 ht hvm hw hB hz hk hS1 => ?_)
  obtain ⟨hP1, hD1⟩ := hB
  rw [ht] at hP1
  exact kk u H1 locs1 hw hP1 (hD1.weaken (fun _ q _ h => hF q.1 h)) hS1
theorem cl_r {post : S → Prop} {Rf : S → Nat} (hD : va_D A wd) (hS : va_S A s.heap H locs) (hA : ∀ q, s.heap.size ≤ q → A q) (hr : va_Run p l e R s m args below meth c H locs cells slots mc ms (F0 m pc ls st0) rest (va_Qr post (fun u a t => a = Rf u ∧ CB D Wf (va_A wd H.size) u t) (va_A wd H.size) a) (va_A wd H.size))
    (kk : ∀ (u : S) (H1 : Heap) (locs1 : List Loc), post u → va_P D vwCl (Wf u) H1 → va_D A (Wf u) → va_S A s.heap H1 locs1 → W p l e R s m args below meth c H1 locs1 (cells + mc) (slots + ms) Q (F0 m (pc + 3) ls (.ref (Rf u) :: rest))) : W p l e R s m args below meth c H locs cells slots Q (F0 m pc ls st0) := by
  have hF := wd_in hD hS hA
  refine va_callr hr hS (fun q _ h => hF q h) hF (fun u ra t H1 locs1 ht hvm hw hB hz hk hS1 => ?_)
  obtain ⟨rfl, hP1, hD1⟩ := hB
  rw [ht] at hP1
  exact kk u H1 locs1 hw hP1 (hD1.weaken (fun _ q _ h => hF q.1 h)) hS1
end CAL
theorem vp_lt {i : Int32} {n : Nat} (h : vp_in i n) : i.toNatClampNeg < n := Nat.not_le.mp fun q => h (Or.inr q)
theorem tb_out6 {x : Int32} (c0 : ¬ x = 0) (c1 : ¬ x = 1) (c2 : ¬ x = 2) (c3 : ¬ x = 3) (c4 : ¬ x = 4) (c5 : ¬ x = 5) : x.toInt < 0 ∨ (5 : Int) < x.toInt := by
  have h0 := lv_neT (a := 0) c0 rfl
  have h1 := lv_neT (a := 1) c1 rfl
  have h2 := lv_neT (a := 2) c2 rfl
  have h3 := lv_neT (a := 3) c3 rfl
  have h4 := lv_neT (a := 4) c4 rfl
  have h5 := lv_neT (a := 5) c5 rfl
  omega
theorem tb_out7 {x : Int32} (c0 : ¬ x = 0) (c1 : ¬ x = 1) (c2 : ¬ x = 2) (c3 : ¬ x = 3) (c4 : ¬ x = 4) (c5 : ¬ x = 5) (c6 : ¬ x = 6) : x.toInt < 0 ∨ (6 : Int) < x.toInt := by
  have h0 := lv_neT (a := 0) c0 rfl
  have h1 := lv_neT (a := 1) c1 rfl
  have h2 := lv_neT (a := 2) c2 rfl
  have h3 := lv_neT (a := 3) c3 rfl
  have h4 := lv_neT (a := 4) c4 rfl
  have h5 := lv_neT (a := 5) c5 rfl
  have h6 := lv_neT (a := 6) c6 rfl
  omega
theorem tb_out31 {x : Int32} (c0 : ¬ x = 0) (c1 : ¬ x = 1) (c2 : ¬ x = 2) (c3 : ¬ x = 3) (c4 : ¬ x = 4) (c5 : ¬ x = 5) (c6 : ¬ x = 6) (c7 : ¬ x = 7) (c8 : ¬ x = 8) (c9 : ¬ x = 9) (c10 : ¬ x = 10) (c11 : ¬ x = 11) (c12 : ¬ x = 12) (c13 : ¬ x = 13) (c14 : ¬ x = 14) (c15 : ¬ x = 15) (c16 : ¬ x = 16) (c17 : ¬ x = 17) (c18 : ¬ x = 18) (c19 : ¬ x = 19) (c20 : ¬ x = 20) (c21 : ¬ x = 21) (c22 : ¬ x = 22) (c23 : ¬ x = 23) (c24 : ¬ x = 24) (c25 : ¬ x = 25) (c26 : ¬ x = 26) (c27 : ¬ x = 27) (c28 : ¬ x = 28) (c29 : ¬ x = 29) (c30 : ¬ x = 30) : x.toInt < 0 ∨ (30 : Int) < x.toInt := by
  have h0 := lv_neT (a := 0) c0 rfl
  have h1 := lv_neT (a := 1) c1 rfl
  have h2 := lv_neT (a := 2) c2 rfl
  have h3 := lv_neT (a := 3) c3 rfl
  have h4 := lv_neT (a := 4) c4 rfl
  have h5 := lv_neT (a := 5) c5 rfl
  have h6 := lv_neT (a := 6) c6 rfl
  have h7 := lv_neT (a := 7) c7 rfl
  have h8 := lv_neT (a := 8) c8 rfl
  have h9 := lv_neT (a := 9) c9 rfl
  have h10 := lv_neT (a := 10) c10 rfl
  have h11 := lv_neT (a := 11) c11 rfl
  have h12 := lv_neT (a := 12) c12 rfl
  have h13 := lv_neT (a := 13) c13 rfl
  have h14 := lv_neT (a := 14) c14 rfl
  have h15 := lv_neT (a := 15) c15 rfl
  have h16 := lv_neT (a := 16) c16 rfl
  have h17 := lv_neT (a := 17) c17 rfl
  have h18 := lv_neT (a := 18) c18 rfl
  have h19 := lv_neT (a := 19) c19 rfl
  have h20 := lv_neT (a := 20) c20 rfl
  have h21 := lv_neT (a := 21) c21 rfl
  have h22 := lv_neT (a := 22) c22 rfl
  have h23 := lv_neT (a := 23) c23 rfl
  have h24 := lv_neT (a := 24) c24 rfl
  have h25 := lv_neT (a := 25) c25 rfl
  have h26 := lv_neT (a := 26) c26 rfl
  have h27 := lv_neT (a := 27) c27 rfl
  have h28 := lv_neT (a := 28) c28 rfl
  have h29 := lv_neT (a := 29) c29 rfl
  have h30 := lv_neT (a := 30) c30 rfl
  omega

