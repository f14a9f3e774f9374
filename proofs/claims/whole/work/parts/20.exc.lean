/-! exceptions: the search for a handler, methods that throw, their catching in a method with two handlers, what a throw needs -/
section XA
/-- one row of the search for a handler: its class is linked (cold or warm), then asked -/
theorem xt_go {Q : Handler → Pre} {E : CtlPost} {e : Env} {d : Bool} {acts : List Action} {s : State} {f : JFrame} {a : Addr} {x : ExceptionTableEntry} {t : List ExceptionTableEntry} {k : ClassId} {cell : Cell} (hx : covers x f.pc = true) (h0 : x.catchType ≠ 0) (hl : s.vm.ClassLinks e.platform f.method.cls x.catchType k) (hcell : s.heap[a]? = some cell) (hobj : ∀ z, cell.vm ≠ .statics z) (hk : ∃ z, s.vm.classes[cell.cls]? = some z) (hc : ∃ z, s.vm.classes[k]? = some z) :
    wp (findHandler.go f a (x :: t)) Q E e d acts s ↔ (if s.vm.assignable cell.cls k = true then Q (.found x.handlerPc) d acts (s.setVm (s.vm.noted f.method.cls x.catchType (.cls k))) else wp (findHandler.go f a t) Q E e d acts (s.setVm (s.vm.noted f.method.cls x.catchType (.cls k)))) := by
  have hgiv := (resolveClass_links e.toSetting hl).op (op := VmOp.resolveClass f.method.cls x.catchType) rfl
  have hal : s.vm.Alike (s.vm.noted f.method.cls x.catchType (.cls k)) := (Vm.Alike.refl s.vm).noted _ _ _
  obtain ⟨z1, hz1⟩ := hk
  obtain ⟨z2, hz2⟩ := hc
  obtain ⟨y1, hy1, -⟩ := hal.2.2 _ _ hz1
  obtain ⟨y2, hy2, -⟩ := hal.2.2 _ _ hz2
  have hasg := hal.assignable cell.cls k
  simp only [covers] at hx
  cases hfit : s.vm.assignable cell.cls k with
  | true =>
    rw [hfit] at hasg
    simp [findHandler.go, hx, h0, hgiv.1, hgiv.2, hcell, hobj, hy1, hy2, hasg, VmOp.dirties, VmOp.acts]
  | false =>
    rw [hfit] at hasg
    simp [findHandler.go, hx, h0, hgiv.1, hgiv.2, hcell, hobj, hy1, hy2, hasg, VmOp.dirties, VmOp.acts]
/-- what the search gives, and the tables that it leaves -/
def xt_F (e : Env) (s : State) (f : JFrame) (a : Addr) (pc : Nat) (vm' : Vm) : Prop := ∀ (Q : Handler → Pre) (E : CtlPost) (d : Bool) (acts : List Action), wp (findHandler f a) Q E e d acts s ↔ Q (.found pc) d acts (s.setVm vm')
theorem xt_into {tb : Tables} {e : Env} {s target : State} {g : JFrame} {c : Code} {below : List Frame} {a : Addr} (h : At s g.method c below) {pc : Nat} {vm' : Vm} (hfind : xt_F e ((s.setTop g).pushFrame (.throwing a)) g a pc vm') (hrest : Steps tb e below ((s.setVm vm').setTop { g with pc := pc, stack := [.ref a] }) target) : Steps tb e below ((s.setTop g).pushFrame (.throwing a)) target := by
  obtain ⟨hgo, hw⟩ := h.throwing a
  obtain ⟨g₀, hg⟩ := Option.isSome_iff_exists.mp h.top
  obtain ⟨r, hr⟩ := State.topJava?_eq_some.mp hg
  have hstep : ∀ r' : List Frame, (stepThrowing e ((s.setTop g).pushFrame (.throwing a)) a (.java g :: r')).Is ((((s.setTop g).pushFrame (.throwing a)).setVm vm').setFrames (.java { g with pc := pc, stack := [.ref a] } :: r')) [] := by
    intro r'
    simp only [stepThrowing, searchFrame, vmDo]
    generalize hres : Sem.go _ e false [] ((s.setTop g).pushFrame (.throwing a)) = res
    obtain ⟨as, rfl, ha⟩ := Sem.eq_ok_of hres (a := Handler.found pc) (s' := ((s.setTop g).pushFrame (.throwing a)).setVm vm') (acts' := []) (by simp [hfind _ _ _ _])
    exact ⟨rfl, ha⟩
  refine Steps.head hgo hw ?_
  rw [stepThread_throwing (frames_entered h.top _), (hstep _).1]
  have hr' : (s.setVm vm').frames = .java g₀ :: r := hr
  rw [State.setTop_of_frames _ hr'] at hrest
  have e1 : ∀ (u : State) (F G : List Frame), ((u.setFrames F).setVm vm').setFrames G = (u.setVm vm').setFrames G := fun u F G => by
    show ((u.setVm vm').setFrames F).setFrames G = _
    rw [State.setFrames_setFrames]
  rw [hr, List.tail_cons, State.pushFrame, e1, State.setTop_of_frames _ hr, e1]
  exact hrest
end XA
section XB
variable {p : Program} {l : Launch} {e : Env} {R : Room} {s : State} {m : MethodId} {args : Array Value} {below : List Frame} {meth : Method} {c : Code} {H : Heap} {locs : List Loc} {cells slots : Nat} {Q : State → Prop}
/-- q is thrown over this frame -/
def XW (p : Program) (l : Launch) (e : Env) (R : Room) (s : State) (m : MethodId) (args : Array Value) (below : List Frame) (meth : Method) (c : Code) (H : Heap) (locs : List Loc) (cells slots : Nat) (Q : State → Prop) (g : JFrame) (q : Addr) : Prop :=
  ∀ T : State, T.heap = H → Stand p l e R s m args below meth c T locs cells slots → ∃ t, Steps p.tables e below ((T.setTop g).pushFrame (.throwing q)) t ∧ Q t
/-- a table of two rows, both over the pc: the first catches -/
theorem xt_catch1 {own E n1 : String} {x1 x2 : ExceptionTableEntry} {ce : Cell} {q : Addr} {pc : Nat} {ls : Array Slot} {rest : List Value} (hown : s.vm.findClass own = some m.cls) (htab : c.exceptionTable.toList = [x1, x2]) (hx1 : covers x1 pc = true) (h1 : x1.catchType ≠ 0)
    (hl1 : (Cond.classLink own x1.catchType n1).before args s = true) (hcast : (Cond.castable E n1).before args s = true) (hcell : H[q]? = some ce) (hv : ce.vm = .none) (hcl : s.vm.findClass E = some ce.cls)
    (kk : W p l e R s m args below meth c H locs cells slots Q (F0 m x1.handlerPc ls [.ref q])) : XW p l e R s m args below meth c H locs cells slots Q (F0 m pc ls rest) q := by
  intro T hT X
  have hpl : e.platform.magicAccessors = ({} : Platform).magicAccessors := by rw [X.admits.platform]
  obtain ⟨k1, k2, hk1, hk2, hasg⟩ := Cond.castable_spec hcast
  cases Option.some.inj (hk1.symm.trans hcl)
  obtain ⟨k3, hk3, hcls⟩ := Cond.classLink_spec hown hl1 e.platform hpl
  cases Option.some.inj (hk2.symm.trans hk3)
  obtain ⟨dk, _, _, kt, hd, _, _, _, _, hkt, _, hopen⟩ := hcls.here
  have hal := X.warmed.alike
  have hW1 := X.warmed.noted hd hopen (State.rightAt_cls hcls)
  obtain ⟨kt', hkt', -⟩ := hal.2.2 _ _ hkt
  obtain ⟨ko, hko, -⟩ := Vm.findClass_spec hcl
  obtain ⟨ko', hko', -⟩ := hal.2.2 _ _ hko
  have hfit : T.vm.assignable ce.cls k2 = true := by rw [hal.assignable]; exact hasg
  obtain ⟨t, a1, b1⟩ := kk (T.setVm (T.vm.noted m.cls x1.catchType (.cls k2))) hT (X.noted hW1)
  refine ⟨t, ?_, b1⟩
  refine xt_into (g := F0 m pc ls rest) X.here (pc := x1.handlerPc) (vm' := T.vm.noted m.cls x1.catchType (.cls k2)) ?_ a1
  intro Q' E' d acts
  rw [W.findHandler_eq (meth := meth) (code := c) X.method' X.code, htab]
  rw [xt_go (s := (T.setTop (F0 m pc ls rest)).pushFrame (.throwing q)) (f := F0 m pc ls rest) (a := q) (x := x1) (t := [x2]) (k := k2) (cell := ce) hx1 h1 (X.warmed.classLinks hcls) (by show T.heap[q]? = _; rw [hT]; exact hcell) (fun z h => by rw [hv] at h; cases h) ⟨ko', hko'⟩ ⟨kt', hkt'⟩]
  rw [if_pos (show ((T.setTop (F0 m pc ls rest)).pushFrame (.throwing q)).vm.assignable ce.cls k2 = true from hfit)]
  exact Iff.rfl
/-- a table of two rows, both over the pc: the first passes, the second catches -/
theorem xt_catch2 {own E n1 n2 : String} {x1 x2 : ExceptionTableEntry} {ce : Cell} {q : Addr} {pc : Nat} {ls : Array Slot} {rest : List Value} (hown : s.vm.findClass own = some m.cls) (htab : c.exceptionTable.toList = [x1, x2]) (hx1 : covers x1 pc = true) (h1 : x1.catchType ≠ 0) (hx2 : covers x2 pc = true) (h2 : x2.catchType ≠ 0)
    (hl1 : (Cond.classLink own x1.catchType n1).before args s = true) (hno : (Cond.not (.castable E n1)).before args s = true) (hl2 : (Cond.classLink own x2.catchType n2).before args s = true) (hcast : (Cond.castable E n2).before args s = true) (hcell : H[q]? = some ce) (hv : ce.vm = .none) (hcl : s.vm.findClass E = some ce.cls)
    (kk : W p l e R s m args below meth c H locs cells slots Q (F0 m x2.handlerPc ls [.ref q])) : XW p l e R s m args below meth c H locs cells slots Q (F0 m pc ls rest) q := by
  intro T hT X
  have hpl : e.platform.magicAccessors = ({} : Platform).magicAccessors := by rw [X.admits.platform]
  obtain ⟨k1, k2, hk1, hk2, hasg⟩ := Cond.castable_spec hcast
  cases Option.some.inj (hk1.symm.trans hcl)
  obtain ⟨k3, hk3, hcls⟩ := Cond.classLink_spec hown hl2 e.platform hpl
  cases Option.some.inj (hk2.symm.trans hk3)
  obtain ⟨k4, hk4, hcls1⟩ := Cond.classLink_spec hown hl1 e.platform hpl
  have hnv := Cond.holds_not_iff.mp hno
  simp only [Cond.value, hcl, hk4] at hnv
  have hnasg : s.vm.assignable ce.cls k4 = false := Option.some.inj hnv
  obtain ⟨dk, _, _, kt, hd, _, _, _, _, hkt, _, hopen⟩ := hcls1.here
  obtain ⟨dk2, _, _, kt2, hd2, _, _, _, _, hkt2, _, hopen2⟩ := hcls.here
  have hal := X.warmed.alike
  have hW1 := X.warmed.noted hd hopen (State.rightAt_cls hcls1)
  have hW2 := hW1.noted hd2 hopen2 (State.rightAt_cls hcls)
  obtain ⟨kt', hkt', -⟩ := hal.2.2 _ _ hkt
  obtain ⟨kt2', hkt2', -⟩ := hW1.alike.2.2 _ _ hkt2
  obtain ⟨ko, hko, -⟩ := Vm.findClass_spec hcl
  obtain ⟨ko', hko', -⟩ := hal.2.2 _ _ hko
  obtain ⟨ko2', hko2', -⟩ := hW1.alike.2.2 _ _ hko
  have hnfit : ¬ T.vm.assignable ce.cls k4 = true := by rw [hal.assignable, hnasg]; decide
  have hfit : (T.vm.noted m.cls x1.catchType (.cls k4)).assignable ce.cls k2 = true := by rw [hW1.alike.assignable]; exact hasg
  obtain ⟨t, a1, b1⟩ := kk (T.setVm ((T.vm.noted m.cls x1.catchType (.cls k4)).noted m.cls x2.catchType (.cls k2))) hT (X.noted hW2)
  refine ⟨t, ?_, b1⟩
  refine xt_into (g := F0 m pc ls rest) X.here (pc := x2.handlerPc) (vm' := (T.vm.noted m.cls x1.catchType (.cls k4)).noted m.cls x2.catchType (.cls k2)) ?_ a1
  intro Q' E' d acts
  rw [W.findHandler_eq (meth := meth) (code := c) X.method' X.code, htab]
  rw [xt_go (s := (T.setTop (F0 m pc ls rest)).pushFrame (.throwing q)) (f := F0 m pc ls rest) (a := q) (x := x1) (t := [x2]) (k := k4) (cell := ce) hx1 h1 (X.warmed.classLinks hcls1) (by show T.heap[q]? = _; rw [hT]; exact hcell) (fun z h => by rw [hv] at h; cases h) ⟨ko', hko'⟩ ⟨kt', hkt'⟩]
  rw [if_neg (show ¬ ((T.setTop (F0 m pc ls rest)).pushFrame (.throwing q)).vm.assignable ce.cls k4 = true from hnfit)]
  have g2 := xt_go (Q := Q') (E := E') (d := d) (acts := acts) (e := e) (s := ((T.setTop (F0 m pc ls rest)).pushFrame (.throwing q)).setVm (T.vm.noted m.cls x1.catchType (.cls k4))) (f := F0 m pc ls rest) (a := q) (x := x2) (t := []) (k := k2) (cell := ce) hx2 h2 (hW1.classLinks hcls) (by show T.heap[q]? = _; rw [hT]; exact hcell) (fun z h => by rw [hv] at h; cases h) ⟨ko2', hko2'⟩ ⟨kt2', hkt2'⟩
  rw [if_pos (show (((T.setTop (F0 m pc ls rest)).pushFrame (.throwing q)).setVm (T.vm.noted m.cls x1.catchType (.cls k4))).vm.assignable ce.cls k2 = true from hfit)] at g2
  exact g2
end XB
section XC
/-- how a method that throws ends: q, what of it is known, what was written and made -/
def XQ (Xc : State → Addr → State → Prop) (mc ms : Nat) (free : Addr → Prop) : Array Value → State → Outcome → State → Prop := fun _ st o t => ∃ q, o = .threw q ∧ Xc st q t ∧ ∃ L, st.WarmedH t.vm ∧ st.sameButNew ({ t with vm := st.vm } : State) L mc ms ∧ ∀ z ∈ L, free z.base
/-- a contract of a method that throws -/
def XMet (l : Launch) (y : MethodName) (ws : List Cond) (rm : Room) (Pc : Array Value → State → Prop) (Xc : State → Addr → State → Prop) (mc ms : Nat) (free : Addr → Prop) : Prop := MetFree l y (headSpec ws rm) Pc (fun _ _ _ _ _ => True) (XQ Xc mc ms free)
def XMQ (below : List Frame) (Xc : State → Addr → State → Prop) (a : Array Value) (s : State) (mc ms : Nat) (free : Addr → Prop) : State → Prop := fun t => ∃ o, t.status = .running ∧ Ended t below o ∧ XQ Xc mc ms free a s o t
theorem XMet.ofW {l : Launch} {y : MethodName} {ws ws' : List Cond} {rm : Room} {Pc : Array Value → State → Prop} {Xc : State → Addr → State → Prop} {mc ms : Nat} {free : Addr → Prop} {cc : ByteArray} {maxL : Nat} {ret : Option FieldType}
    (hy : plainName y.cls = true) (hw : ws = Cond.code y cc maxL ret :: ws')
    (body : ∀ p e s m args below meth c s₁, BodyLoose p l y (headSpec ws rm) cc maxL ret e s m args below meth c s₁ → c.maxLocals = maxL → (∀ x ∈ c.exceptionTable.toList, False) → Pc args s →
      W p l e (headSpec ws rm).room s m args below meth c s.heap [] 0 0 (XMQ below Xc args s mc ms free) (entryFrame m args maxL)) : XMet l y ws rm Pc Xc mc ms free := by
  refine MetFree.of_bodyS (code := cc) (maxLocals := maxL) (ret := ret) hy ?_ ?_
  · intro args s m h hn
    obtain ⟨meth, c, h1, h2, h3, h4, h5, h6, -, -⟩ := Cond.code_spec hn (atoms_spec (ws := ws) h _ (by rw [hw]; exact List.mem_cons_self))
    exact ⟨meth, c, h1, h2, h3, h4, h5, h6⟩
  · intro p e s m args below meth c s₁ B hml hP _
    have hh0 : s₁.heap = s.heap := by rw [B.state]; rfl
    have hemp : c.exceptionTable.isEmpty = true := BodyLoose.noHandlers B (atoms_spec (ws := ws) B.pre _ (by rw [hw]; exact List.mem_cons_self))
    have hemp' : ∀ x ∈ c.exceptionTable.toList, False := fun x hx => by
      rw [Array.isEmpty_iff.mp hemp] at hx
      cases hx
    obtain ⟨t, a1, o, b1, b2, b3⟩ := body p e s m args below meth c s₁ B hml hemp' hP s₁ hh0 (Stand.of_body B)
    exact ⟨t, o, a1, b1, b2, b3⟩
end XC
