/-! a throw of this method's own; what it needs of the tables and the statics, and how that is handed on -/
section XE
variable {p : Program} {l : Launch} {e : Env} {R : Room} {s : State} {m : MethodId} {args : Array Value} {below : List Frame} {meth : Method} {c : Code} {H : Heap} {locs : List Loc} {cells slots : Nat} {Q : State → Prop}
/-- 'throw new E("text")' in a method that has written nothing: new; dup; ldc; invokespecial; athrow -/
theorem xt_throw {cc : ByteArray} {pc : Nat} {ls : Array Slot} {rest : List Value} {Xc : State → Addr → State → Prop} {free : Addr → Prop} (hexec : p.tables.exec = Jvm.exec) (hb : c.code = cc) (hl : l.stackTraces = false) {own cls text : String} {names : List String} {ik is ic sa : Nat}
    (hown : s.vm.findClass own = some m.cls) (hcls : Bundle.fit cls = true) (hnames : ∀ n ∈ names, Bundle.fit n = true)
    (hk : (Cond.classLink own ik cls).before args s = true) (hini : (Cond.initialized cls).before args s = true) (hs1 : (Cond.stringRef own is text).before args s = true) (hs2 : (Term.string own is).eval args s none [] s = some (.ref sa)) (hat : ∀ w ∈ Bundle.ownAtoms own ic cls names, w.before args s = true) (hsize : ls.size = c.maxLocals)
    (d0 : decode cc pc = .ok (.new ik, 3)) (d3 : decode cc (pc + 3) = .ok (.dup, 1)) (d4 : decode cc (pc + 4) = .ok (.ldc is, 2)) (d6 : decode cc (pc + 6) = .ok (.invokespecial ic, 3)) (d9 : decode cc (pc + 9) = .ok (.athrow, 1))
    (hout : ∀ x ∈ c.exceptionTable.toList, False) (hRframes : names.length + 3 < R.frames) (hRlocals : (rest.map fun v => v.category).sum + (13 * (names.length + 1) + 43) ≤ R.locals) (hRcells : 1 ≤ R.cells) (hRslots : 6 ≤ R.slots) (hlocks : meth.locks = false)
    (hx : ∀ (t : State) (q : Addr) (ce : Cell), s.vm.Alike t.vm → s.heap.size ≤ t.heap.size → (∀ a : Nat, a < s.heap.size → t.heap[a]? = s.heap[a]?) → t.heap[q]? = some ce → ce.vm = .none → s.vm.findClass cls = some ce.cls → Xc s q t) :
    W p l e R s m args below meth c s.heap [] 0 0 (XMQ below Xc args s 1 6 free) (F0 m pc ls rest) := by
  intro T hT X
  have htr : e.platform.stackTraces = false := (show e.platform.stackTraces = l.stackTraces by rw [X.admits.platform]).trans hl
  have hins : (Cond.instantiable cls 6).before args s = true := hat _ (by simp [Bundle.ownAtoms])
  obtain ⟨vm₁, cX, kX, hfX, hkX, -, -, X₁, st1⟩ := X.newCold hexec (own := own) (C := cls) (index := ik) (n := 6) hown hk hins hini (g := F0 m pc ls rest) rfl (by rw [hb]; exact d0) (by omega) (by omega)
  generalize hT1 : (T.setVm vm₁).pushCell { cls := cX, slots := kX.instanceTypes.map defaultValue, vm := .none } = T1 at X₁ st1
  have hcellA : T1.heap[T.heap.size]? = some (freshCell cX kX) := by rw [← hT1]; exact State.heap_pushCell_size _ _
  have d3' : decode c.code (pc + 3) = .ok (.dup, 1) := by rw [hb]; exact d3
  have hcat : (Value.ref T.heap.size).category = 1 := rfl
  obtain ⟨U, hsteps, hrun, hend, hW, hsame, ce, hce, hO⟩ := X₁.ctorThrowS hexec htr (own := own) (cls := cls) (names := names) (ic := ic) hown hcls hnames hat (fun x hx => nomatch hx) hfX hkX hcellA (by rw [hT]; exact Nat.le_refl _) (msg := .ref sa) rfl
    (g := { method := m, pc := pc + 6, locals := ls, stack := .ref sa :: .ref T.heap.size :: .ref T.heap.size :: rest, locked := none }) rfl hsize rfl rfl (rest := rest) rfl
    (by rw [hb]; exact d6) (by rw [hb]; exact d9) (fun x hx => absurd (hout x hx) id) hRframes (by simp only [List.map_cons, List.sum_cons, hcat]; show 2 * 0 + _ + _ ≤ _; omega) hlocks
  have hkeep : ∀ a : Nat, a < s.heap.size → U.heap[a]? = s.heap[a]? := by
    intro a ha
    obtain ⟨-, -, -, -, -, h6⟩ := hsame
    obtain ⟨c9, e1, e2, e3, e4⟩ := h6 a _ (Array.getElem?_eq_getElem ha)
    have hsl : c9.slots = (s.heap[a]).slots := Array.ext_getElem? fun i => e4 i fun hm => nomatch hm
    have h9 : c9 = s.heap[a] := by rw [hsl] at e2; exact e2
    have e5 : U.heap[a]? = some c9 := e1
    rw [e5, h9, Array.getElem?_eq_getElem ha]
  refine ⟨U, ?_, .threw T.heap.size, hrun, hend, T.heap.size, rfl, hx U _ ce hW.alike hsame.2.1 hkeep hce hO.vm hO.cls, [], hW, hsame.mono (by omega) (by omega), fun z hz => nomatch hz⟩
  refine st1 _ ?_
  show Steps p.tables e below (T1.setTop { method := m, pc := pc + 3, locals := ls, stack := .ref T.heap.size :: rest, locked := none }) _
  jvm_step X₁.here [X₁.here.top, hexec, d3', Value.category]
  exact X₁.ldcString hexec (own := own) (text := text) (index := is) (a := sa) hown hs1 hs2
    (g := { method := m, pc := pc + 4, locals := ls, stack := .ref T.heap.size :: .ref T.heap.size :: rest, locked := none }) rfl (by rw [hb]; exact d4) _ hsteps
end XE
