/-! what the throws of HuffForge need, as one premise xq, and how it is handed on to a later state -/
abbrev xIA : String := "java/lang/IllegalArgumentException"
abbrev xIS : String := "java/lang/IllegalStateException"
abbrev xn : List String := ["java/lang/RuntimeException", "java/lang/Exception"]
def xwA : List Cond := Cond.classLink "HuffForge" 74 xIA :: Cond.initialized xIA :: Bundle.ownAtoms "HuffForge" 78 xIA xn
def xwS : List Cond := Cond.classLink "HuffForge" 87 xIS :: Cond.initialized xIS :: Bundle.ownAtoms "HuffForge" 91 xIS xn
def xstr : List (Nat × String) := [(76, "no such symbol"), (81, "n is below 0"), (89, "more than 1000000 together"), (121, "the symbol has no word"), (126, "no room for the word"), (135, "n is not 0 .. 16"), (137, "no room for the bits")]
def xcn : Cond := Cond.not (.castable xIS xIA)
def xq (U : State) : Prop := (∀ w ∈ xwA, w.before #[] U = true) ∧ (∀ w ∈ xwS, w.before #[] U = true) ∧ (∀ q ∈ xstr, ∃ a, vk_R "HuffForge" q.1 q.2 a U) ∧ xcn.before #[] U = true
/-- the words that are neither good nor on the tables alone -/
def xsp (X : String) : List Cond := [.castable X X, .isRef (.static Bundle.tN "UNASSIGNED_STACK" Bundle.steD), .isRef (.static Bundle.tN "SUPPRESSED_SENTINEL" Bundle.listD), .laysStatic Bundle.tN "UNASSIGNED_STACK" Bundle.steD, .laysStatic Bundle.tN "SUPPRESSED_SENTINEL" Bundle.listD, .declares (Bundle.initS "java/lang/RuntimeException"), .declares (Bundle.initS "java/lang/Exception"), .declares (Bundle.initS Bundle.tN)]
set_option maxRecDepth 20000 in
theorem xwA_ok : ∀ w ∈ xwA, goodWord w = true ∨ w ∈ xsp xIA := by decide +kernel
set_option maxRecDepth 20000 in
theorem xwS_ok : ∀ w ∈ xwS, goodWord w = true ∨ w ∈ xsp xIS := by decide +kernel
set_option maxRecDepth 20000 in
theorem xwA_has : ∀ w ∈ Cond.initialized Bundle.tN :: xsp xIA, w ∈ xwA := by decide +kernel
set_option maxRecDepth 20000 in
theorem xwS_has : ∀ w ∈ Cond.initialized Bundle.tN :: xsp xIS, w ∈ xwS := by decide +kernel
theorem xs_lays {s U : State} {C n d : String} (hW : s.WarmedH U.vm) (hh : ∀ a : Nat, a < s.heap.size → U.heap[a]? = s.heap[a]?) (h : (Cond.laysStatic C n d).before #[] s = true) : (Cond.laysStatic C n d).before #[] U = true := by
  obtain ⟨c, k, i, f, a, cell, h1, h2, h3, h4, h5, h6, h7, h8, h9⟩ := Cond.laysStatic_spec h
  obtain ⟨k', hi', he⟩ := State.fieldFound?_setVm hW.alike h2
  have g1 : U.vm.findClass C = some c := by rw [hW.alike.findClass]; exact h1
  show (Cond.laysStatic C n d).holds #[] U none U [] = true
  exact Cond.laysStatic_of g1 hi' h3 (by rw [he]; exact h4) (by rw [hh a (Array.getElem?_eq_some_iff.mp h5).1]; exact h5) h6 h7 h8 (by rw [he]; exact h9)
theorem xs_ref {s U : State} {C n d : String} (hW : s.WarmedH U.vm) (hh : ∀ a : Nat, a < s.heap.size → U.heap[a]? = s.heap[a]?) (hl : (Cond.laysStatic C n d).before #[] s = true) (hini : (Cond.initialized C).before #[] s = true) (h : (Cond.isRef (.static C n d)).before #[] s = true) : (Cond.isRef (.static C n d)).before #[] U = true := by
  have hz := va_Zq.moved (U := U) hW.alike ((va_Zqof (A := fun _ => False) hl hini h (fun _ _ => id)).kept (H1 := U.heap) (fun a ha _ => hh a ha))
  have key : ∀ v : Value, v.isRef = true → va_Z C n d v (fun _ => False) U U.heap → (Cond.isRef (.static C n d)).before #[] U = true := by
    intro v hv hZ
    obtain ⟨cf, kf, fi, f, a, cell, h1, h2, h3, h4, h5, h6, h7, -⟩ := hZ
    have he : (Term.static C n d).eval #[] U none [] U = some v := by
      simp [Term.eval, State.fieldNamed?, h1, h2, h4, h5, h6, h7]
    simp only [Cond.before, Cond.holds, Cond.value, he]
    cases v <;> simp_all [Value.isRef]
  rcases hz with hz | ⟨t, hz⟩
  · exact key _ rfl hz
  · exact key _ rfl hz
theorem xs_move {X : String} {L : List Cond} (hok : ∀ w ∈ L, goodWord w = true ∨ w ∈ xsp X) (hhas : ∀ w ∈ Cond.initialized Bundle.tN :: xsp X, w ∈ L) {s U : State} (hW : s.WarmedH U.vm) (hh : ∀ a : Nat, a < s.heap.size → U.heap[a]? = s.heap[a]?) (h : ∀ w ∈ L, w.before #[] s = true) : ∀ w ∈ L, w.before #[] U = true := by
  intro w hw
  rcases hok w hw with hg | hs
  · exact word_at hW (good_of_word hg) (h w hw)
  · have hin : ∀ w ∈ Cond.initialized Bundle.tN :: xsp X, w.before #[] s = true := fun w hw => h w (hhas w hw)
    simp only [xsp, List.mem_cons, List.not_mem_nil, or_false] at hs hin
    rcases hs with rfl | rfl | rfl | rfl | rfl | rfl | rfl | rfl
    · exact va_Nw.warmC hW (h _ hw)
    · exact xs_ref hW hh (hin _ (by simp)) (hin _ (by simp)) (h _ hw)
    · exact xs_ref hW hh (hin _ (by simp)) (hin _ (by simp)) (h _ hw)
    · exact xs_lays hW hh (h _ hw)
    · exact xs_lays hW hh (h _ hw)
    · exact va_Nw.warmD hW (h _ hw)
    · exact va_Nw.warmD hW (h _ hw)
    · exact va_Nw.warmD hW (h _ hw)
theorem xq_move {s U : State} (hW : s.WarmedH U.vm) (hh : ∀ a : Nat, a < s.heap.size → U.heap[a]? = s.heap[a]?) (h : xq s) : xq U := by
  refine ⟨xs_move xwA_ok xwA_has hW hh h.1, xs_move xwS_ok xwS_has hW hh h.2.1, fun q hq => ?_, ?_⟩
  · obtain ⟨a, ha⟩ := h.2.2.1 q hq
    exact ⟨a, vk_R.warm hW ha⟩
  · have h4 := h.2.2.2
    have hv := Cond.holds_not_iff.mp h4
    refine Cond.holds_not_iff.mpr ?_
    simp only [Cond.value] at hv ⊢
    rw [hW.alike.findClass, hW.alike.findClass]
    simp only [hW.alike.assignable]
    exact hv
theorem xq_calling {U : State} {g : JFrame} {mk : MethodId} {a : Array Value} (h : xq U) : xq (U.calling g mk a) := xq_move (s := U) (U := U.calling g mk a) (State.WarmedH.refl U) (fun _ _ => rfl) h
/-- at whatever arguments -/
theorem xs_args {X : String} {L : List Cond} (hok : ∀ w ∈ L, goodWord w = true ∨ w ∈ xsp X) {U : State} {A : Array Value} (h : ∀ w ∈ L, w.before #[] U = true) : ∀ w ∈ L, w.before A U = true := by
  intro w hw
  rcases hok w hw with hg | hs
  · exact word_at (State.WarmedH.refl U) (good_of_word hg) (h w hw)
  · have h1 := h w hw
    simp only [xsp, List.mem_cons, List.not_mem_nil, or_false] at hs
    rcases hs with rfl | rfl | rfl | rfl | rfl | rfl | rfl | rfl <;> exact h1
/-! rows of methods that write nothing: the heap is the same; a method with a table of its own, called by its class -/
def ro_Q (r : Int32) : Array Value → State → Outcome → State → Prop := fun _ st o t => o = .returned (some (.int r)) ∧ t.heap = st.heap
def kz_R (dC : Nat → ClassId) (dI : Nat → Nat → Nat) (cI cZ cL cB : ClassId) (ws : va_W) (U : State) : Prop := va_P (dC, dI) vwCl ws U.heap ∧ kz dC dI cI cZ cL cB U
theorem kzr_fb {dC : Nat → ClassId} {dI : Nat → Nat → Nat} {cI cZ cL cB : ClassId} {ws : va_W} {av : List Value} : FrameBlind (va_Pc av (kz_R dC dI cI cZ cL cB ws)) := fun a U g mk h => ⟨h.1, h.2.1, ⟨va_K.moved (u := U) (U := U.calling g mk a) (Vm.Alike.refl U.vm) h.2.2.1, nz_same rfl h.2.2.2⟩⟩
theorem kzr_pre {dC : Nat → ClassId} {dI : Nat → Nat → Nat} {cI cZ cL cB : ClassId} {wc : va_W} {av : List Value} {s : State} {H : Heap} (hPc : va_P (dC, dI) vwCl wc H) (hZ : kz dC dI cI cZ cL cB s) : ∀ U : State, U.heap = H → s.WarmedH U.vm → va_Pc av (kz_R dC dI cI cZ cL cB wc) av.toArray U := fun U hU hW => ⟨rfl, by rw [hU]; exact hPc, kz_moved hW hZ⟩
section XF
variable {p : Program} {l : Launch} {e : Env} {R : Room} {s : State} {m : MethodId} {args : Array Value} {below : List Frame} {meth : Method} {c : Code} {H : Heap} {locs : List Loc} {cells slots : Nat} {Q : State → Prop}
variable {cc : ByteArray} {pc : Nat} {ls : Array Slot} {rest st0 : List Value} {a : Array Value}
theorem ro_call {r : Int32} (hr : va_Run p l e R s m args below meth c H locs cells slots 0 0 (F0 m pc ls st0) rest (ro_Q r a) (fun _ => False)) (kk : W p l e R s m args below meth c H locs cells slots Q (F0 m (pc + 3) ls (.int r :: rest))) : W p l e R s m args below meth c H locs cells slots Q (F0 m pc ls st0) := by
  intro T hT X
  obtain ⟨v, st₀, t, T', L, h0, X', hL, e1, e2, ⟨hv, hh⟩, go⟩ := hr T hT X
  have hLn : L = [] := by
    cases L with
    | nil => rfl
    | cons z zs => exact absurd (hL z List.mem_cons_self) id
  subst hLn
  rw [List.append_nil] at X'
  cases hv
  obtain ⟨t2, a1, b1⟩ := kk T' (by rw [e1, hh, h0]) X'
  exact ⟨t2, go _ a1, b1⟩
theorem ro_ret {r : Int32} {ty : FieldType} (hexec : p.tables.exec = Jvm.exec) (hb : c.code = cc) (hr : meth.sig.returnType = some ty) (hn : narrow ty (.int r) = .int r) (hdg : decode cc pc = .ok (.ireturn, 1)) (hlocks : meth.locks = false) : W p l e R s m args below meth c s.heap [] 0 0 (MQ below (ro_Q r) args s 0 0 (fun _ => False)) (F0 m pc ls [.int r]) :=
  W.zret (v := r) hexec hb hr hn (fun t ht hW => ⟨rfl, ht⟩) (fun z hz => nomatch hz) hdg hlocks
end XF
section XG
variable {p : Program} {l : Launch} {e : Env} {R : Room} {s : State} {m : MethodId} {args : Array Value} {below : List Frame} {meth : Method} {c : Code} {H : Heap} {locs : List Loc} {cells slots : Nat}
/-- a static call of a method with a table of its own -/
theorem xt_runSW {y : MethodName} {bytes cc : ByteArray} {maxL nL mc ms n index : Nat} {ret : Option FieldType} {hh : List (Nat × Nat × Nat × Nat)} {ws : List Cond} {rm : Room} {Pc : Array Value → State → Prop} {Qc : Array Value → State → Outcome → State → Prop} {free : Addr → Prop} {Ts : List Cond} {own : String} {As rest : List Value} {g : JFrame}
    (S : CallFix p m c cc nL s args Ts own) (hM : Met l y ws rm Pc Qc mc ms free) (hT0 : ∀ w ∈ ws, w ∈ Ts ∧ ((w.onTables && w.keeps) = true ∨ ∃ ty, w = .arrayClass ty)) (hw : Cond.codeWith y bytes maxL ret hh ∈ ws) (hrc : rm.cells = mc) (hrs : rm.slots = ms) (hfr : rm.frames + 1 ≤ R.frames) (hlo : 8 + (maxL + 11) + rm.locals ≤ R.locals) (hl : (Cond.methodLink own index y).before args s = true) (hstt : (Cond.static y).before args s = true) (hini : (Cond.initialized y.cls).before args s = true)
    (hy : y.cls ≠ "java/lang/invoke/MethodHandle" ∧ y.cls ≠ "java/lang/invoke/VarHandle" ∧ (parseMethodDescriptor y.desc).map (fun d => d.parameters.length) = some n) (hp : PreS s H Pc As)
    (hg : g.method = m) (hn : As.length = n) (hsize : g.locals.size = nL) (hstack : g.stack = As.reverse ++ rest) (hW : 2 * g.monitorRoom + (rest.map fun v => v.category).sum ≤ 8) (hdg : decode cc g.pc = .ok (.invokestatic index, 3)) (hf : cells + mc ≤ R.cells ∧ slots + ms ≤ R.slots) :
    va_Run p l e R s m args below meth c H locs cells slots mc ms g rest (Qc As.toArray) free := by
  obtain ⟨hx, hb, hml, ho, hts⟩ := S
  have hini' : ∀ (a' : Array Value) (U : State), s.WarmedH U.vm → (Cond.initialized y.cls).before a' U = true := fun a' U hW => word_at hW (Or.inl (by first | rfl | simp [Cond.onTables, Cond.keeps, Cond.steady])) hini
  have hK : Back l R p e below s args y 3 8 (PreOf R mc ms Pc) (PostOf Qc mc ms free) := va_backW (hh := hh) (bytes := bytes) (maxL := maxL) (ret := ret) hM hp.1 hrc hrs hfr hlo (pay_in hts hT0) hw hini'
  intro T hT X
  obtain ⟨mk, methM, cM, hnamed, hmethM, -, -, -, -, -, -, hsigM⟩ := Cond.codeWith_spec (hts _ (hT0 _ hw).1)
  have hstatic : methM.isStatic = true := Cond.static_spec hnamed hmethM hstt
  obtain ⟨kP, hkP, -⟩ := className_of_methodNamed hnamed
  have hinitP : kP.init = .initialized := Cond.initialized_spec (findClass_of_methodNamed hnamed) hkP hini
  have hlen : As.length = methM.sig.parameters.length := by
    have h2 := hy.2.2
    rw [hsigM] at h2
    exact hn.trans (Option.some.inj h2).symm
  obtain ⟨vm₁, X₁, hstep₁⟩ := X.invokestatic hx ho hl hnamed hmethM hstatic hkP hinitP ⟨hy.1, hy.2.1⟩ (g := g) hg (argsL := As) (rest := rest) hlen hstack (by rw [hb]; exact hdg)
  obtain ⟨v, ⟨U', l2, c2, s2⟩, X', ⟨g', mk', t, L, e1, e2, hq, h1, hL, h2, h3⟩, hsteps⟩ := hK m meth c ⟨T.setVm vm₁, locs, cells, slots⟩ { g with stack := rest } (.invokestatic index) mk As.toArray X₁ hg (hsize.trans hml.symm) (by rw [hb]; exact hdg) hW (X₁.named hnamed) ⟨hf.1, hf.2, hp.2 _ hT X₁.warmed⟩
  dsimp only [Pt.U, Pt.locs, Pt.cells, Pt.slots] at X' e1 e2 h1 h2 h3 hsteps
  subst h1; subst h2; subst h3
  exact ⟨v, (T.setVm vm₁).calling g' mk' As.toArray, t, U', L, hT, X', hL, e1, e2, hq, fun target h => hstep₁ _ fun acts => by rw [doInvoke_state]; exact hsteps.trans h⟩
/-- the rows of a method's own table -/
theorem xt_table {x y : MethodName} {S : Spec} {cc bytes : ByteArray} {maxL maxL' : Nat} {ret ret' : Option FieldType} {s₁ : State} {hh : List (Nat × Nat × Nat × Nat)} (B : BodyLoose p l x S cc maxL ret e s m args below meth c s₁) (h : (Cond.codeWith x bytes maxL' ret' hh).before args s = true) : c.exceptionTable.toList.map (fun h => (h.startPc, h.endPc, h.handlerPc, h.catchType)) = hh := by
  obtain ⟨m', meth', c', hn', hm', hc', -, -, htab, -⟩ := Cond.codeWith_spec h
  cases B.named.symm.trans hn'
  cases B.method.symm.trans hm'
  cases (Stand.of_body B).code.symm.trans hc'
  exact htab
end XG
