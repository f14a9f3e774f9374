/-! throws of HuffForge in our words; their calls and catching -/
def xcls (k : Nat) : String := if k = 1 then xIA else xIS
def XC (D : va_G) (w0 : va_W) (A : Nat → Prop) (k : Nat) : State → Addr → State → Prop := fun st q t => (∃ ce : Cell, t.heap[q]? = some ce ∧ ce.vm = .none ∧ st.vm.findClass (xcls k) = some ce.cls) ∧ va_P D vwCl w0 t.heap ∧ va_D A w0 ∧ va_F A st t
def kx_P (dC : Nat → ClassId) (dI : Nat → Nat → Nat) (cI cZ cL cB : ClassId) (sz : Nat) (ws : va_W) (U : State) : Prop := kz_P dC dI cI cZ cL cB sz ws U ∧ xq U
theorem kx_fb {dC : Nat → ClassId} {dI : Nat → Nat → Nat} {cI cZ cL cB : ClassId} {sz : Nat} {ws : va_W} {av : List Value} : FrameBlind (va_Pc av (kx_P dC dI cI cZ cL cB sz ws)) := fun a U g mk h => by
  have h1 := kz_fb (av := av) a U g mk ⟨h.1, h.2.1⟩
  exact ⟨h1.1, h1.2, xq_calling h.2.2⟩
theorem kx_pre {dC : Nat → ClassId} {dI : Nat → Nat → Nat} {cI cZ cL cB : ClassId} {wc : va_W} {av : List Value} {s : State} {H : Heap} {B : Nat → Prop} (hPc : va_P (dC, dI) vwCl wc H) (hZ : kz dC dI cI cZ cL cB s) (hDc : va_D B wc) (hX : xq s) (hh : ∀ a : Nat, a < s.heap.size → H[a]? = s.heap[a]?) : ∀ U : State, U.heap = H → s.WarmedH U.vm → va_Pc av (kx_P dC dI cI cZ cL cB H.size wc) av.toArray U := fun U hU hW => by
  have h1 := kz_pre (av := av) hPc hZ hDc U hU hW
  exact ⟨h1.1, h1.2, xq_move hW (fun a ha => by rw [hU]; exact hh a ha) hX⟩
section XH
variable {p : Program} {l : Launch} {e : Env} {R : Room} {s : State} {m : MethodId} {args : Array Value} {below : List Frame} {meth : Method} {c : Code} {H : Heap} {locs : List Loc} {cells slots : Nat} {Q : State → Prop}
variable {cc : ByteArray} {pc : Nat} {ls : Array Slot} {rest st0 : List Value} {D : va_G} {A : Nat → Prop} {ws wc wr w0 : va_W} {H0 : Heap}
theorem xt_thrA (hexec : p.tables.exec = Jvm.exec) (hb : c.code = cc) (hl : l.stackTraces = false) (hown : s.vm.findClass "HuffForge" = some m.cls) (hX : xq s) {is : Nat} {text : String} (hstr : (is, text) ∈ xstr) (hP : va_P D vwCl w0 s.heap) (hD : va_D A w0) (hsize : ls.size = c.maxLocals)
    (d0 : decode cc pc = .ok (.new 74, 3)) (d3 : decode cc (pc + 3) = .ok (.dup, 1)) (d4 : decode cc (pc + 4) = .ok (.ldc is, 2)) (d6 : decode cc (pc + 6) = .ok (.invokespecial 78, 3)) (d9 : decode cc (pc + 9) = .ok (.athrow, 1))
    (hout : ∀ x ∈ c.exceptionTable.toList, False) (hRframes : 5 < R.frames) (hRlocals : (rest.map fun v => v.category).sum + 82 ≤ R.locals) (hRcells : 1 ≤ R.cells) (hRslots : 6 ≤ R.slots) (hlocks : meth.locks = false) :
    W p l e R s m args below meth c s.heap [] 0 0 (XMQ below (XC D w0 A 1) args s 1 6 A) (F0 m pc ls rest) := by
  have hA := xs_args (A := args) xwA_ok hX.1
  obtain ⟨sa, h1, h2⟩ := hX.2.2.1 _ hstr
  refine xt_throw (own := "HuffForge") (cls := xIA) (text := text) (names := xn) (ik := 74) (is := is) (ic := 78) (sa := sa) hexec hb hl hown (by decide +kernel) (by decide +kernel) (hA _ List.mem_cons_self) (hA _ (List.mem_cons_of_mem _ List.mem_cons_self)) h1 h2 (fun w h => hA w (List.mem_cons_of_mem _ (List.mem_cons_of_mem _ h))) hsize d0 d3 d4 d6 d9 hout hRframes hRlocals hRcells hRslots hlocks ?_
  intro t q ce hal hsz hk hce hcv hcl
  exact ⟨⟨ce, hce, hcv, hcl⟩, hP.kept (fun k q hk' => hk _ (hP k q hk').lt), hD, hsz, fun q hq _ => hk q hq⟩
theorem xt_thrS (hexec : p.tables.exec = Jvm.exec) (hb : c.code = cc) (hl : l.stackTraces = false) (hown : s.vm.findClass "HuffForge" = some m.cls) (hX : xq s) {is : Nat} {text : String} (hstr : (is, text) ∈ xstr) (hP : va_P D vwCl w0 s.heap) (hD : va_D A w0) (hsize : ls.size = c.maxLocals)
    (d0 : decode cc pc = .ok (.new 87, 3)) (d3 : decode cc (pc + 3) = .ok (.dup, 1)) (d4 : decode cc (pc + 4) = .ok (.ldc is, 2)) (d6 : decode cc (pc + 6) = .ok (.invokespecial 91, 3)) (d9 : decode cc (pc + 9) = .ok (.athrow, 1))
    (hout : ∀ x ∈ c.exceptionTable.toList, False) (hRframes : 5 < R.frames) (hRlocals : (rest.map fun v => v.category).sum + 82 ≤ R.locals) (hRcells : 1 ≤ R.cells) (hRslots : 6 ≤ R.slots) (hlocks : meth.locks = false) :
    W p l e R s m args below meth c s.heap [] 0 0 (XMQ below (XC D w0 A 2) args s 1 6 A) (F0 m pc ls rest) := by
  have hA := xs_args (A := args) xwS_ok hX.2.1
  obtain ⟨sa, h1, h2⟩ := hX.2.2.1 _ hstr
  refine xt_throw (own := "HuffForge") (cls := xIS) (text := text) (names := xn) (ik := 87) (is := is) (ic := 91) (sa := sa) hexec hb hl hown (by decide +kernel) (by decide +kernel) (hA _ List.mem_cons_self) (hA _ (List.mem_cons_of_mem _ List.mem_cons_self)) h1 h2 (fun w h => hA w (List.mem_cons_of_mem _ (List.mem_cons_of_mem _ h))) hsize d0 d3 d4 d6 d9 hout hRframes hRlocals hRcells hRslots hlocks ?_
  intro t q ce hal hsz hk hce hcv hcl
  exact ⟨⟨ce, hce, hcv, hcl⟩, hP.kept (fun k q hk' => hk _ (hP k q hk').lt), hD, hsz, fun q hq _ => hk q hq⟩
/-- behind a throw: the caller's world is as it was -/
theorem xt_after {k : Nat} {st₀ t : State} {q : Addr} {L : List Loc} (h0 : st₀.heap = H) (hal0 : s.vm.Alike st₀.vm) (hL : ∀ z ∈ L, va_A wc H.size z.base) (hx : XC D wc (va_A wc H.size) k st₀ q t) (hP : va_P D vwCl ws H) (hD : va_D A ws) (hS : va_S A H0 H locs) (hA : ∀ q, H0.size ≤ q → A q)
    (isC isR perm : List Nat) (hC : isC.map (fun i => ws[i]?) = wc.map some) (hR : isR.map (fun i => ws[i]?) = wr.map some) (hn : va_nd isR = true) (hdis : ∀ i ∈ isR, i ∉ isC) (hp : perm.map (fun i => (wr ++ wc)[i]?) = ws.map some) (hpn : va_nd perm = true) :
    (∃ ce : Cell, t.heap[q]? = some ce ∧ ce.vm = .none ∧ s.vm.findClass (xcls k) = some ce.cls) ∧ va_P D vwCl ws t.heap ∧ va_D A ws ∧ va_S A H0 t.heap (locs ++ L) := by
  obtain ⟨⟨ce, hce, hcv, hcl⟩, hP1, hD1, hF1, hF2⟩ := hx
  have hFc := va_free hD hS hA isC hC
  rw [h0] at hF1 hF2
  obtain ⟨hP2, hD2⟩ := va_join hP hD isC isR hC hR hn hdis hF2 hFc hP1 hD1
  refine ⟨⟨ce, hce, hcv, by rw [hal0.findClass] at hcl; exact hcl⟩, ax_Pm hP2 perm hp, hD2.sub perm hpn hp, Nat.le_trans hS.1 hF1, fun q hq hnA => ?_, fun z hz => ?_⟩
  · rw [hF2 q (Nat.lt_of_lt_of_le hq hS.1) (fun h => hnA (hFc q h))]
    exact hS.2.1 q hq hnA
  · rcases List.mem_append.mp hz with h | h
    · exact hS.2.2 z h
    · exact hFc _ (hL z h)
end XH
section XI
theorem xt_rows {c : Code} {h1 h2 : Nat × Nat × Nat × Nat} (h : c.exceptionTable.toList.map (fun h => (h.startPc, h.endPc, h.handlerPc, h.catchType)) = [h1, h2]) : ∃ x1 x2 : ExceptionTableEntry, c.exceptionTable.toList = [x1, x2] ∧ (x1.startPc, x1.endPc, x1.handlerPc, x1.catchType) = h1 ∧ (x2.startPc, x2.endPc, x2.handlerPc, x2.catchType) = h2 := by
  match hl : c.exceptionTable.toList, h with
  | [x1, x2], h =>
    rw [hl] at *
    simp only [List.map_cons, List.map_nil, List.cons.injEq, and_true] at h
    exact ⟨x1, x2, rfl, h.1, h.2⟩
end XI
