def nz (U : State) : Prop := va_Nw (Cond.methodLinkNest "HuffForge" 11 ⟨"HuffForge$Draft", "<init>", "()V"⟩ "HuffForge") U ∧ va_Nw (Cond.methodLinkNest "HuffForge" 18 ⟨"HuffForge$Table", "<init>", "()V"⟩ "HuffForge") U ∧ va_Nw (Cond.methodLinkNest "HuffForge" 25 ⟨"HuffForge$Tally", "<init>", "()V"⟩ "HuffForge") U ∧ va_Nw (Cond.methodLinkNest "HuffForge" 32 ⟨"HuffForge$BestFinder", "<init>", "()V"⟩ "HuffForge") U ∧ va_Nw (Cond.methodLinkNest "HuffForge" 39 ⟨"HuffForge$BitRow", "<init>", "()V"⟩ "HuffForge") U ∧ va_Nw (Cond.methodLinkNest "HuffForge$BestFinder" 76 ⟨"HuffForge", "greatestLength", "([II)I"⟩ "HuffForge") U ∧ va_Nw (Cond.methodLinkNest "HuffForge$Table" 38 ⟨"HuffForge", "isSymbol", "(I)Z"⟩ "HuffForge") U
theorem nz_warm {s U : State} (hW : s.WarmedH U.vm) (h : nz s) : nz U := ⟨va_Nw.warmM hW h.1, va_Nw.warmM hW h.2.1, va_Nw.warmM hW h.2.2.1, va_Nw.warmM hW h.2.2.2.1, va_Nw.warmM hW h.2.2.2.2.1, va_Nw.warmM hW h.2.2.2.2.2.1, va_Nw.warmM hW h.2.2.2.2.2.2⟩
theorem nz_same {s U : State} (hv : s.vm = U.vm) (h : nz s) : nz U := ⟨va_Nw.same rfl hv h.1, va_Nw.same rfl hv h.2.1, va_Nw.same rfl hv h.2.2.1, va_Nw.same rfl hv h.2.2.2.1, va_Nw.same rfl hv h.2.2.2.2.1, va_Nw.same rfl hv h.2.2.2.2.2.1, va_Nw.same rfl hv h.2.2.2.2.2.2⟩
theorem nz_0 {U : State} (h : nz U) : va_Nw (Cond.methodLinkNest "HuffForge" 11 ⟨"HuffForge$Draft", "<init>", "()V"⟩ "HuffForge") U := h.1
theorem nz_1 {U : State} (h : nz U) : va_Nw (Cond.methodLinkNest "HuffForge" 18 ⟨"HuffForge$Table", "<init>", "()V"⟩ "HuffForge") U := h.2.1
theorem nz_2 {U : State} (h : nz U) : va_Nw (Cond.methodLinkNest "HuffForge" 25 ⟨"HuffForge$Tally", "<init>", "()V"⟩ "HuffForge") U := h.2.2.1
theorem nz_3 {U : State} (h : nz U) : va_Nw (Cond.methodLinkNest "HuffForge" 32 ⟨"HuffForge$BestFinder", "<init>", "()V"⟩ "HuffForge") U := h.2.2.2.1
theorem nz_4 {U : State} (h : nz U) : va_Nw (Cond.methodLinkNest "HuffForge" 39 ⟨"HuffForge$BitRow", "<init>", "()V"⟩ "HuffForge") U := h.2.2.2.2.1
theorem nz_5 {U : State} (h : nz U) : va_Nw (Cond.methodLinkNest "HuffForge$BestFinder" 76 ⟨"HuffForge", "greatestLength", "([II)I"⟩ "HuffForge") U := h.2.2.2.2.2.1
theorem nz_6 {U : State} (h : nz U) : va_Nw (Cond.methodLinkNest "HuffForge$Table" 38 ⟨"HuffForge", "isSymbol", "(I)Z"⟩ "HuffForge") U := h.2.2.2.2.2.2
/-- what every method is given beside its cells: the tables' numbers, the array classes, the links across the nest -/
def kz (dC : Nat → ClassId) (dI : Nat → Nat → Nat) (cI cZ cL cB : ClassId) (U : State) : Prop := va_K (dC, dI) vwCl [(cI, .int), (cZ, .boolean), (cL, .long), (cB, .byte)] U ∧ nz U
theorem kz_moved {dC : Nat → ClassId} {dI : Nat → Nat → Nat} {cI cZ cL cB : ClassId} {s U : State} (hW : s.WarmedH U.vm) (h : kz dC dI cI cZ cL cB s) : kz dC dI cI cZ cL cB U := ⟨va_K.moved hW.alike h.1, nz_warm hW h.2⟩
def kz_P (dC : Nat → ClassId) (dI : Nat → Nat → Nat) (cI cZ cL cB : ClassId) (sz : Nat) (ws : va_W) (U : State) : Prop := U.heap.size = sz ∧ va_P (dC, dI) vwCl ws U.heap ∧ kz dC dI cI cZ cL cB U ∧ va_D (fun _ => True) ws
theorem kz_fb {dC : Nat → ClassId} {dI : Nat → Nat → Nat} {cI cZ cL cB : ClassId} {sz : Nat} {ws : va_W} {av : List Value} : FrameBlind (va_Pc av (kz_P dC dI cI cZ cL cB sz ws)) := fun a U g mk h => ⟨h.1, h.2.1, h.2.2.1, ⟨va_K.moved (u := U) (U := U.calling g mk a) (Vm.Alike.refl U.vm) h.2.2.2.1.1, nz_same rfl h.2.2.2.1.2⟩, h.2.2.2.2⟩
theorem kz_pre {dC : Nat → ClassId} {dI : Nat → Nat → Nat} {cI cZ cL cB : ClassId} {wc : va_W} {av : List Value} {s : State} {H : Heap} {B : Nat → Prop} (hPc : va_P (dC, dI) vwCl wc H) (hZ : kz dC dI cI cZ cL cB s) (hDc : va_D B wc) : ∀ U : State, U.heap = H → s.WarmedH U.vm → va_Pc av (kz_P dC dI cI cZ cL cB H.size wc) av.toArray U := fun U hU hW => ⟨rfl, by rw [hU], by rw [hU]; exact hPc, kz_moved hW hZ, hDc.weaken (fun _ _ _ _ => trivial)⟩
theorem ax_Pm {D : va_G} {cl : List vw_C} {ws ws' : va_W} {H : Heap} (h : va_P D cl ws H) (is : List Nat) (hs : is.map (fun i => ws[i]?) = ws'.map some) : va_P D cl ws' H := by
  intro k q hk
  have h1 : (ws'.map some)[k]? = some (some q) := by rw [List.getElem?_map, hk]; rfl
  rw [← hs, List.getElem?_map] at h1
  cases hi : is[k]? with
  | none => rw [hi] at h1; cases h1
  | some i =>
    rw [hi] at h1
    exact h i q (Option.some.inj h1)
section AY
variable {p : Program} {l : Launch} {e : Env} {R : Room} {s : State} {m : MethodId} {args : Array Value} {below : List Frame} {meth : Method} {c : Code} {H : Heap} {locs : List Loc} {cells slots : Nat} {Q : State → Prop}
variable {cc : ByteArray} {pc : Nat} {ls : Array Slot} {rest st0 : List Value} {D : va_G} {cl : List vw_C} {A : Nat → Prop} {a : Array Value} {ws wc wr w1 w2 : va_W} {H0 : Heap}
theorem ax_calli {r : Int32} (hr : va_Run p l e R s m args below meth c H locs cells slots 0 0 (F0 m pc ls st0) rest (va_Qi (fun (r' : Int32) (_ : Unit) => r' = r) (fun _ t => va_P D cl w1 t.heap ∧ va_D (va_A wc H.size) w1) (va_A wc H.size) a) (va_A wc H.size)) (hP : va_P D cl ws H) (hD : va_D A ws) (hS : va_S A H0 H locs) (hA : ∀ q, H0.size ≤ q → A q)
    (isC isR perm : List Nat) (hC : isC.map (fun i => ws[i]?) = wc.map some) (hR : isR.map (fun i => ws[i]?) = wr.map some) (hn : va_nd isR = true) (hdis : ∀ i ∈ isR, i ∉ isC) (hp : perm.map (fun i => (wr ++ w1)[i]?) = w2.map some) (hpn : va_nd perm = true)
    (kk : ∀ (H1 : Heap) (locs1 : List Loc), va_P D cl w2 H1 → va_D A w2 → va_S A H0 H1 locs1 → W p l e R s m args below meth c H1 locs1 cells slots Q (F0 m (pc + 3) ls (.int r :: rest))) : W p l e R s m args below meth c H locs cells slots Q (F0 m pc ls st0) := by
  have hFc := va_free hD hS hA isC hC
  refine va_calli hr hS (fun q _ h => hFc q h) hFc (fun r' u t H1 locs1 ht hvm hw hB hz1 hk1 hS1 => ?_)
  obtain ⟨hP1, hD1⟩ := hB
  rw [ht] at hP1
  obtain ⟨hP2, hD2⟩ := va_join hP hD isC isR hC hR hn hdis hk1 hFc hP1 hD1
  have hw' : r' = r := hw
  rw [hw']
  exact kk H1 locs1 (ax_Pm hP2 perm hp) (hD2.sub perm hpn hp) hS1
theorem ax_calll {r : Int64} (hr : va_Run p l e R s m args below meth c H locs cells slots 0 0 (F0 m pc ls st0) rest (va_Ql (fun (r' : Int64) (_ : Unit) => r' = r) (fun _ t => va_P D cl w1 t.heap ∧ va_D (va_A wc H.size) w1) (va_A wc H.size) a) (va_A wc H.size)) (hP : va_P D cl ws H) (hD : va_D A ws) (hS : va_S A H0 H locs) (hA : ∀ q, H0.size ≤ q → A q)
    (isC isR perm : List Nat) (hC : isC.map (fun i => ws[i]?) = wc.map some) (hR : isR.map (fun i => ws[i]?) = wr.map some) (hn : va_nd isR = true) (hdis : ∀ i ∈ isR, i ∉ isC) (hp : perm.map (fun i => (wr ++ w1)[i]?) = w2.map some) (hpn : va_nd perm = true)
    (kk : ∀ (H1 : Heap) (locs1 : List Loc), va_P D cl w2 H1 → va_D A w2 → va_S A H0 H1 locs1 → W p l e R s m args below meth c H1 locs1 cells slots Q (F0 m (pc + 3) ls (.long r :: rest))) : W p l e R s m args below meth c H locs cells slots Q (F0 m pc ls st0) := by
  have hFc := va_free hD hS hA isC hC
  refine va_calll hr hS (fun q _ h => hFc q h) hFc (fun r' u t H1 locs1 ht hvm hw hB hz1 hk1 hS1 => ?_)
  obtain ⟨hP1, hD1⟩ := hB
  rw [ht] at hP1
  obtain ⟨hP2, hD2⟩ := va_join hP hD isC isR hC hR hn hdis hk1 hFc hP1 hD1
  have hw' : r' = r := hw
  rw [hw']
  exact kk H1 locs1 (ax_Pm hP2 perm hp) (hD2.sub perm hpn hp) hS1
theorem ax_callv (hr : va_Run p l e R s m args below meth c H locs cells slots 0 0 (F0 m pc ls st0) rest (va_Qv (fun (_ : Unit) => True) (fun _ t => va_P D cl w1 t.heap ∧ va_D (va_A wc H.size) w1) (va_A wc H.size) a) (va_A wc H.size)) (hP : va_P D cl ws H) (hD : va_D A ws) (hS : va_S A H0 H locs) (hA : ∀ q, H0.size ≤ q → A q)
    (isC isR perm : List Nat) (hC : isC.map (fun i => ws[i]?) = wc.map some) (hR : isR.map (fun i => ws[i]?) = wr.map some) (hn : va_nd isR = true) (hdis : ∀ i ∈ isR, i ∉ isC) (hp : perm.map (fun i => (wr ++ w1)[i]?) = w2.map some) (hpn : va_nd perm = true)
    (kk : ∀ (H1 : Heap) (locs1 : List Loc), va_P D cl w2 H1 → va_D A w2 → va_S A H0 H1 locs1 → W p l e R s m args below meth c H1 locs1 cells slots Q (F0 m (pc + 3) ls rest)) : W p l e R s m args below meth c H locs cells slots Q (F0 m pc ls st0) := by
  have hFc := va_free hD hS hA isC hC
  refine va_callv hr hS (fun q _ h => hFc q h) hFc (fun u t H1 locs1 ht hvm hw hB hz1 hk1 hS1 => ?_)
  obtain ⟨hP1, hD1⟩ := hB
  rw [ht] at hP1
  obtain ⟨hP2, hD2⟩ := va_join hP hD isC isR hC hR hn hdis hk1 hFc hP1 hD1
  exact kk H1 locs1 (ax_Pm hP2 perm hp) (hD2.sub perm hpn hp) hS1
theorem ax_iret {r : Int32} (hexec : p.tables.exec = Jvm.exec) (hb : c.code = cc) (hr : meth.sig.returnType = some .int) (hP : va_P D cl w1 H) (hD : va_D A w1) (hS : va_S A s.heap H locs) (hdg : decode cc pc = .ok (.ireturn, 1)) (hlocks : meth.locks = false) : W p l e R s m args below meth c H locs cells slots (MQ below (va_Qi (fun (r' : Int32) (_ : Unit) => r' = r) (fun _ t => va_P D cl w1 t.heap ∧ va_D A w1) A) args s cells slots A) (F0 m pc ls [.int r]) :=
  W.iret (v := r) hexec hb hr (fun t ht hW => ⟨⟨r, (), rfl, rfl, by rw [ht]; exact hP, hD⟩, hS.F ht⟩) hS.2.2 hdg hlocks
theorem ax_zret {r : Int32} (hexec : p.tables.exec = Jvm.exec) (hb : c.code = cc) (hr : meth.sig.returnType = some .boolean) (hn : narrow .boolean (.int r) = .int r) (hP : va_P D cl w1 H) (hD : va_D A w1) (hS : va_S A s.heap H locs) (hdg : decode cc pc = .ok (.ireturn, 1)) (hlocks : meth.locks = false) : W p l e R s m args below meth c H locs cells slots (MQ below (va_Qi (fun (r' : Int32) (_ : Unit) => r' = r) (fun _ t => va_P D cl w1 t.heap ∧ va_D A w1) A) args s cells slots A) (F0 m pc ls [.int r]) :=
  W.zret (v := r) hexec hb hr hn (fun t ht hW => ⟨⟨r, (), rfl, rfl, by rw [ht]; exact hP, hD⟩, hS.F ht⟩) hS.2.2 hdg hlocks
theorem ax_lret {r : Int64} (hexec : p.tables.exec = Jvm.exec) (hb : c.code = cc) (hr : meth.sig.returnType = some .long) (hP : va_P D cl w1 H) (hD : va_D A w1) (hS : va_S A s.heap H locs) (hdg : decode cc pc = .ok (.lreturn, 1)) (hlocks : meth.locks = false) : W p l e R s m args below meth c H locs cells slots (MQ below (va_Ql (fun (r' : Int64) (_ : Unit) => r' = r) (fun _ t => va_P D cl w1 t.heap ∧ va_D A w1) A) args s cells slots A) (F0 m pc ls [.long r]) :=
  W.lret (v := r) hexec hb hr (fun t ht hW => ⟨⟨r, (), rfl, rfl, by rw [ht]; exact hP, hD⟩, hS.F ht⟩) hS.2.2 hdg hlocks
theorem ax_vret (hexec : p.tables.exec = Jvm.exec) (hb : c.code = cc) (hr : meth.sig.returnType = none) (hP : va_P D cl w1 H) (hD : va_D A w1) (hS : va_S A s.heap H locs) (hdg : decode cc pc = .ok (.return_, 1)) (hlocks : meth.locks = false) : W p l e R s m args below meth c H locs cells slots (MQ below (va_Qv (fun (_ : Unit) => True) (fun _ t => va_P D cl w1 t.heap ∧ va_D A w1) A) args s cells slots A) (F0 m pc ls []) :=
  W.vret hexec hb hr (fun t ht hW => ⟨⟨(), rfl, trivial, by rw [ht]; exact hP, hD⟩, hS.F ht⟩) hS.2.2 hdg hlocks
end AY
section AZ
variable {p : Program} {l : Launch} {e : Env} {R : Room} {s : State} {m : MethodId} {args : Array Value} {below : List Frame} {meth : Method} {c : Code} {H : Heap} {locs : List Loc} {cells slots mc ms : Nat} {Q : State → Prop}
variable {cc : ByteArray} {pc : Nat} {ls : Array Slot} {rest st0 : List Value} {D : va_G} {cl : List vw_C} {A : Nat → Prop} {a : Array Value} {tys : List (ClassId × FieldType)} {ws wc wr : va_W} {H0 : Heap}
/-- a call of a constructor: what it has made comes behind the rest -/
theorem ax_callc {S : Type} {w1 : S → va_W} (hr : va_Run p l e R s m args below meth c H locs cells slots mc ms (F0 m pc ls st0) rest (va_Qv (fun (_ : S) => True) (fun u t => va_P D cl (w1 u) t.heap ∧ va_D (va_A wc H.size) (w1 u)) (va_A wc H.size) a) (va_A wc H.size)) (hP : va_P D cl ws H) (hD : va_D A ws) (hS : va_S A H0 H locs) (hA : ∀ q, H0.size ≤ q → A q)
    (isC isR : List Nat) (hC : isC.map (fun i => ws[i]?) = wc.map some) (hR : isR.map (fun i => ws[i]?) = wr.map some) (hn : va_nd isR = true) (hdis : ∀ i ∈ isR, i ∉ isC)
    (kk : ∀ (u : S) (H1 : Heap) (locs1 : List Loc), va_P D cl (wr ++ w1 u) H1 → va_D A (wr ++ w1 u) → va_S A H0 H1 locs1 → W p l e R s m args below meth c H1 locs1 (cells + mc) (slots + ms) Q (F0 m (pc + 3) ls rest)) : W p l e R s m args below meth c H locs cells slots Q (F0 m pc ls st0) := by
  have hFc := va_free hD hS hA isC hC
  refine va_callv hr hS (fun q _ h => hFc q h) hFc (fun u t H1 locs1 ht hvm hw hB hz1 hk1 hS1 => ?_)
  obtain ⟨hP1, hD1⟩ := hB
  rw [ht] at hP1
  obtain ⟨hP2, hD2⟩ := va_join hP hD isC isR hC hR hn hdis hk1 hFc hP1 hD1
  exact kk u H1 locs1 hP2 hD2 hS1
theorem ax_cret {S : Type} {u : S} {w1 : S → va_W} (hexec : p.tables.exec = Jvm.exec) (hb : c.code = cc) (hr : meth.sig.returnType = none) (hP : va_P D cl (w1 u) H) (hD : va_D A (w1 u)) (hS : va_S A s.heap H locs) (hdg : decode cc pc = .ok (.return_, 1)) (hlocks : meth.locks = false) : W p l e R s m args below meth c H locs cells slots (MQ below (va_Qv (fun (_ : S) => True) (fun u t => va_P D cl (w1 u) t.heap ∧ va_D A (w1 u)) A) args s cells slots A) (F0 m pc ls []) :=
  W.vret hexec hb hr (fun t ht hW => ⟨⟨u, rfl, trivial, by rw [ht]; exact hP, hD⟩, hS.F ht⟩) hS.2.2 hdg hlocks
/-- a new array, of the class that is known of its kind -/
theorem ax_newa (hexec : p.tables.exec = Jvm.exec) (hb : c.code = cc) {atype : ArrayType} {ty : FieldType} (harr : (Cond.arrayClass ty).before args s = true) (hty : newarray.typeOf atype = ty) (hK : va_K D cl tys s) (t0 : Nat) {cA : ClassId} (ht : tys[t0]? = some (cA, ty)) (hra : ∀ k, va_RA s k ty → s.vm.findClass ("[" ++ ty.toString) = some k) (hP : va_P D cl ws H) (hD : va_D A ws) (hS : va_S A H0 H locs) (hA : ∀ q, H0.size ≤ q → A q)
    {n : Int32} {N' : Nat} {a0 : vp_A} (ha : ∀ cA : ClassId, vp_cell cA a0 = arrV cA N' (fun _ => defaultValue ty)) (hn : ¬ n < 0) (hN : n.toNatClampNeg = N') (hbytes : N' * componentBytes ty ≤ 536870912) (hcells : cells + 1 ≤ R.cells) (hslots : slots + N' ≤ R.slots) (hdg : decode cc pc = .ok (.newarray atype, 2))
    (kk : ∀ (q : Nat) (H1 : Heap), va_P D cl (ws ++ [(q, .inl (cA, a0))]) H1 → va_D A (ws ++ [(q, .inl (cA, a0))]) → va_S A H0 H1 locs →
      W p l e R s m args below meth c H1 locs (cells + 1) (slots + N') Q (F0 m (pc + 2) ls (.ref q :: rest))) : W p l e R s m args below meth c H locs cells slots Q (F0 m pc ls (.int n :: rest)) := by
  refine va_newa hexec hb (by rw [hty]; exact harr) hty hK hP hD hS hA ha hn hN hbytes hcells hslots hdg (fun q cB H1 hK1 hP1 hD1 hS1 => ?_)
  have e1 := hra cB (hK1.2 tys.length (cB, ty) (by simp)).2
  have e2 := hra cA (hK.2 t0 (cA, ty) ht).2
  have e3 : cB = cA := Option.some.inj (e1.symm.trans e2)
  subst e3
  exact kk q H1 hP1 hD1 hS1
end AZ
