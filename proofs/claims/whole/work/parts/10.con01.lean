abbrev wsFD_sumOfCounts : List Cond := Cond.code yFD_sumOfCounts cFD_sumOfCounts 3 (some .int) :: tt
set_option maxHeartbeats 4000000 in
set_option maxRecDepth 100000 in
theorem cc_FD_sumOfCounts (l : Launch) (dC : Nat → ClassId) (dI : Nat → Nat → Nat) (cI cZ cL cB : ClassId) (q q_counts q_symbols q_seen : Nat) (sz : Nat) (k_size : Int32) (k_counts : Nat → Int32) (r : Int32) (hf : f_FD_sumOfCounts k_size k_counts = some r) : Met l yFD_sumOfCounts wsFD_sumOfCounts ({ frames := 0, cells := 0, slots := 0, locals := 0 }) (va_Pc [.ref q] (kz_P dC dI cI cZ cL cB sz (w_FD_sumOfCounts cI cZ cL cB q q_counts q_symbols q_seen k_size k_counts))) (va_Qi (fun (r' : Int32) (_ : Unit) => r' = r) (fun _ t => va_P (dC, dI) vwCl (w_FD_sumOfCounts cI cZ cL cB q q_counts q_symbols q_seen k_size k_counts) t.heap ∧ va_D (va_A (w_FD_sumOfCounts cI cZ cL cB q q_counts q_symbols q_seen k_size k_counts) sz) (w_FD_sumOfCounts cI cZ cL cB q q_counts q_symbols q_seen k_size k_counts)) (va_A (w_FD_sumOfCounts cI cZ cL cB q q_counts q_symbols q_seen k_size k_counts) sz)) 0 0 (va_A (w_FD_sumOfCounts cI cZ cL cB q q_counts q_symbols q_seen k_size k_counts) sz) := by
  refine Met.ofW (cc := cFD_sumOfCounts) (maxL := 3) (ret := (some .int)) (by decide) rfl ?_
  intro p e s m args below meth c s₁ B hml hv
  obtain ⟨rfl, hsz, hP, hZ, hD0⟩ := hv
  have hK := hZ.1
  have hx := B.exec
  have hb := B.bytes
  have hr := B.returns
  have hts : ∀ w ∈ tt, w.before _ s = true := fun w h => atoms_spec (ws := wsFD_sumOfCounts) B.pre w (List.mem_cons_of_mem _ h)
  have hown : s.vm.findClass RFD = some m.cls := findClass_of_methodNamed B.named
  have hlocks := B.notSynchronized
  subst hsz
  have hD := hD0.self (sz := s.heap.size)
  generalize hAe : va_A (w_FD_sumOfCounts cI cZ cL cB q q_counts q_symbols q_seen k_size k_counts) s.heap.size = A at hD ⊢
  have hA : ∀ q : Nat, s.heap.size ≤ q → A q := fun q h => by rw [← hAe]; exact Or.inr h
  have hS : va_S A s.heap s.heap [] := va_S.rf
  have hl := lv_entry [.ref q] (n := 3) (Nat.le_of_ble_eq_true rfl)
  rw [lg_entry_eq]
  generalize (lg_sl [.ref q] ++ List.replicate (3 - (lg_sl [.ref q]).length) Slot.unset).toArray = ls at hl ⊢
  have hl : lv_has ls 3 [(0, .ref q)] := hl
  unfold f_FD_sumOfCounts at hf
  refine lv_iconst (v := 0) hx hb dFD_sumOfCounts_0 (by decide) ?_
  refine lv_istore_n (lv' := [(1, .int 0), (0, .ref q)]) hx hb dFD_sumOfCounts_1 rfl hl (by decide) rfl (fun ls hl => ?_)
  refine lv_iconst (v := 1) hx hb dFD_sumOfCounts_2 (by decide) ?_
  refine lv_istore_n (lv' := [(2, .int 1), (1, .int 0), (0, .ref q)]) hx hb dFD_sumOfCounts_3 rfl hl (by decide) rfl (fun ls hl => ?_)
  refine Lp2_W (P := fun (x3 : Int32) (x4 : Int32) => ∀ (H : Heap) (locs : List Loc) (ls : Array Slot), va_P (dC, dI) vwCl (w_FD_sumOfCounts cI cZ cL cB q q_counts q_symbols q_seen k_size k_counts) H → va_D A (w_FD_sumOfCounts cI cZ cL cB q q_counts q_symbols q_seen k_size k_counts) → va_S A s.heap H locs → lv_has ls 3 [(0, .ref q), (1, .int x3), (2, .int x4)] → W p l e _ s m _ below meth c H locs 0 0 _ (F0 m 4 ls [])) ?_ _ _ _ hf _ _ _ hP hD hS (lv_sub hl [2, 1, 0] rfl)
  clear hf hP hD hS hl
  intro ag1 ih2 x3 x4 hf H locs ls hP hD hS hl
  refine lv_iload_n hx hb dFD_sumOfCounts_4 rfl (lv_at hl 2 rfl) ?_
  refine lv_bipush (v := 16) hx hb dFD_sumOfCounts_5 (by decide) ?_
  refine lv_icmp_gt (tgt := 25) hx hb dFD_sumOfCounts_7 (by decide) (fun c_5 => ?_) (fun c_5 => ?_)
  · have hf := ifT hf c_5
    refine lv_iload_n hx hb dFD_sumOfCounts_25 rfl (lv_at hl 1 rfl) ?_
    cases hf
    exact ax_iret hx hb hr hP hD hS dFD_sumOfCounts_26 hlocks
  · have hf := ifF hf c_5
    refine lv_iload_n hx hb dFD_sumOfCounts_10 rfl (lv_at hl 1 rfl) ?_
    refine lv_aload_n hx hb dFD_sumOfCounts_11 rfl (lv_at hl 0 rfl) ?_
    refine va_get (D := (dC, dI)) (ci := 2) (v := .ref q_counts) (C := RFD) (T := TFD) (N := 4) hx hb hts hi_FD hown hK hP 0 rfl rfl 0 (by decide) (hts _ tw_43) (fun _ h9 => h9) rfl dFD_sumOfCounts_12 ?_
    refine lv_iload_n hx hb dFD_sumOfCounts_15 rfl (lv_at hl 2 rfl) ?_
    obtain ⟨v6, ev6, h7, hf⟩ := rd_some hf
    refine ax_iald hx hb hK hP 1 0 rfl rfl h7 ev6 dFD_sumOfCounts_16 ?_
    refine lv_iadd hx hb dFD_sumOfCounts_17 ?_
    refine lv_istore_n (lv' := [(1, .int (x3 + v6)), (0, .ref q), (2, .int x4)]) hx hb dFD_sumOfCounts_18 rfl hl (by decide) rfl (fun ls hl => ?_)
    refine lv_iinc (v := (x4 + 1)) (lv' := [(2, .int (x4 + 1)), (1, .int (x3 + v6)), (0, .ref q)]) hx hb dFD_sumOfCounts_19 hl (k := 2) rfl rfl (by decide) rfl (fun ls hl => ?_)
    refine lv_goto (tgt := 4) hx hb dFD_sumOfCounts_22 (by decide) ?_
    exact ih2 (x3 + v6) (x4 + 1) hf _ _ _ hP hD hS (lv_sub hl [2, 1, 0] rfl)
abbrev wsFD_hasSymbolTwice : List Cond := Cond.code yFD_hasSymbolTwice cFD_hasSymbolTwice 2 (some .boolean) :: tt
set_option maxHeartbeats 4000000 in
set_option maxRecDepth 100000 in
theorem cc_FD_hasSymbolTwice (l : Launch) (dC : Nat → ClassId) (dI : Nat → Nat → Nat) (cI cZ cL cB : ClassId) (q q_counts q_symbols q_seen : Nat) (sz : Nat) (k_size : Int32) (k_symbols : Nat → Int32) (k_seen : Nat → Int32) (r : Int32) (o_seen : Nat → Int32) (hf : f_FD_hasSymbolTwice k_size k_symbols k_seen = some (r, o_seen)) : Met l yFD_hasSymbolTwice wsFD_hasSymbolTwice ({ frames := 0, cells := 0, slots := 0, locals := 0 }) (va_Pc [.ref q] (kz_P dC dI cI cZ cL cB sz (w_FD_hasSymbolTwice cI cZ cL cB q q_counts q_symbols q_seen k_size k_symbols k_seen))) (va_Qi (fun (r' : Int32) (_ : Unit) => r' = r) (fun _ t => va_P (dC, dI) vwCl (w_FD_hasSymbolTwice cI cZ cL cB q q_counts q_symbols q_seen k_size k_symbols o_seen) t.heap ∧ va_D (va_A (w_FD_hasSymbolTwice cI cZ cL cB q q_counts q_symbols q_seen k_size k_symbols k_seen) sz) (w_FD_hasSymbolTwice cI cZ cL cB q q_counts q_symbols q_seen k_size k_symbols o_seen)) (va_A (w_FD_hasSymbolTwice cI cZ cL cB q q_counts q_symbols q_seen k_size k_symbols k_seen) sz)) 0 0 (va_A (w_FD_hasSymbolTwice cI cZ cL cB q q_counts q_symbols q_seen k_size k_symbols k_seen) sz) := by
  refine Met.ofW (cc := cFD_hasSymbolTwice) (maxL := 2) (ret := (some .boolean)) (by decide) rfl ?_
  intro p e s m args below meth c s₁ B hml hv
  obtain ⟨rfl, hsz, hP, hZ, hD0⟩ := hv
  have hK := hZ.1
  have hx := B.exec
  have hb := B.bytes
  have hr := B.returns
  have hts : ∀ w ∈ tt, w.before _ s = true := fun w h => atoms_spec (ws := wsFD_hasSymbolTwice) B.pre w (List.mem_cons_of_mem _ h)
  have hown : s.vm.findClass RFD = some m.cls := findClass_of_methodNamed B.named
  have hlocks := B.notSynchronized
  subst hsz
  have hD := hD0.self (sz := s.heap.size)
  generalize hAe : va_A (w_FD_hasSymbolTwice cI cZ cL cB q q_counts q_symbols q_seen k_size k_symbols k_seen) s.heap.size = A at hD ⊢
  have hA : ∀ q : Nat, s.heap.size ≤ q → A q := fun q h => by rw [← hAe]; exact Or.inr h
  have hS : va_S A s.heap s.heap [] := va_S.rf
  have hl := lv_entry [.ref q] (n := 2) (Nat.le_of_ble_eq_true rfl)
  rw [lg_entry_eq]
  generalize (lg_sl [.ref q] ++ List.replicate (2 - (lg_sl [.ref q]).length) Slot.unset).toArray = ls at hl ⊢
  have hl : lv_has ls 2 [(0, .ref q)] := hl
  unfold f_FD_hasSymbolTwice at hf
  refine lv_iconst (v := 0) hx hb dFD_hasSymbolTwice_0 (by decide) ?_
  refine lv_istore_n (lv' := [(1, .int 0), (0, .ref q)]) hx hb dFD_hasSymbolTwice_1 rfl hl (by decide) rfl (fun ls hl => ?_)
  refine Lp2_W (P := fun (x3 : Int32) (x4 : Nat → Int32) => ∀ (H : Heap) (locs : List Loc) (ls : Array Slot), va_P (dC, dI) vwCl (w_FD_hasSymbolTwice cI cZ cL cB q q_counts q_symbols q_seen k_size k_symbols x4) H → va_D A (w_FD_hasSymbolTwice cI cZ cL cB q q_counts q_symbols q_seen k_size k_symbols x4) → va_S A s.heap H locs → lv_has ls 2 [(0, .ref q), (1, .int x3)] → W p l e _ s m _ below meth c H locs 0 0 _ (F0 m 2 ls [])) ?_ _ _ _ hf _ _ _ hP hD hS (lv_sub hl [1, 0] rfl)
  clear hf hP hD hS hl
  intro ag1 ih2 x3 x4 hf H locs ls hP hD hS hl
  refine lv_iload_n hx hb dFD_hasSymbolTwice_2 rfl (lv_at hl 1 rfl) ?_
  refine lv_sipush (v := 256) hx hb dFD_hasSymbolTwice_3 (by decide) ?_
  refine lv_icmp_ge (tgt := 22) hx hb dFD_hasSymbolTwice_6 (by decide) (fun c_5 => ?_) (fun c_5 => ?_)
  · have hf := ifT hf c_5
    refine lv_iconst (v := 0) hx hb dFD_hasSymbolTwice_22 (by decide) ?_
    refine lv_istore_n (lv' := [(1, .int 0), (0, .ref q)]) hx hb dFD_hasSymbolTwice_23 rfl hl (by decide) rfl (fun ls hl => ?_)
    refine Lp2_W (P := fun (x8 : Int32) (x9 : Nat → Int32) => ∀ (H : Heap) (locs : List Loc) (ls : Array Slot), va_P (dC, dI) vwCl (w_FD_hasSymbolTwice cI cZ cL cB q q_counts q_symbols q_seen k_size k_symbols x9) H → va_D A (w_FD_hasSymbolTwice cI cZ cL cB q q_counts q_symbols q_seen k_size k_symbols x9) → va_S A s.heap H locs → lv_has ls 2 [(0, .ref q), (1, .int x8)] → W p l e _ s m _ below meth c H locs 0 0 _ (F0 m 24 ls [])) ?_ _ _ _ hf _ _ _ hP hD hS (lv_sub hl [1, 0] rfl)
    clear hf hP hD hS hl
    intro ag6 ih7 x8 x9 hf H locs ls hP hD hS hl
    refine lv_iload_n hx hb dFD_hasSymbolTwice_24 rfl (lv_at hl 1 rfl) ?_
    refine lv_aload_n hx hb dFD_hasSymbolTwice_25 rfl (lv_at hl 0 rfl) ?_
    refine va_get (D := (dC, dI)) (ci := 2) (v := .int k_size) (C := RFD) (T := TFD) (N := 4) hx hb hts hi_FD hown hK hP 0 rfl rfl 2 (by decide) (hts _ tw_47) (fun _ h9 => h9) rfl dFD_hasSymbolTwice_26 ?_
    refine lv_icmp_ge (tgt := 66) hx hb dFD_hasSymbolTwice_29 (by decide) (fun c_10 => ?_) (fun c_10 => ?_)
    · have hf := ifT hf c_10
      refine lv_iconst (v := 0) hx hb dFD_hasSymbolTwice_66 (by decide) ?_
      cases hf
      exact ax_zret hx hb hr rfl hP hD hS dFD_hasSymbolTwice_67 hlocks
    · have hf := ifF hf c_10
      refine lv_aload_n hx hb dFD_hasSymbolTwice_32 rfl (lv_at hl 0 rfl) ?_
      refine va_get (D := (dC, dI)) (ci := 2) (v := .ref q_seen) (C := RFD) (T := TFD) (N := 4) hx hb hts hi_FD hown hK hP 0 rfl rfl 3 (by decide) (hts _ tw_49) (fun _ h9 => h9) rfl dFD_hasSymbolTwice_33 ?_
      refine lv_aload_n hx hb dFD_hasSymbolTwice_36 rfl (lv_at hl 0 rfl) ?_
      refine va_get (D := (dC, dI)) (ci := 2) (v := .ref q_symbols) (C := RFD) (T := TFD) (N := 4) hx hb hts hi_FD hown hK hP 0 rfl rfl 1 (by decide) (hts _ tw_45) (fun _ h9 => h9) rfl dFD_hasSymbolTwice_37 ?_
      refine lv_iload_n hx hb dFD_hasSymbolTwice_40 rfl (lv_at hl 1 rfl) ?_
      obtain ⟨v11, ev11, h12, hf⟩ := rd_some hf
      refine ax_iald hx hb hK hP 1 0 rfl rfl h12 ev11 dFD_hasSymbolTwice_41 ?_
      obtain ⟨v13, ev13, h14, hf⟩ := rd_some hf
      refine ax_zald hx hb hK hP 2 1 rfl rfl h14 ev13 dFD_hasSymbolTwice_42 ?_
      refine lv_if_eq (tgt := 48) hx hb dFD_hasSymbolTwice_43 (by decide) (fun c_15 => ?_) (fun c_15 => ?_)
      · have hf := ifT hf c_15
        refine lv_aload_n hx hb dFD_hasSymbolTwice_48 rfl (lv_at hl 0 rfl) ?_
        refine va_get (D := (dC, dI)) (ci := 2) (v := .ref q_seen) (C := RFD) (T := TFD) (N := 4) hx hb hts hi_FD hown hK hP 0 rfl rfl 3 (by decide) (hts _ tw_49) (fun _ h9 => h9) rfl dFD_hasSymbolTwice_49 ?_
        refine lv_aload_n hx hb dFD_hasSymbolTwice_52 rfl (lv_at hl 0 rfl) ?_
        refine va_get (D := (dC, dI)) (ci := 2) (v := .ref q_symbols) (C := RFD) (T := TFD) (N := 4) hx hb hts hi_FD hown hK hP 0 rfl rfl 1 (by decide) (hts _ tw_45) (fun _ h9 => h9) rfl dFD_hasSymbolTwice_53 ?_
        refine lv_iload_n hx hb dFD_hasSymbolTwice_56 rfl (lv_at hl 1 rfl) ?_
        obtain ⟨v16, ev16, h17, hf⟩ := rd_some hf
        refine ax_iald hx hb hK hP 1 0 rfl rfl h17 ev16 dFD_hasSymbolTwice_57 ?_
        refine lv_iconst (v := 1) hx hb dFD_hasSymbolTwice_58 (by decide) ?_
        obtain ⟨g18, eg18, h19, hf⟩ := wr_some hf
        refine ax_zast hx hb hK hP hD hS 2 1 rfl rfl h19 eg18 dFD_hasSymbolTwice_59 (ws' := (w_FD_hasSymbolTwice cI cZ cL cB q q_counts q_symbols q_seen k_size k_symbols g18)) rfl (fun H locs hP hD hS => ?_)
        refine lv_iinc (v := (x8 + 1)) (lv' := [(1, .int (x8 + 1)), (0, .ref q)]) hx hb dFD_hasSymbolTwice_60 hl (k := 1) rfl rfl (by decide) rfl (fun ls hl => ?_)
        refine lv_goto (tgt := 24) hx hb dFD_hasSymbolTwice_63 (by decide) ?_
        exact ih7 (x8 + 1) g18 hf _ _ _ hP hD hS (lv_sub hl [1, 0] rfl)
      · have hf := ifF hf c_15
        refine lv_iconst (v := 1) hx hb dFD_hasSymbolTwice_46 (by decide) ?_
        cases hf
        exact ax_zret hx hb hr rfl hP hD hS dFD_hasSymbolTwice_47 hlocks
  · have hf := ifF hf c_5
    refine lv_aload_n hx hb dFD_hasSymbolTwice_9 rfl (lv_at hl 0 rfl) ?_
    refine va_get (D := (dC, dI)) (ci := 2) (v := .ref q_seen) (C := RFD) (T := TFD) (N := 4) hx hb hts hi_FD hown hK hP 0 rfl rfl 3 (by decide) (hts _ tw_49) (fun _ h9 => h9) rfl dFD_hasSymbolTwice_10 ?_
    refine lv_iload_n hx hb dFD_hasSymbolTwice_13 rfl (lv_at hl 1 rfl) ?_
    refine lv_iconst (v := 0) hx hb dFD_hasSymbolTwice_14 (by decide) ?_
    obtain ⟨g20, eg20, h21, hf⟩ := wr_some hf
    refine ax_zast hx hb hK hP hD hS 2 1 rfl rfl h21 eg20 dFD_hasSymbolTwice_15 (ws' := (w_FD_hasSymbolTwice cI cZ cL cB q q_counts q_symbols q_seen k_size k_symbols g20)) rfl (fun H locs hP hD hS => ?_)
    refine lv_iinc (v := (x3 + 1)) (lv' := [(1, .int (x3 + 1)), (0, .ref q)]) hx hb dFD_hasSymbolTwice_16 hl (k := 1) rfl rfl (by decide) rfl (fun ls hl => ?_)
    refine lv_goto (tgt := 2) hx hb dFD_hasSymbolTwice_19 (by decide) ?_
    exact ih2 (x3 + 1) g20 hf _ _ _ hP hD hS (lv_sub hl [1, 0] rfl)
abbrev wsFD_hasWordTooGreat : List Cond := Cond.code yFD_hasWordTooGreat cFD_hasWordTooGreat 3 (some .boolean) :: tt
set_option maxHeartbeats 4000000 in
set_option maxRecDepth 100000 in
theorem cc_FD_hasWordTooGreat (l : Launch) (dC : Nat → ClassId) (dI : Nat → Nat → Nat) (cI cZ cL cB : ClassId) (q q_counts q_symbols q_seen : Nat) (sz : Nat) (k_size : Int32) (k_counts : Nat → Int32) (r : Int32) (hf : f_FD_hasWordTooGreat k_size k_counts = some r) : Met l yFD_hasWordTooGreat wsFD_hasWordTooGreat ({ frames := 0, cells := 0, slots := 0, locals := 0 }) (va_Pc [.ref q] (kz_P dC dI cI cZ cL cB sz (w_FD_hasWordTooGreat cI cZ cL cB q q_counts q_symbols q_seen k_size k_counts))) (va_Qi (fun (r' : Int32) (_ : Unit) => r' = r) (fun _ t => va_P (dC, dI) vwCl (w_FD_hasWordTooGreat cI cZ cL cB q q_counts q_symbols q_seen k_size k_counts) t.heap ∧ va_D (va_A (w_FD_hasWordTooGreat cI cZ cL cB q q_counts q_symbols q_seen k_size k_counts) sz) (w_FD_hasWordTooGreat cI cZ cL cB q q_counts q_symbols q_seen k_size k_counts)) (va_A (w_FD_hasWordTooGreat cI cZ cL cB q q_counts q_symbols q_seen k_size k_counts) sz)) 0 0 (va_A (w_FD_hasWordTooGreat cI cZ cL cB q q_counts q_symbols q_seen k_size k_counts) sz) := by
  refine Met.ofW (cc := cFD_hasWordTooGreat) (maxL := 3) (ret := (some .boolean)) (by decide) rfl ?_
  intro p e s m args below meth c s₁ B hml hv
  obtain ⟨rfl, hsz, hP, hZ, hD0⟩ := hv
  have hK := hZ.1
  have hx := B.exec
  have hb := B.bytes
  have hr := B.returns
  have hts : ∀ w ∈ tt, w.before _ s = true := fun w h => atoms_spec (ws := wsFD_hasWordTooGreat) B.pre w (List.mem_cons_of_mem _ h)
  have hown : s.vm.findClass RFD = some m.cls := findClass_of_methodNamed B.named
  have hlocks := B.notSynchronized
  subst hsz
  have hD := hD0.self (sz := s.heap.size)
  generalize hAe : va_A (w_FD_hasWordTooGreat cI cZ cL cB q q_counts q_symbols q_seen k_size k_counts) s.heap.size = A at hD ⊢
  have hA : ∀ q : Nat, s.heap.size ≤ q → A q := fun q h => by rw [← hAe]; exact Or.inr h
  have hS : va_S A s.heap s.heap [] := va_S.rf
  have hl := lv_entry [.ref q] (n := 3) (Nat.le_of_ble_eq_true rfl)
  rw [lg_entry_eq]
  generalize (lg_sl [.ref q] ++ List.replicate (3 - (lg_sl [.ref q]).length) Slot.unset).toArray = ls at hl ⊢
  have hl : lv_has ls 3 [(0, .ref q)] := hl
  unfold f_FD_hasWordTooGreat at hf
  refine lv_iconst (v := 0) hx hb dFD_hasWordTooGreat_0 (by decide) ?_
  refine lv_istore_n (lv' := [(1, .int 0), (0, .ref q)]) hx hb dFD_hasWordTooGreat_1 rfl hl (by decide) rfl (fun ls hl => ?_)
  refine lv_iconst (v := 1) hx hb dFD_hasWordTooGreat_2 (by decide) ?_
  refine lv_istore_n (lv' := [(2, .int 1), (1, .int 0), (0, .ref q)]) hx hb dFD_hasWordTooGreat_3 rfl hl (by decide) rfl (fun ls hl => ?_)
  refine Lp2_W (P := fun (x3 : Int32) (x4 : Int32) => ∀ (H : Heap) (locs : List Loc) (ls : Array Slot), va_P (dC, dI) vwCl (w_FD_hasWordTooGreat cI cZ cL cB q q_counts q_symbols q_seen k_size k_counts) H → va_D A (w_FD_hasWordTooGreat cI cZ cL cB q q_counts q_symbols q_seen k_size k_counts) → va_S A s.heap H locs → lv_has ls 3 [(0, .ref q), (1, .int x3), (2, .int x4)] → W p l e _ s m _ below meth c H locs 0 0 _ (F0 m 4 ls [])) ?_ _ _ _ hf _ _ _ hP hD hS (lv_sub hl [2, 1, 0] rfl)
  clear hf hP hD hS hl
  intro ag1 ih2 x3 x4 hf H locs ls hP hD hS hl
  refine lv_iload_n hx hb dFD_hasWordTooGreat_4 rfl (lv_at hl 2 rfl) ?_
  refine lv_bipush (v := 16) hx hb dFD_hasWordTooGreat_5 (by decide) ?_
  refine lv_icmp_gt (tgt := 36) hx hb dFD_hasWordTooGreat_7 (by decide) (fun c_5 => ?_) (fun c_5 => ?_)
  · have hf := ifT hf c_5
    refine lv_iconst (v := 0) hx hb dFD_hasWordTooGreat_36 (by decide) ?_
    cases hf
    exact ax_zret hx hb hr rfl hP hD hS dFD_hasWordTooGreat_37 hlocks
  · have hf := ifF hf c_5
    refine lv_iconst (v := 2) hx hb dFD_hasWordTooGreat_10 (by decide) ?_
    refine lv_iload_n hx hb dFD_hasWordTooGreat_11 rfl (lv_at hl 1 rfl) ?_
    refine lv_imul hx hb dFD_hasWordTooGreat_12 ?_
    refine lv_aload_n hx hb dFD_hasWordTooGreat_13 rfl (lv_at hl 0 rfl) ?_
    refine va_get (D := (dC, dI)) (ci := 2) (v := .ref q_counts) (C := RFD) (T := TFD) (N := 4) hx hb hts hi_FD hown hK hP 0 rfl rfl 0 (by decide) (hts _ tw_43) (fun _ h9 => h9) rfl dFD_hasWordTooGreat_14 ?_
    refine lv_iload_n hx hb dFD_hasWordTooGreat_17 rfl (lv_at hl 2 rfl) ?_
    obtain ⟨v6, ev6, h7, hf⟩ := rd_some hf
    refine ax_iald hx hb hK hP 1 0 rfl rfl h7 ev6 dFD_hasWordTooGreat_18 ?_
    refine lv_iadd hx hb dFD_hasWordTooGreat_19 ?_
    refine lv_istore_n (lv' := [(1, .int ((2 * x3) + v6)), (0, .ref q), (2, .int x4)]) hx hb dFD_hasWordTooGreat_20 rfl hl (by decide) rfl (fun ls hl => ?_)
    refine lv_iload_n hx hb dFD_hasWordTooGreat_21 rfl (lv_at hl 0 rfl) ?_
    refine lv_iconst (v := 1) hx hb dFD_hasWordTooGreat_22 (by decide) ?_
    refine lv_iload_n hx hb dFD_hasWordTooGreat_23 rfl (lv_at hl 2 rfl) ?_
    refine lv_ishl hx hb dFD_hasWordTooGreat_24 ?_
    refine lv_icmp_lt (tgt := 30) hx hb dFD_hasWordTooGreat_25 (by decide) (fun c_8 => ?_) (fun c_8 => ?_)
    · have hf := ifT hf c_8
      refine lv_iinc (v := (x4 + 1)) (lv' := [(2, .int (x4 + 1)), (1, .int ((2 * x3) + v6)), (0, .ref q)]) hx hb dFD_hasWordTooGreat_30 hl (k := 2) rfl rfl (by decide) rfl (fun ls hl => ?_)
      refine lv_goto (tgt := 4) hx hb dFD_hasWordTooGreat_33 (by decide) ?_
      exact ih2 ((2 * x3) + v6) (x4 + 1) hf _ _ _ hP hD hS (lv_sub hl [2, 1, 0] rfl)
    · have hf := ifF hf c_8
      refine lv_iconst (v := 1) hx hb dFD_hasWordTooGreat_28 (by decide) ?_
      cases hf
      exact ax_zret hx hb hr rfl hP hD hS dFD_hasWordTooGreat_29 hlocks
abbrev wsFD_fault : List Cond := Cond.code yFD_fault cFD_fault 1 (some .int) :: tt
set_option maxHeartbeats 4000000 in
set_option maxRecDepth 100000 in
theorem cc_FD_fault (l : Launch) (dC : Nat → ClassId) (dI : Nat → Nat → Nat) (cI cZ cL cB : ClassId) (q q_counts q_symbols q_seen : Nat) (sz : Nat) (k_size : Int32) (k_counts : Nat → Int32) (k_symbols : Nat → Int32) (k_seen : Nat → Int32) (r : Int32) (o_seen : Nat → Int32) (hf : f_FD_fault k_size k_counts k_symbols k_seen = some (r, o_seen)) : Met l yFD_fault wsFD_fault ({ frames := 1, cells := 0, slots := 0, locals := 22 }) (va_Pc [.ref q] (kz_P dC dI cI cZ cL cB sz (w_FD_fault cI cZ cL cB q q_counts q_symbols q_seen k_size k_counts k_symbols k_seen))) (va_Qi (fun (r' : Int32) (_ : Unit) => r' = r) (fun _ t => va_P (dC, dI) vwCl (w_FD_fault cI cZ cL cB q q_counts q_symbols q_seen k_size k_counts k_symbols o_seen) t.heap ∧ va_D (va_A (w_FD_fault cI cZ cL cB q q_counts q_symbols q_seen k_size k_counts k_symbols k_seen) sz) (w_FD_fault cI cZ cL cB q q_counts q_symbols q_seen k_size k_counts k_symbols o_seen)) (va_A (w_FD_fault cI cZ cL cB q q_counts q_symbols q_seen k_size k_counts k_symbols k_seen) sz)) 0 0 (va_A (w_FD_fault cI cZ cL cB q q_counts q_symbols q_seen k_size k_counts k_symbols k_seen) sz) := by
  refine Met.ofW (cc := cFD_fault) (maxL := 1) (ret := (some .int)) (by decide) rfl ?_
  intro p e s m args below meth c s₁ B hml hv
  obtain ⟨rfl, hsz, hP, hZ, hD0⟩ := hv
  have hK := hZ.1
  have hx := B.exec
  have hb := B.bytes
  have hr := B.returns
  have hts : ∀ w ∈ tt, w.before _ s = true := fun w h => atoms_spec (ws := wsFD_fault) B.pre w (List.mem_cons_of_mem _ h)
  have hown : s.vm.findClass RFD = some m.cls := findClass_of_methodNamed B.named
  have hlocks := B.notSynchronized
  subst hsz
  have hD := hD0.self (sz := s.heap.size)
  generalize hAe : va_A (w_FD_fault cI cZ cL cB q q_counts q_symbols q_seen k_size k_counts k_symbols k_seen) s.heap.size = A at hD ⊢
  have hA : ∀ q : Nat, s.heap.size ≤ q → A q := fun q h => by rw [← hAe]; exact Or.inr h
  have hS : va_S A s.heap s.heap [] := va_S.rf
  have hl := lv_entry [.ref q] (n := 1) (Nat.le_of_ble_eq_true rfl)
  rw [lg_entry_eq]
  generalize (lg_sl [.ref q] ++ List.replicate (1 - (lg_sl [.ref q]).length) Slot.unset).toArray = ls at hl ⊢
  have hl : lv_has ls 1 [(0, .ref q)] := hl
  unfold f_FD_fault at hf
  refine lv_aload_n hx hb dFD_fault_0 rfl (lv_at hl 0 rfl) ?_
  obtain ⟨r1, h2, hf⟩ := bd1_some hf
  have hPc := hP.sub (ws' := (w_FD_sumOfCounts cI cZ cL cB q q_counts q_symbols q_seen k_size k_counts)) [0, 1] rfl
  have hDc := hD.sub (ws' := (w_FD_sumOfCounts cI cZ cL cB q q_counts q_symbols q_seen k_size k_counts)) [0, 1] (by decide) rfl
  refine ax_calli (wr := [(q_symbols, .inl (cI, 256, .inl k_symbols)), (q_seen, .inl (cZ, 256, .inl k_seen))]) (w2 := (w_FD_fault cI cZ cL cB q q_counts q_symbols q_seen k_size k_counts k_symbols k_seen)) (va_runV (As := []) (rest := []) ⟨hx, hb, hml, hown, hts⟩ (cc_FD_sumOfCounts l dC dI cI cZ cL cB q q_counts q_symbols q_seen s.heap.size k_size k_counts r1 h2) (cwV 0 hts (tt_V tw_168 tw_169 tw_0 tw_22 tw_170) rfl rfl rfl (by decide +kernel) ⟨Nat.le_of_ble_eq_true rfl, Nat.le_of_ble_eq_true rfl⟩) ⟨kz_fb, va_recv hK hPc (ci := 2) (q0 := 0) rfl rfl, kz_pre hPc hZ hDc⟩ rfl rfl hl.1 rfl (lv_room (Nat.le_of_ble_eq_true rfl)) dFD_fault_1 ⟨Nat.zero_le _, Nat.zero_le _⟩) hP hD hS hA [0, 1] [2, 3] [2, 3, 0, 1] rfl rfl (by decide) (by decide) rfl (by decide) (fun H locs hP hD hS => ?_)
  refine lv_aload_n hx hb dFD_fault_4 rfl (lv_at hl 0 rfl) ?_
  refine va_get (D := (dC, dI)) (ci := 2) (v := .int k_size) (C := RFD) (T := TFD) (N := 4) hx hb hts hi_FD hown hK hP 0 rfl rfl 2 (by decide) (hts _ tw_47) (fun _ h9 => h9) rfl dFD_fault_5 ?_
  refine lv_icmp_eq (tgt := 13) hx hb dFD_fault_8 (by decide) (fun c_3 => ?_) (fun c_3 => ?_)
  · have hf := ifT hf c_3
    refine lv_aload_n hx hb dFD_fault_13 rfl (lv_at hl 0 rfl) ?_
    obtain ⟨r4, o5, h6, hf⟩ := bd2_some hf
    have hPc := hP.sub (ws' := (w_FD_hasSymbolTwice cI cZ cL cB q q_counts q_symbols q_seen k_size k_symbols k_seen)) [0, 2, 3] rfl
    have hDc := hD.sub (ws' := (w_FD_hasSymbolTwice cI cZ cL cB q q_counts q_symbols q_seen k_size k_symbols k_seen)) [0, 2, 3] (by decide) rfl
    refine ax_calli (wr := [(q_counts, .inl (cI, 17, .inl k_counts))]) (w2 := (w_FD_fault cI cZ cL cB q q_counts q_symbols q_seen k_size k_counts k_symbols o5)) (va_runV (As := []) (rest := []) ⟨hx, hb, hml, hown, hts⟩ (cc_FD_hasSymbolTwice l dC dI cI cZ cL cB q q_counts q_symbols q_seen H.size k_size k_symbols k_seen r4 o5 h6) (cwV 0 hts (tt_V tw_171 tw_172 tw_1 tw_22 tw_173) rfl rfl rfl (by decide +kernel) ⟨Nat.le_of_ble_eq_true rfl, Nat.le_of_ble_eq_true rfl⟩) ⟨kz_fb, va_recv hK hPc (ci := 2) (q0 := 0) rfl rfl, kz_pre hPc hZ hDc⟩ rfl rfl hl.1 rfl (lv_room (Nat.le_of_ble_eq_true rfl)) dFD_fault_14 ⟨Nat.zero_le _, Nat.zero_le _⟩) hP hD hS hA [0, 2, 3] [1] [1, 0, 2, 3] rfl rfl (by decide) (by decide) rfl (by decide) (fun H locs hP hD hS => ?_)
    refine lv_if_eq (tgt := 23) hx hb dFD_fault_17 (by decide) (fun c_7 => ?_) (fun c_7 => ?_)
    · have hf := ifT hf c_7
      refine lv_aload_n hx hb dFD_fault_23 rfl (lv_at hl 0 rfl) ?_
      obtain ⟨r8, h9, hf⟩ := bd1_some hf
      have hPc := hP.sub (ws' := (w_FD_hasWordTooGreat cI cZ cL cB q q_counts q_symbols q_seen k_size k_counts)) [0, 1] rfl
      have hDc := hD.sub (ws' := (w_FD_hasWordTooGreat cI cZ cL cB q q_counts q_symbols q_seen k_size k_counts)) [0, 1] (by decide) rfl
      refine ax_calli (wr := [(q_symbols, .inl (cI, 256, .inl k_symbols)), (q_seen, .inl (cZ, 256, .inl o5))]) (w2 := (w_FD_fault cI cZ cL cB q q_counts q_symbols q_seen k_size k_counts k_symbols o5)) (va_runV (As := []) (rest := []) ⟨hx, hb, hml, hown, hts⟩ (cc_FD_hasWordTooGreat l dC dI cI cZ cL cB q q_counts q_symbols q_seen H.size k_size k_counts r8 h9) (cwV 0 hts (tt_V tw_174 tw_175 tw_2 tw_22 tw_176) rfl rfl rfl (by decide +kernel) ⟨Nat.le_of_ble_eq_true rfl, Nat.le_of_ble_eq_true rfl⟩) ⟨kz_fb, va_recv hK hPc (ci := 2) (q0 := 0) rfl rfl, kz_pre hPc hZ hDc⟩ rfl rfl hl.1 rfl (lv_room (Nat.le_of_ble_eq_true rfl)) dFD_fault_24 ⟨Nat.zero_le _, Nat.zero_le _⟩) hP hD hS hA [0, 1] [2, 3] [2, 3, 0, 1] rfl rfl (by decide) (by decide) rfl (by decide) (fun H locs hP hD hS => ?_)
      refine lv_if_eq (tgt := 35) hx hb dFD_fault_27 (by decide) (fun c_10 => ?_) (fun c_10 => ?_)
      · have hf := ifT hf c_10
        refine lv_iconst (v := 0) hx hb dFD_fault_35 (by decide) ?_
        cases hf
        exact ax_iret hx hb hr hP hD hS dFD_fault_36 hlocks
      · have hf := ifF hf c_10
        refine lv_bipush (v := (-3)) hx hb dFD_fault_30 (by decide) ?_
        refine lv_goto (tgt := 36) hx hb dFD_fault_32 (by decide) ?_
        cases hf
        exact ax_iret hx hb hr hP hD hS dFD_fault_36 hlocks
    · have hf := ifF hf c_7
      refine lv_bipush (v := (-2)) hx hb dFD_fault_20 (by decide) ?_
      cases hf
      exact ax_iret hx hb hr hP hD hS dFD_fault_22 hlocks
  · have hf := ifF hf c_3
    refine lv_iconst (v := (-1)) hx hb dFD_fault_11 (by decide) ?_
    cases hf
    exact ax_iret hx hb hr hP hD hS dFD_fault_12 hlocks
abbrev wsFT_addWord : List Cond := Cond.code yFT_addWord cFT_addWord 4 none :: tt
set_option maxHeartbeats 4000000 in
set_option maxRecDepth 100000 in
theorem cc_FT_addWord (l : Launch) (dC : Nat → ClassId) (dI : Nat → Nat → Nat) (cI cZ cL cB : ClassId) (q q_counts q_symbols q_lengths q_codes : Nat) (sz : Nat) (k_size : Int32) (k_symbols : Nat → Int32) (k_lengths : Nat → Int32) (k_codes : Nat → Int32) (a_0 : Int32) (a_1 : Int32) (a_2 : Int32) (o_size : Int32) (o_symbols : Nat → Int32) (o_lengths : Nat → Int32) (o_codes : Nat → Int32) (hf : f_FT_addWord k_size k_symbols k_lengths k_codes a_0 a_1 a_2 = some (o_size, o_symbols, o_lengths, o_codes)) : Met l yFT_addWord wsFT_addWord ({ frames := 0, cells := 0, slots := 0, locals := 0 }) (va_Pc [.ref q, .int a_0, .int a_1, .int a_2] (kz_P dC dI cI cZ cL cB sz (w_FT_addWord cI cZ cL cB q q_counts q_symbols q_lengths q_codes k_size k_symbols k_lengths k_codes))) (va_Qv (fun (_ : Unit) => True) (fun _ t => va_P (dC, dI) vwCl (w_FT_addWord cI cZ cL cB q q_counts q_symbols q_lengths q_codes o_size o_symbols o_lengths o_codes) t.heap ∧ va_D (va_A (w_FT_addWord cI cZ cL cB q q_counts q_symbols q_lengths q_codes k_size k_symbols k_lengths k_codes) sz) (w_FT_addWord cI cZ cL cB q q_counts q_symbols q_lengths q_codes o_size o_symbols o_lengths o_codes)) (va_A (w_FT_addWord cI cZ cL cB q q_counts q_symbols q_lengths q_codes k_size k_symbols k_lengths k_codes) sz)) 0 0 (va_A (w_FT_addWord cI cZ cL cB q q_counts q_symbols q_lengths q_codes k_size k_symbols k_lengths k_codes) sz) := by
  refine Met.ofW (cc := cFT_addWord) (maxL := 4) (ret := none) (by decide) rfl ?_
  intro p e s m args below meth c s₁ B hml hv
  obtain ⟨rfl, hsz, hP, hZ, hD0⟩ := hv
  have hK := hZ.1
  have hx := B.exec
  have hb := B.bytes
  have hr := B.returns
  have hts : ∀ w ∈ tt, w.before _ s = true := fun w h => atoms_spec (ws := wsFT_addWord) B.pre w (List.mem_cons_of_mem _ h)
  have hown : s.vm.findClass RFT = some m.cls := findClass_of_methodNamed B.named
  have hlocks := B.notSynchronized
  subst hsz
  have hD := hD0.self (sz := s.heap.size)
  generalize hAe : va_A (w_FT_addWord cI cZ cL cB q q_counts q_symbols q_lengths q_codes k_size k_symbols k_lengths k_codes) s.heap.size = A at hD ⊢
  have hA : ∀ q : Nat, s.heap.size ≤ q → A q := fun q h => by rw [← hAe]; exact Or.inr h
  have hS : va_S A s.heap s.heap [] := va_S.rf
  have hl := lv_entry [.ref q, .int a_0, .int a_1, .int a_2] (n := 4) (Nat.le_of_ble_eq_true rfl)
  rw [lg_entry_eq]
  generalize (lg_sl [.ref q, .int a_0, .int a_1, .int a_2] ++ List.replicate (4 - (lg_sl [.ref q, .int a_0, .int a_1, .int a_2]).length) Slot.unset).toArray = ls at hl ⊢
  have hl : lv_has ls 4 [(0, .ref q), (1, .int a_0), (2, .int a_1), (3, .int a_2)] := hl
  unfold f_FT_addWord at hf
  refine lv_aload_n hx hb dFT_addWord_0 rfl (lv_at hl 0 rfl) ?_
  refine va_get (D := (dC, dI)) (ci := 3) (v := .ref q_symbols) (C := RFT) (T := TFT) (N := 5) hx hb hts hi_FT hown hK hP 0 rfl rfl 1 (by decide) (hts _ tw_63) (fun _ h9 => h9) rfl dFT_addWord_1 ?_
  refine lv_aload_n hx hb dFT_addWord_4 rfl (lv_at hl 0 rfl) ?_
  refine va_get (D := (dC, dI)) (ci := 3) (v := .int k_size) (C := RFT) (T := TFT) (N := 5) hx hb hts hi_FT hown hK hP 0 rfl rfl 4 (by decide) (hts _ tw_69) (fun _ h9 => h9) rfl dFT_addWord_5 ?_
  refine lv_iload_n hx hb dFT_addWord_8 rfl (lv_at hl 1 rfl) ?_
  obtain ⟨g1, eg1, h2, hf⟩ := wr_some hf
  refine ax_iast hx hb hK hP hD hS 1 0 rfl rfl h2 eg1 dFT_addWord_9 (ws' := (w_FT_addWord cI cZ cL cB q q_counts q_symbols q_lengths q_codes k_size g1 k_lengths k_codes)) rfl (fun H locs hP hD hS => ?_)
  refine lv_aload_n hx hb dFT_addWord_10 rfl (lv_at hl 0 rfl) ?_
  refine va_get (D := (dC, dI)) (ci := 3) (v := .ref q_lengths) (C := RFT) (T := TFT) (N := 5) hx hb hts hi_FT hown hK hP 0 rfl rfl 2 (by decide) (hts _ tw_65) (fun _ h9 => h9) rfl dFT_addWord_11 ?_
  refine lv_iload_n hx hb dFT_addWord_14 rfl (lv_at hl 1 rfl) ?_
  refine lv_iload_n hx hb dFT_addWord_15 rfl (lv_at hl 2 rfl) ?_
  obtain ⟨g3, eg3, h4, hf⟩ := wr_some hf
  refine ax_iast hx hb hK hP hD hS 2 0 rfl rfl h4 eg3 dFT_addWord_16 (ws' := (w_FT_addWord cI cZ cL cB q q_counts q_symbols q_lengths q_codes k_size g1 g3 k_codes)) rfl (fun H locs hP hD hS => ?_)
  refine lv_aload_n hx hb dFT_addWord_17 rfl (lv_at hl 0 rfl) ?_
  refine va_get (D := (dC, dI)) (ci := 3) (v := .ref q_codes) (C := RFT) (T := TFT) (N := 5) hx hb hts hi_FT hown hK hP 0 rfl rfl 3 (by decide) (hts _ tw_67) (fun _ h9 => h9) rfl dFT_addWord_18 ?_
  refine lv_iload_n hx hb dFT_addWord_21 rfl (lv_at hl 1 rfl) ?_
  refine lv_iload_n hx hb dFT_addWord_22 rfl (lv_at hl 3 rfl) ?_
  obtain ⟨g5, eg5, h6, hf⟩ := wr_some hf
  refine ax_iast hx hb hK hP hD hS 3 0 rfl rfl h6 eg5 dFT_addWord_23 (ws' := (w_FT_addWord cI cZ cL cB q q_counts q_symbols q_lengths q_codes k_size g1 g3 g5)) rfl (fun H locs hP hD hS => ?_)
  refine lv_aload_n hx hb dFT_addWord_24 rfl (lv_at hl 0 rfl) ?_
  refine lv_dup hx hb dFT_addWord_25 rfl ?_
  refine va_get (D := (dC, dI)) (ci := 3) (v := .int k_size) (C := RFT) (T := TFT) (N := 5) hx hb hts hi_FT hown hK hP 0 rfl rfl 4 (by decide) (hts _ tw_69) (fun _ h9 => h9) rfl dFT_addWord_26 ?_
  refine lv_iconst (v := 1) hx hb dFT_addWord_29 (by decide) ?_
  refine lv_iadd hx hb dFT_addWord_30 ?_
  refine va_put (D := (dC, dI)) (ci := 3) (v := .int (k_size + 1)) (ty := .int) (C := RFT) (T := TFT) (N := 5) hx hb hts hi_FT tyFT tyFT_ok nmFT hown hK hP hD hS 0 rfl rfl 4 (by decide) (hts _ tw_69) (fun _ h9 => h9) rfl (by decide +kernel) rfl rfl (Nat.le_of_ble_eq_true rfl) dFT_addWord_31 (fun H locs hP hD hS => ?_)
  have hP : va_P (dC, dI) vwCl (w_FT_addWord cI cZ cL cB q q_counts q_symbols q_lengths q_codes (k_size + 1) g1 g3 g5) H := hP
  have hD : va_D A (w_FT_addWord cI cZ cL cB q q_counts q_symbols q_lengths q_codes (k_size + 1) g1 g3 g5) := hD
  cases hf
  exact ax_vret hx hb hr hP hD hS dFT_addWord_34 hlocks
abbrev wsFT_become : List Cond := Cond.code yFT_become cFT_become 6 none :: tt
set_option maxHeartbeats 4000000 in
set_option maxRecDepth 100000 in
theorem cc_FT_become (l : Launch) (dC : Nat → ClassId) (dI : Nat → Nat → Nat) (cI cZ cL cB : ClassId) (q q_counts q_symbols q_lengths q_codes q_p0 q_p1 : Nat) (sz : Nat) (k_size : Int32) (k_lengths : Nat → Int32) (n_p0 : Nat) (k_p0 : Nat → Int32) (k_counts : Nat → Int32) (n_p1 : Nat) (k_p1 : Nat → Int32) (k_symbols : Nat → Int32) (k_codes : Nat → Int32) (o_size : Int32) (o_lengths : Nat → Int32) (o_counts : Nat → Int32) (o_symbols : Nat → Int32) (o_codes : Nat → Int32) (hf : f_FT_become k_size k_lengths n_p0 k_p0 k_counts n_p1 k_p1 k_symbols k_codes = some (o_size, o_lengths, o_counts, o_symbols, o_codes)) : Met l yFT_become wsFT_become ({ frames := 1, cells := 0, slots := 0, locals := 23 }) (va_Pc [.ref q, .ref q_p0, .ref q_p1] (kz_P dC dI cI cZ cL cB sz (w_FT_become cI cZ cL cB q q_counts q_symbols q_lengths q_codes q_p0 q_p1 k_size k_lengths n_p0 k_p0 k_counts n_p1 k_p1 k_symbols k_codes))) (va_Qv (fun (_ : Unit) => True) (fun _ t => va_P (dC, dI) vwCl (w_FT_become cI cZ cL cB q q_counts q_symbols q_lengths q_codes q_p0 q_p1 o_size o_lengths n_p0 k_p0 o_counts n_p1 k_p1 o_symbols o_codes) t.heap ∧ va_D (va_A (w_FT_become cI cZ cL cB q q_counts q_symbols q_lengths q_codes q_p0 q_p1 k_size k_lengths n_p0 k_p0 k_counts n_p1 k_p1 k_symbols k_codes) sz) (w_FT_become cI cZ cL cB q q_counts q_symbols q_lengths q_codes q_p0 q_p1 o_size o_lengths n_p0 k_p0 o_counts n_p1 k_p1 o_symbols o_codes)) (va_A (w_FT_become cI cZ cL cB q q_counts q_symbols q_lengths q_codes q_p0 q_p1 k_size k_lengths n_p0 k_p0 k_counts n_p1 k_p1 k_symbols k_codes) sz)) 0 0 (va_A (w_FT_become cI cZ cL cB q q_counts q_symbols q_lengths q_codes q_p0 q_p1 k_size k_lengths n_p0 k_p0 k_counts n_p1 k_p1 k_symbols k_codes) sz) := by
  refine Met.ofW (cc := cFT_become) (maxL := 6) (ret := none) (by decide) rfl ?_
  intro p e s m args below meth c s₁ B hml hv
  obtain ⟨rfl, hsz, hP, hZ, hD0⟩ := hv
  have hK := hZ.1
  have hx := B.exec
  have hb := B.bytes
  have hr := B.returns
  have hts : ∀ w ∈ tt, w.before _ s = true := fun w h => atoms_spec (ws := wsFT_become) B.pre w (List.mem_cons_of_mem _ h)
  have hown : s.vm.findClass RFT = some m.cls := findClass_of_methodNamed B.named
  have hlocks := B.notSynchronized
  subst hsz
  have hD := hD0.self (sz := s.heap.size)
  generalize hAe : va_A (w_FT_become cI cZ cL cB q q_counts q_symbols q_lengths q_codes q_p0 q_p1 k_size k_lengths n_p0 k_p0 k_counts n_p1 k_p1 k_symbols k_codes) s.heap.size = A at hD ⊢
  have hA : ∀ q : Nat, s.heap.size ≤ q → A q := fun q h => by rw [← hAe]; exact Or.inr h
  have hS : va_S A s.heap s.heap [] := va_S.rf
  have hl := lv_entry [.ref q, .ref q_p0, .ref q_p1] (n := 6) (Nat.le_of_ble_eq_true rfl)
  rw [lg_entry_eq]
  generalize (lg_sl [.ref q, .ref q_p0, .ref q_p1] ++ List.replicate (6 - (lg_sl [.ref q, .ref q_p0, .ref q_p1]).length) Slot.unset).toArray = ls at hl ⊢
  have hl : lv_has ls 6 [(0, .ref q), (1, .ref q_p0), (2, .ref q_p1)] := hl
  unfold f_FT_become at hf
  refine lv_aload_n hx hb dFT_become_0 rfl (lv_at hl 0 rfl) ?_
  refine va_get (D := (dC, dI)) (ci := 3) (v := .ref q_lengths) (C := RFT) (T := TFT) (N := 5) hx hb hts hi_FT hown hK hP 0 rfl rfl 2 (by decide) (hts _ tw_65) (fun _ h9 => h9) rfl dFT_become_1 ?_
  refine lv_iconst (v := 0) hx hb dFT_become_4 (by decide) ?_
  obtain ⟨o1, h2, hf⟩ := bd1_some hf
  have hPc := hP.sub (ws' := (w_JA_fill cI cZ cL cB q_lengths 256 k_lengths)) [1] rfl
  have hDc := hD.sub (ws' := (w_JA_fill cI cZ cL cB q_lengths 256 k_lengths)) [1] (by decide) rfl
  refine ax_callv (wr := [(q, .inr (3, [.ref q_counts, .ref q_symbols, .ref q_lengths, .ref q_codes, .int k_size])), (q_p0, .inl (cI, n_p0, .inl k_p0)), (q_counts, .inl (cI, 17, .inl k_counts)), (q_p1, .inl (cI, n_p1, .inl k_p1)), (q_symbols, .inl (cI, 256, .inl k_symbols)), (q_codes, .inl (cI, 256, .inl k_codes))]) (w2 := (w_FT_become cI cZ cL cB q q_counts q_symbols q_lengths q_codes q_p0 q_p1 k_size o1 n_p0 k_p0 k_counts n_p1 k_p1 k_symbols k_codes)) (va_runS (As := [.ref q_lengths, .int 0]) (rest := []) ⟨hx, hb, hml, hown, hts⟩ (cc_JA_fill l dC dI cI cZ cL cB q_lengths s.heap.size 256 k_lengths 0 o1 h2) (va_cwS 2 hts (tt_S tw_181 tw_158 tw_28 tw_159) rfl rfl rfl (by decide +kernel) ⟨Nat.le_of_ble_eq_true rfl, Nat.le_of_ble_eq_true rfl⟩) ⟨kz_fb, kz_pre hPc hZ hDc⟩ rfl rfl hl.1 rfl (lv_room (Nat.le_of_ble_eq_true rfl)) dFT_become_5 ⟨Nat.zero_le _, Nat.zero_le _⟩) hP hD hS hA [1] [0, 2, 3, 4, 5, 6] [0, 6, 1, 2, 3, 4, 5] rfl rfl (by decide) (by decide) rfl (by decide) (fun H locs hP hD hS => ?_)
  refine lv_aload_n hx hb dFT_become_8 rfl (lv_at hl 0 rfl) ?_
  refine lv_iconst (v := 0) hx hb dFT_become_9 (by decide) ?_
  refine va_put (D := (dC, dI)) (ci := 3) (v := .int 0) (ty := .int) (C := RFT) (T := TFT) (N := 5) hx hb hts hi_FT tyFT tyFT_ok nmFT hown hK hP hD hS 0 rfl rfl 4 (by decide) (hts _ tw_69) (fun _ h9 => h9) rfl (by decide +kernel) rfl rfl (Nat.le_of_ble_eq_true rfl) dFT_become_10 (fun H locs hP hD hS => ?_)
  have hP : va_P (dC, dI) vwCl (w_FT_become cI cZ cL cB q q_counts q_symbols q_lengths q_codes q_p0 q_p1 0 o1 n_p0 k_p0 k_counts n_p1 k_p1 k_symbols k_codes) H := hP
  have hD : va_D A (w_FT_become cI cZ cL cB q q_counts q_symbols q_lengths q_codes q_p0 q_p1 0 o1 n_p0 k_p0 k_counts n_p1 k_p1 k_symbols k_codes) := hD
  refine lv_iconst (v := 0) hx hb dFT_become_13 (by decide) ?_
  refine lv_istore_n (lv' := [(3, .int 0), (0, .ref q), (1, .ref q_p0), (2, .ref q_p1)]) hx hb dFT_become_14 rfl hl (by decide) rfl (fun ls hl => ?_)
  refine lv_iconst (v := 1) hx hb dFT_become_15 (by decide) ?_
  refine lv_istore (lv' := [(4, .int 1), (3, .int 0), (0, .ref q), (1, .ref q_p0), (2, .ref q_p1)]) hx hb dFT_become_16 hl (by decide) rfl (fun ls hl => ?_)
  refine Lp7_W (P := fun (x5 : Int32) (x6 : Int32) (x7 : Nat → Int32) (x8 : Nat → Int32) (x9 : Nat → Int32) (x10 : Int32) (x11 : Nat → Int32) => ∀ (H : Heap) (locs : List Loc) (ls : Array Slot), va_P (dC, dI) vwCl (w_FT_become cI cZ cL cB q q_counts q_symbols q_lengths q_codes q_p0 q_p1 x10 x9 n_p0 k_p0 x8 n_p1 k_p1 x11 x7) H → va_D A (w_FT_become cI cZ cL cB q q_counts q_symbols q_lengths q_codes q_p0 q_p1 x10 x9 n_p0 k_p0 x8 n_p1 k_p1 x11 x7) → va_S A s.heap H locs → lv_has ls 6 [(0, .ref q), (1, .ref q_p0), (2, .ref q_p1), (3, .int x5), (4, .int x6)] → W p l e _ s m _ below meth c H locs 0 0 _ (F0 m 18 ls [])) ?_ _ _ _ _ _ _ _ _ hf _ _ _ hP hD hS (lv_sub hl [2, 3, 4, 1, 0] rfl)
  clear hf hP hD hS hl
  intro ag3 ih4 x5 x6 x7 x8 x9 x10 x11 hf H locs ls hP hD hS hl
  refine lv_iload hx hb dFT_become_18 (lv_at hl 4 rfl) ?_
  refine lv_bipush (v := 16) hx hb dFT_become_20 (by decide) ?_
  refine lv_icmp_gt (tgt := 93) hx hb dFT_become_22 (by decide) (fun c_12 => ?_) (fun c_12 => ?_)
  · have hf := ifT hf c_12
    cases hf
    exact ax_vret hx hb hr hP hD hS dFT_become_93 hlocks
  · have hf := ifF hf c_12
    refine lv_aload_n hx hb dFT_become_25 rfl (lv_at hl 0 rfl) ?_
    refine va_get (D := (dC, dI)) (ci := 3) (v := .ref q_counts) (C := RFT) (T := TFT) (N := 5) hx hb hts hi_FT hown hK hP 0 rfl rfl 0 (by decide) (hts _ tw_61) (fun _ h9 => h9) rfl dFT_become_26 ?_
    refine lv_iload hx hb dFT_become_29 (lv_at hl 4 rfl) ?_
    refine lv_aload_n hx hb dFT_become_31 rfl (lv_at hl 1 rfl) ?_
    refine lv_iload hx hb dFT_become_32 (lv_at hl 4 rfl) ?_
    obtain ⟨v13, ev13, h14, hf⟩ := rd_some hf
    refine ax_iald hx hb hK hP 2 0 rfl rfl h14 ev13 dFT_become_34 ?_
    obtain ⟨g15, eg15, h16, hf⟩ := wr_some hf
    refine ax_iast hx hb hK hP hD hS 3 0 rfl rfl h16 eg15 dFT_become_35 (ws' := (w_FT_become cI cZ cL cB q q_counts q_symbols q_lengths q_codes q_p0 q_p1 x10 x9 n_p0 k_p0 g15 n_p1 k_p1 x11 x7)) rfl (fun H locs hP hD hS => ?_)
    refine lv_iconst (v := 2) hx hb dFT_become_36 (by decide) ?_
    refine lv_iload_n hx hb dFT_become_37 rfl (lv_at hl 3 rfl) ?_
    refine lv_imul hx hb dFT_become_38 ?_
    refine lv_istore_n (lv' := [(3, .int (2 * x5)), (0, .ref q), (1, .ref q_p0), (2, .ref q_p1), (4, .int x6)]) hx hb dFT_become_39 rfl hl (by decide) rfl (fun ls hl => ?_)
    refine lv_iconst (v := 0) hx hb dFT_become_40 (by decide) ?_
    refine lv_istore (lv' := [(5, .int 0), (3, .int (2 * x5)), (0, .ref q), (1, .ref q_p0), (2, .ref q_p1), (4, .int x6)]) hx hb dFT_become_41 hl (by decide) rfl (fun ls hl => ?_)
    refine Lp6_W (P := fun (x19 : Int32) (x20 : Int32) (x21 : Nat → Int32) (x22 : Nat → Int32) (x23 : Int32) (x24 : Nat → Int32) => ∀ (H : Heap) (locs : List Loc) (ls : Array Slot), va_P (dC, dI) vwCl (w_FT_become cI cZ cL cB q q_counts q_symbols q_lengths q_codes q_p0 q_p1 x23 x22 n_p0 k_p0 g15 n_p1 k_p1 x24 x21) H → va_D A (w_FT_become cI cZ cL cB q q_counts q_symbols q_lengths q_codes q_p0 q_p1 x23 x22 n_p0 k_p0 g15 n_p1 k_p1 x24 x21) → va_S A s.heap H locs → lv_has ls 6 [(0, .ref q), (1, .ref q_p0), (2, .ref q_p1), (3, .int x19), (4, .int x6), (5, .int x20)] → W p l e _ s m _ below meth c H locs 0 0 _ (F0 m 43 ls [])) ?_ _ _ _ _ _ _ _ hf _ _ _ hP hD hS (lv_sub hl [2, 3, 4, 1, 5, 0] rfl)
    clear hf hP hD hS hl
    intro ag17 ih18 x19 x20 x21 x22 x23 x24 hf H locs ls hP hD hS hl
    refine lv_iload hx hb dFT_become_43 (lv_at hl 5 rfl) ?_
    refine lv_aload_n hx hb dFT_become_45 rfl (lv_at hl 0 rfl) ?_
    refine va_get (D := (dC, dI)) (ci := 3) (v := .ref q_counts) (C := RFT) (T := TFT) (N := 5) hx hb hts hi_FT hown hK hP 0 rfl rfl 0 (by decide) (hts _ tw_61) (fun _ h9 => h9) rfl dFT_become_46 ?_
    refine lv_iload hx hb dFT_become_49 (lv_at hl 4 rfl) ?_
    obtain ⟨v25, ev25, h26, hf⟩ := rd_some hf
    refine ax_iald hx hb hK hP 3 0 rfl rfl h26 ev25 dFT_become_51 ?_
    refine lv_icmp_ge (tgt := 87) hx hb dFT_become_52 (by decide) (fun c_27 => ?_) (fun c_27 => ?_)
    · have hf := ifT hf c_27
      refine lv_iinc (v := (x6 + 1)) (lv' := [(4, .int (x6 + 1)), (0, .ref q), (1, .ref q_p0), (2, .ref q_p1), (3, .int x19), (5, .int x20)]) hx hb dFT_become_87 hl (k := 4) rfl rfl (by decide) rfl (fun ls hl => ?_)
      refine lv_goto (tgt := 18) hx hb dFT_become_90 (by decide) ?_
      exact ih4 x19 (x6 + 1) x21 g15 x22 x23 x24 hf _ _ _ hP hD hS (lv_sub hl [1, 2, 3, 4, 0] rfl)
    · have hf := ifF hf c_27
      refine lv_aload_n hx hb dFT_become_55 rfl (lv_at hl 0 rfl) ?_
      refine va_get (D := (dC, dI)) (ci := 3) (v := .int x23) (C := RFT) (T := TFT) (N := 5) hx hb hts hi_FT hown hK hP 0 rfl rfl 4 (by decide) (hts _ tw_69) (fun _ h9 => h9) rfl dFT_become_56 ?_
      refine lv_sipush (v := 256) hx hb dFT_become_59 (by decide) ?_
      refine lv_icmp_ge (tgt := 87) hx hb dFT_become_62 (by decide) (fun c_28 => ?_) (fun c_28 => ?_)
      · have hf := ifT hf c_28
        refine lv_iinc (v := (x6 + 1)) (lv' := [(4, .int (x6 + 1)), (0, .ref q), (1, .ref q_p0), (2, .ref q_p1), (3, .int x19), (5, .int x20)]) hx hb dFT_become_87 hl (k := 4) rfl rfl (by decide) rfl (fun ls hl => ?_)
        refine lv_goto (tgt := 18) hx hb dFT_become_90 (by decide) ?_
        exact ih4 x19 (x6 + 1) x21 g15 x22 x23 x24 hf _ _ _ hP hD hS (lv_sub hl [1, 2, 3, 4, 0] rfl)
      · have hf := ifF hf c_28
        refine lv_aload_n hx hb dFT_become_65 rfl (lv_at hl 0 rfl) ?_
        refine lv_aload_n hx hb dFT_become_66 rfl (lv_at hl 2 rfl) ?_
        refine lv_aload_n hx hb dFT_become_67 rfl (lv_at hl 0 rfl) ?_
        refine va_get (D := (dC, dI)) (ci := 3) (v := .int x23) (C := RFT) (T := TFT) (N := 5) hx hb hts hi_FT hown hK hP 0 rfl rfl 4 (by decide) (hts _ tw_69) (fun _ h9 => h9) rfl dFT_become_68 ?_
        obtain ⟨v29, ev29, h30, hf⟩ := rd_some hf
        refine ax_iald hx hb hK hP 4 0 rfl rfl h30 ev29 dFT_become_71 ?_
        refine lv_iload hx hb dFT_become_72 (lv_at hl 4 rfl) ?_
        refine lv_iload_n hx hb dFT_become_74 rfl (lv_at hl 3 rfl) ?_
        obtain ⟨o31, o32, o33, o34, h35, hf⟩ := bd4_some hf
        have hPc := hP.sub (ws' := (w_FT_addWord cI cZ cL cB q q_counts q_symbols q_lengths q_codes x23 x24 x22 x21)) [0, 5, 1, 6] rfl
        have hDc := hD.sub (ws' := (w_FT_addWord cI cZ cL cB q q_counts q_symbols q_lengths q_codes x23 x24 x22 x21)) [0, 5, 1, 6] (by decide) rfl
        refine ax_callv (wr := [(q_p0, .inl (cI, n_p0, .inl k_p0)), (q_counts, .inl (cI, 17, .inl g15)), (q_p1, .inl (cI, n_p1, .inl k_p1))]) (w2 := (w_FT_become cI cZ cL cB q q_counts q_symbols q_lengths q_codes q_p0 q_p1 o31 o33 n_p0 k_p0 g15 n_p1 k_p1 o32 o34)) (va_runV (As := [.int v29, .int x6, .int x19]) (rest := []) ⟨hx, hb, hml, hown, hts⟩ (cc_FT_addWord l dC dI cI cZ cL cB q q_counts q_symbols q_lengths q_codes H.size x23 x24 x22 x21 v29 x6 x19 o31 o32 o33 o34 h35) (cwV 3 hts (tt_V tw_182 tw_183 tw_3 tw_23 tw_184) rfl rfl rfl (by decide +kernel) ⟨Nat.le_of_ble_eq_true rfl, Nat.le_of_ble_eq_true rfl⟩) ⟨kz_fb, va_recv hK hPc (ci := 3) (q0 := 0) rfl rfl, kz_pre hPc hZ hDc⟩ rfl rfl hl.1 rfl (lv_room (Nat.le_of_ble_eq_true rfl)) dFT_become_75 ⟨Nat.zero_le _, Nat.zero_le _⟩) hP hD hS hA [0, 5, 1, 6] [2, 3, 4] [3, 5, 0, 1, 2, 4, 6] rfl rfl (by decide) (by decide) rfl (by decide) (fun H locs hP hD hS => ?_)
        refine lv_iinc (v := (x19 + 1)) (lv' := [(3, .int (x19 + 1)), (0, .ref q), (1, .ref q_p0), (2, .ref q_p1), (4, .int x6), (5, .int x20)]) hx hb dFT_become_78 hl (k := 3) rfl rfl (by decide) rfl (fun ls hl => ?_)
        refine lv_iinc (v := (x20 + 1)) (lv' := [(5, .int (x20 + 1)), (3, .int (x19 + 1)), (0, .ref q), (1, .ref q_p0), (2, .ref q_p1), (4, .int x6)]) hx hb dFT_become_81 hl (k := 5) rfl rfl (by decide) rfl (fun ls hl => ?_)
        refine lv_goto (tgt := 43) hx hb dFT_become_84 (by decide) ?_
        exact ih18 (x19 + 1) (x20 + 1) o34 o33 o31 o32 hf _ _ _ hP hD hS (lv_sub hl [2, 3, 4, 1, 5, 0] rfl)
abbrev wsFF_make : List Cond := Cond.code yFF_make cFF_make 2 (some .int) :: tt
set_option maxHeartbeats 4000000 in
set_option maxRecDepth 100000 in
theorem cc_FF_make (l : Launch) (dC : Nat → ClassId) (dI : Nat → Nat → Nat) (cI cZ cL cB : ClassId) (q q_draft q_table q_tally q_finder q_row q_draft_counts q_draft_symbols q_draft_seen q_table_counts q_table_symbols q_table_lengths q_table_codes : Nat) (sz : Nat) (k_draft_size : Int32) (k_draft_counts : Nat → Int32) (k_draft_symbols : Nat → Int32) (k_draft_seen : Nat → Int32) (k_table_size : Int32) (k_table_lengths : Nat → Int32) (k_table_counts : Nat → Int32) (k_table_symbols : Nat → Int32) (k_table_codes : Nat → Int32) (r : Int32) (o_draft_seen : Nat → Int32) (o_table_size : Int32) (o_table_lengths : Nat → Int32) (o_table_counts : Nat → Int32) (o_table_symbols : Nat → Int32) (o_table_codes : Nat → Int32) (hf : f_FF_make k_draft_size k_draft_counts k_draft_symbols k_draft_seen k_table_size k_table_lengths k_table_counts k_table_symbols k_table_codes = some (r, o_draft_seen, o_table_size, o_table_lengths, o_table_counts, o_table_symbols, o_table_codes)) : Met l yFF_make wsFF_make ({ frames := 2, cells := 0, slots := 0, locals := 48 }) (va_Pc [.ref q] (kz_P dC dI cI cZ cL cB sz (w_FF_make cI cZ cL cB q q_draft q_table q_tally q_finder q_row q_draft_counts q_draft_symbols q_draft_seen q_table_counts q_table_symbols q_table_lengths q_table_codes k_draft_size k_draft_counts k_draft_symbols k_draft_seen k_table_size k_table_lengths k_table_counts k_table_symbols k_table_codes))) (va_Qi (fun (r' : Int32) (_ : Unit) => r' = r) (fun _ t => va_P (dC, dI) vwCl (w_FF_make cI cZ cL cB q q_draft q_table q_tally q_finder q_row q_draft_counts q_draft_symbols q_draft_seen q_table_counts q_table_symbols q_table_lengths q_table_codes k_draft_size k_draft_counts k_draft_symbols o_draft_seen o_table_size o_table_lengths o_table_counts o_table_symbols o_table_codes) t.heap ∧ va_D (va_A (w_FF_make cI cZ cL cB q q_draft q_table q_tally q_finder q_row q_draft_counts q_draft_symbols q_draft_seen q_table_counts q_table_symbols q_table_lengths q_table_codes k_draft_size k_draft_counts k_draft_symbols k_draft_seen k_table_size k_table_lengths k_table_counts k_table_symbols k_table_codes) sz) (w_FF_make cI cZ cL cB q q_draft q_table q_tally q_finder q_row q_draft_counts q_draft_symbols q_draft_seen q_table_counts q_table_symbols q_table_lengths q_table_codes k_draft_size k_draft_counts k_draft_symbols o_draft_seen o_table_size o_table_lengths o_table_counts o_table_symbols o_table_codes)) (va_A (w_FF_make cI cZ cL cB q q_draft q_table q_tally q_finder q_row q_draft_counts q_draft_symbols q_draft_seen q_table_counts q_table_symbols q_table_lengths q_table_codes k_draft_size k_draft_counts k_draft_symbols k_draft_seen k_table_size k_table_lengths k_table_counts k_table_symbols k_table_codes) sz)) 0 0 (va_A (w_FF_make cI cZ cL cB q q_draft q_table q_tally q_finder q_row q_draft_counts q_draft_symbols q_draft_seen q_table_counts q_table_symbols q_table_lengths q_table_codes k_draft_size k_draft_counts k_draft_symbols k_draft_seen k_table_size k_table_lengths k_table_counts k_table_symbols k_table_codes) sz) := by
  refine Met.ofW (cc := cFF_make) (maxL := 2) (ret := (some .int)) (by decide) rfl ?_
  intro p e s m args below meth c s₁ B hml hv
  obtain ⟨rfl, hsz, hP, hZ, hD0⟩ := hv
  have hK := hZ.1
  have hx := B.exec
  have hb := B.bytes
  have hr := B.returns
  have hts : ∀ w ∈ tt, w.before _ s = true := fun w h => atoms_spec (ws := wsFF_make) B.pre w (List.mem_cons_of_mem _ h)
  have hown : s.vm.findClass RFF = some m.cls := findClass_of_methodNamed B.named
  have hlocks := B.notSynchronized
  subst hsz
  have hD := hD0.self (sz := s.heap.size)
  generalize hAe : va_A (w_FF_make cI cZ cL cB q q_draft q_table q_tally q_finder q_row q_draft_counts q_draft_symbols q_draft_seen q_table_counts q_table_symbols q_table_lengths q_table_codes k_draft_size k_draft_counts k_draft_symbols k_draft_seen k_table_size k_table_lengths k_table_counts k_table_symbols k_table_codes) s.heap.size = A at hD ⊢
  have hA : ∀ q : Nat, s.heap.size ≤ q → A q := fun q h => by rw [← hAe]; exact Or.inr h
  have hS : va_S A s.heap s.heap [] := va_S.rf
  have hl := lv_entry [.ref q] (n := 2) (Nat.le_of_ble_eq_true rfl)
  rw [lg_entry_eq]
  generalize (lg_sl [.ref q] ++ List.replicate (2 - (lg_sl [.ref q]).length) Slot.unset).toArray = ls at hl ⊢
  have hl : lv_has ls 2 [(0, .ref q)] := hl
  unfold f_FF_make at hf
  refine lv_aload_n hx hb dFF_make_0 rfl (lv_at hl 0 rfl) ?_
  refine va_get (D := (dC, dI)) (ci := 5) (v := .ref q_draft) (C := RFF) (T := TFF) (N := 5) hx hb hts hi_FF hown hK hP 0 rfl rfl 0 (by decide) (hts _ tw_125) (fun _ h9 => h9) rfl dFF_make_1 ?_
  obtain ⟨r1, o2, h3, hf⟩ := bd2_some hf
  have hPc := hP.sub (ws' := (w_FD_fault cI cZ cL cB q_draft q_draft_counts q_draft_symbols q_draft_seen k_draft_size k_draft_counts k_draft_symbols k_draft_seen)) [1, 2, 3, 4] rfl
  have hDc := hD.sub (ws' := (w_FD_fault cI cZ cL cB q_draft q_draft_counts q_draft_symbols q_draft_seen k_draft_size k_draft_counts k_draft_symbols k_draft_seen)) [1, 2, 3, 4] (by decide) rfl
  refine ax_calli (wr := [(q, .inr (5, [.ref q_draft, .ref q_table, .ref q_tally, .ref q_finder, .ref q_row])), (q_table, .inr (3, [.ref q_table_counts, .ref q_table_symbols, .ref q_table_lengths, .ref q_table_codes, .int k_table_size])), (q_table_lengths, .inl (cI, 256, .inl k_table_lengths)), (q_table_counts, .inl (cI, 17, .inl k_table_counts)), (q_table_symbols, .inl (cI, 256, .inl k_table_symbols)), (q_table_codes, .inl (cI, 256, .inl k_table_codes))]) (w2 := (w_FF_make cI cZ cL cB q q_draft q_table q_tally q_finder q_row q_draft_counts q_draft_symbols q_draft_seen q_table_counts q_table_symbols q_table_lengths q_table_codes k_draft_size k_draft_counts k_draft_symbols o2 k_table_size k_table_lengths k_table_counts k_table_symbols k_table_codes)) (va_runV (As := []) (rest := []) ⟨hx, hb, hml, hown, hts⟩ (cc_FD_fault l dC dI cI cZ cL cB q_draft q_draft_counts q_draft_symbols q_draft_seen s.heap.size k_draft_size k_draft_counts k_draft_symbols k_draft_seen r1 o2 h3) (cwV 0 hts (tt_V tw_164 tw_165 tw_166 tw_22 tw_167) rfl rfl rfl (by decide +kernel) ⟨Nat.le_of_ble_eq_true rfl, Nat.le_of_ble_eq_true rfl⟩) ⟨kz_fb, va_recv hK hPc (ci := 2) (q0 := 0) rfl rfl, kz_pre hPc hZ hDc⟩ rfl rfl hl.1 rfl (lv_room (Nat.le_of_ble_eq_true rfl)) dFF_make_4 ⟨Nat.zero_le _, Nat.zero_le _⟩) hP hD hS hA [1, 2, 3, 4] [0, 5, 6, 7, 8, 9] [0, 6, 7, 8, 9, 1, 2, 3, 4, 5] rfl rfl (by decide) (by decide) rfl (by decide) (fun H locs hP hD hS => ?_)
  refine lv_istore_n (lv' := [(1, .int r1), (0, .ref q)]) hx hb dFF_make_7 rfl hl (by decide) rfl (fun ls hl => ?_)
  refine lv_iload_n hx hb dFF_make_8 rfl (lv_at hl 0 rfl) ?_
  refine lv_if_eq (tgt := 14) hx hb dFF_make_9 (by decide) (fun c_4 => ?_) (fun c_4 => ?_)
  · have hf := ifT hf c_4
    refine lv_aload_n hx hb dFF_make_14 rfl (lv_at hl 1 rfl) ?_
    refine va_get (D := (dC, dI)) (ci := 5) (v := .ref q_table) (C := RFF) (T := TFF) (N := 5) hx hb hts hi_FF hown hK hP 0 rfl rfl 1 (by decide) (hts _ tw_126) (fun _ h9 => h9) rfl dFF_make_15 ?_
    refine lv_aload_n hx hb dFF_make_18 rfl (lv_at hl 1 rfl) ?_
    refine va_get (D := (dC, dI)) (ci := 5) (v := .ref q_draft) (C := RFF) (T := TFF) (N := 5) hx hb hts hi_FF hown hK hP 0 rfl rfl 0 (by decide) (hts _ tw_125) (fun _ h9 => h9) rfl dFF_make_19 ?_
    refine va_get (D := (dC, dI)) (ci := 2) (v := .ref q_draft_counts) (C := RFD) (T := TFD) (N := 4) hx hb hts hi_FD hown hK hP 1 rfl rfl 0 (by decide) (hts _ tw_44) (fun _ h9 => h9) rfl dFF_make_22 ?_
    refine lv_aload_n hx hb dFF_make_25 rfl (lv_at hl 1 rfl) ?_
    refine va_get (D := (dC, dI)) (ci := 5) (v := .ref q_draft) (C := RFF) (T := TFF) (N := 5) hx hb hts hi_FF hown hK hP 0 rfl rfl 0 (by decide) (hts _ tw_125) (fun _ h9 => h9) rfl dFF_make_26 ?_
    refine va_get (D := (dC, dI)) (ci := 2) (v := .ref q_draft_symbols) (C := RFD) (T := TFD) (N := 4) hx hb hts hi_FD hown hK hP 1 rfl rfl 1 (by decide) (hts _ tw_46) (fun _ h9 => h9) rfl dFF_make_29 ?_
    obtain ⟨o5, o6, o7, o8, o9, h10, hf⟩ := bd5_some hf
    have hPc := hP.sub (ws' := (w_FT_become cI cZ cL cB q_table q_table_counts q_table_symbols q_table_lengths q_table_codes q_draft_counts q_draft_symbols k_table_size k_table_lengths 17 k_draft_counts k_table_counts 256 k_draft_symbols k_table_symbols k_table_codes)) [5, 6, 2, 7, 3, 8, 9] rfl
    have hDc := hD.sub (ws' := (w_FT_become cI cZ cL cB q_table q_table_counts q_table_symbols q_table_lengths q_table_codes q_draft_counts q_draft_symbols k_table_size k_table_lengths 17 k_draft_counts k_table_counts 256 k_draft_symbols k_table_symbols k_table_codes)) [5, 6, 2, 7, 3, 8, 9] (by decide) rfl
    refine ax_callv (wr := [(q, .inr (5, [.ref q_draft, .ref q_table, .ref q_tally, .ref q_finder, .ref q_row])), (q_draft, .inr (2, [.ref q_draft_counts, .ref q_draft_symbols, .int k_draft_size, .ref q_draft_seen])), (q_draft_seen, .inl (cZ, 256, .inl o2))]) (w2 := (w_FF_make cI cZ cL cB q q_draft q_table q_tally q_finder q_row q_draft_counts q_draft_symbols q_draft_seen q_table_counts q_table_symbols q_table_lengths q_table_codes k_draft_size k_draft_counts k_draft_symbols o2 o5 o6 o7 o8 o9)) (va_runV (As := [.ref q_draft_counts, .ref q_draft_symbols]) (rest := []) ⟨hx, hb, hml, hown, hts⟩ (cc_FT_become l dC dI cI cZ cL cB q_table q_table_counts q_table_symbols q_table_lengths q_table_codes q_draft_counts q_draft_symbols H.size k_table_size k_table_lengths 17 k_draft_counts k_table_counts 256 k_draft_symbols k_table_symbols k_table_codes o5 o6 o7 o8 o9 h10) (cwV 2 hts (tt_V tw_177 tw_178 tw_179 tw_23 tw_180) rfl rfl rfl (by decide +kernel) ⟨Nat.le_of_ble_eq_true rfl, Nat.le_of_ble_eq_true rfl⟩) ⟨kz_fb, va_recv hK hPc (ci := 3) (q0 := 0) rfl rfl, kz_pre hPc hZ hDc⟩ rfl rfl hl.1 rfl (lv_room (Nat.le_of_ble_eq_true rfl)) dFF_make_32 ⟨Nat.zero_le _, Nat.zero_le _⟩) hP hD hS hA [5, 6, 2, 7, 3, 8, 9] [0, 1, 4] [0, 1, 5, 7, 2, 3, 4, 6, 8, 9] rfl rfl (by decide) (by decide) rfl (by decide) (fun H locs hP hD hS => ?_)
    refine lv_aload_n hx hb dFF_make_35 rfl (lv_at hl 1 rfl) ?_
    refine va_get (D := (dC, dI)) (ci := 5) (v := .ref q_table) (C := RFF) (T := TFF) (N := 5) hx hb hts hi_FF hown hK hP 0 rfl rfl 1 (by decide) (hts _ tw_126) (fun _ h9 => h9) rfl dFF_make_36 ?_
    refine va_get (D := (dC, dI)) (ci := 3) (v := .int o5) (C := RFT) (T := TFT) (N := 5) hx hb hts hi_FT hown hK hP 5 rfl rfl 4 (by decide) (hts _ tw_70) (fun _ h9 => h9) rfl dFF_make_39 ?_
    cases hf
    exact ax_iret hx hb hr hP hD hS dFF_make_42 hlocks
  · have hf := ifF hf c_4
    refine lv_iload_n hx hb dFF_make_12 rfl (lv_at hl 0 rfl) ?_
    cases hf
    exact ax_iret hx hb hr hP hD hS dFF_make_13 hlocks
abbrev wsFY_clear : List Cond := Cond.code yFY_clear cFY_clear 1 none :: tt
set_option maxHeartbeats 4000000 in
set_option maxRecDepth 100000 in
theorem cc_FY_clear (l : Launch) (dC : Nat → ClassId) (dI : Nat → Nat → Nat) (cI cZ cL cB : ClassId) (q q_numbers : Nat) (sz : Nat) (k_total : Int32) (k_numbers : Nat → Int32) (o_total : Int32) (o_numbers : Nat → Int32) (hf : f_FY_clear k_total k_numbers = some (o_total, o_numbers)) : Met l yFY_clear wsFY_clear ({ frames := 1, cells := 0, slots := 0, locals := 23 }) (va_Pc [.ref q] (kz_P dC dI cI cZ cL cB sz (w_FY_clear cI cZ cL cB q q_numbers k_total k_numbers))) (va_Qv (fun (_ : Unit) => True) (fun _ t => va_P (dC, dI) vwCl (w_FY_clear cI cZ cL cB q q_numbers o_total o_numbers) t.heap ∧ va_D (va_A (w_FY_clear cI cZ cL cB q q_numbers k_total k_numbers) sz) (w_FY_clear cI cZ cL cB q q_numbers o_total o_numbers)) (va_A (w_FY_clear cI cZ cL cB q q_numbers k_total k_numbers) sz)) 0 0 (va_A (w_FY_clear cI cZ cL cB q q_numbers k_total k_numbers) sz) := by
  refine Met.ofW (cc := cFY_clear) (maxL := 1) (ret := none) (by decide) rfl ?_
  intro p e s m args below meth c s₁ B hml hv
  obtain ⟨rfl, hsz, hP, hZ, hD0⟩ := hv
  have hK := hZ.1
  have hx := B.exec
  have hb := B.bytes
  have hr := B.returns
  have hts : ∀ w ∈ tt, w.before _ s = true := fun w h => atoms_spec (ws := wsFY_clear) B.pre w (List.mem_cons_of_mem _ h)
  have hown : s.vm.findClass RFY = some m.cls := findClass_of_methodNamed B.named
  have hlocks := B.notSynchronized
  subst hsz
  have hD := hD0.self (sz := s.heap.size)
  generalize hAe : va_A (w_FY_clear cI cZ cL cB q q_numbers k_total k_numbers) s.heap.size = A at hD ⊢
  have hA : ∀ q : Nat, s.heap.size ≤ q → A q := fun q h => by rw [← hAe]; exact Or.inr h
  have hS : va_S A s.heap s.heap [] := va_S.rf
  have hl := lv_entry [.ref q] (n := 1) (Nat.le_of_ble_eq_true rfl)
  rw [lg_entry_eq]
  generalize (lg_sl [.ref q] ++ List.replicate (1 - (lg_sl [.ref q]).length) Slot.unset).toArray = ls at hl ⊢
  have hl : lv_has ls 1 [(0, .ref q)] := hl
  unfold f_FY_clear at hf
  refine lv_aload_n hx hb dFY_clear_0 rfl (lv_at hl 0 rfl) ?_
  refine va_get (D := (dC, dI)) (ci := 4) (v := .ref q_numbers) (C := RFY) (T := TFY) (N := 2) hx hb hts hi_FY hown hK hP 0 rfl rfl 0 (by decide) (hts _ tw_81) (fun _ h9 => h9) rfl dFY_clear_1 ?_
  refine lv_iconst (v := 0) hx hb dFY_clear_4 (by decide) ?_
  obtain ⟨o1, h2, hf⟩ := bd1_some hf
  have hPc := hP.sub (ws' := (w_JA_fill cI cZ cL cB q_numbers 256 k_numbers)) [1] rfl
  have hDc := hD.sub (ws' := (w_JA_fill cI cZ cL cB q_numbers 256 k_numbers)) [1] (by decide) rfl
  refine ax_callv (wr := [(q, .inr (4, [.ref q_numbers, .int k_total]))]) (w2 := (w_FY_clear cI cZ cL cB q q_numbers k_total o1)) (va_runS (As := [.ref q_numbers, .int 0]) (rest := []) ⟨hx, hb, hml, hown, hts⟩ (cc_JA_fill l dC dI cI cZ cL cB q_numbers s.heap.size 256 k_numbers 0 o1 h2) (va_cwS 2 hts (tt_S tw_193 tw_158 tw_28 tw_159) rfl rfl rfl (by decide +kernel) ⟨Nat.le_of_ble_eq_true rfl, Nat.le_of_ble_eq_true rfl⟩) ⟨kz_fb, kz_pre hPc hZ hDc⟩ rfl rfl hl.1 rfl (lv_room (Nat.le_of_ble_eq_true rfl)) dFY_clear_5 ⟨Nat.zero_le _, Nat.zero_le _⟩) hP hD hS hA [1] [0] [0, 1] rfl rfl (by decide) (by decide) rfl (by decide) (fun H locs hP hD hS => ?_)
  refine lv_aload_n hx hb dFY_clear_8 rfl (lv_at hl 0 rfl) ?_
  refine lv_iconst (v := 0) hx hb dFY_clear_9 (by decide) ?_
  refine va_put (D := (dC, dI)) (ci := 4) (v := .int 0) (ty := .int) (C := RFY) (T := TFY) (N := 2) hx hb hts hi_FY tyFY tyFY_ok nmFY hown hK hP hD hS 0 rfl rfl 1 (by decide) (hts _ tw_83) (fun _ h9 => h9) rfl (by decide +kernel) rfl rfl (Nat.le_of_ble_eq_true rfl) dFY_clear_10 (fun H locs hP hD hS => ?_)
  have hP : va_P (dC, dI) vwCl (w_FY_clear cI cZ cL cB q q_numbers 0 o1) H := hP
  have hD : va_D A (w_FY_clear cI cZ cL cB q q_numbers 0 o1) := hD
  cases hf
  exact ax_vret hx hb hr hP hD hS dFY_clear_13 hlocks
abbrev wsFF_forget : List Cond := Cond.code yFF_forget cFF_forget 1 none :: tt
set_option maxHeartbeats 4000000 in
set_option maxRecDepth 100000 in
theorem cc_FF_forget (l : Launch) (dC : Nat → ClassId) (dI : Nat → Nat → Nat) (cI cZ cL cB : ClassId) (q q_draft q_table q_tally q_finder q_row q_tally_numbers : Nat) (sz : Nat) (k_tally_total : Int32) (k_tally_numbers : Nat → Int32) (o_tally_total : Int32) (o_tally_numbers : Nat → Int32) (hf : f_FF_forget k_tally_total k_tally_numbers = some (o_tally_total, o_tally_numbers)) : Met l yFF_forget wsFF_forget ({ frames := 2, cells := 0, slots := 0, locals := 43 }) (va_Pc [.ref q] (kz_P dC dI cI cZ cL cB sz (w_FF_forget cI cZ cL cB q q_draft q_table q_tally q_finder q_row q_tally_numbers k_tally_total k_tally_numbers))) (va_Qv (fun (_ : Unit) => True) (fun _ t => va_P (dC, dI) vwCl (w_FF_forget cI cZ cL cB q q_draft q_table q_tally q_finder q_row q_tally_numbers o_tally_total o_tally_numbers) t.heap ∧ va_D (va_A (w_FF_forget cI cZ cL cB q q_draft q_table q_tally q_finder q_row q_tally_numbers k_tally_total k_tally_numbers) sz) (w_FF_forget cI cZ cL cB q q_draft q_table q_tally q_finder q_row q_tally_numbers o_tally_total o_tally_numbers)) (va_A (w_FF_forget cI cZ cL cB q q_draft q_table q_tally q_finder q_row q_tally_numbers k_tally_total k_tally_numbers) sz)) 0 0 (va_A (w_FF_forget cI cZ cL cB q q_draft q_table q_tally q_finder q_row q_tally_numbers k_tally_total k_tally_numbers) sz) := by
  refine Met.ofW (cc := cFF_forget) (maxL := 1) (ret := none) (by decide) rfl ?_
  intro p e s m args below meth c s₁ B hml hv
  obtain ⟨rfl, hsz, hP, hZ, hD0⟩ := hv
  have hK := hZ.1
  have hx := B.exec
  have hb := B.bytes
  have hr := B.returns
  have hts : ∀ w ∈ tt, w.before _ s = true := fun w h => atoms_spec (ws := wsFF_forget) B.pre w (List.mem_cons_of_mem _ h)
  have hown : s.vm.findClass RFF = some m.cls := findClass_of_methodNamed B.named
  have hlocks := B.notSynchronized
  subst hsz
  have hD := hD0.self (sz := s.heap.size)
  generalize hAe : va_A (w_FF_forget cI cZ cL cB q q_draft q_table q_tally q_finder q_row q_tally_numbers k_tally_total k_tally_numbers) s.heap.size = A at hD ⊢
  have hA : ∀ q : Nat, s.heap.size ≤ q → A q := fun q h => by rw [← hAe]; exact Or.inr h
  have hS : va_S A s.heap s.heap [] := va_S.rf
  have hl := lv_entry [.ref q] (n := 1) (Nat.le_of_ble_eq_true rfl)
  rw [lg_entry_eq]
  generalize (lg_sl [.ref q] ++ List.replicate (1 - (lg_sl [.ref q]).length) Slot.unset).toArray = ls at hl ⊢
  have hl : lv_has ls 1 [(0, .ref q)] := hl
  unfold f_FF_forget at hf
  refine lv_aload_n hx hb dFF_forget_0 rfl (lv_at hl 0 rfl) ?_
  refine va_get (D := (dC, dI)) (ci := 5) (v := .ref q_tally) (C := RFF) (T := TFF) (N := 5) hx hb hts hi_FF hown hK hP 0 rfl rfl 2 (by decide) (hts _ tw_127) (fun _ h9 => h9) rfl dFF_forget_1 ?_
  obtain ⟨o1, o2, h3, hf⟩ := bd2_some hf
  have hPc := hP.sub (ws' := (w_FY_clear cI cZ cL cB q_tally q_tally_numbers k_tally_total k_tally_numbers)) [1, 2] rfl
  have hDc := hD.sub (ws' := (w_FY_clear cI cZ cL cB q_tally q_tally_numbers k_tally_total k_tally_numbers)) [1, 2] (by decide) rfl
  refine ax_callv (wr := [(q, .inr (5, [.ref q_draft, .ref q_table, .ref q_tally, .ref q_finder, .ref q_row]))]) (w2 := (w_FF_forget cI cZ cL cB q q_draft q_table q_tally q_finder q_row q_tally_numbers o1 o2)) (va_runV (As := []) (rest := []) ⟨hx, hb, hml, hown, hts⟩ (cc_FY_clear l dC dI cI cZ cL cB q_tally q_tally_numbers s.heap.size k_tally_total k_tally_numbers o1 o2 h3) (cwV 0 hts (tt_V tw_189 tw_190 tw_191 tw_24 tw_192) rfl rfl rfl (by decide +kernel) ⟨Nat.le_of_ble_eq_true rfl, Nat.le_of_ble_eq_true rfl⟩) ⟨kz_fb, va_recv hK hPc (ci := 4) (q0 := 0) rfl rfl, kz_pre hPc hZ hDc⟩ rfl rfl hl.1 rfl (lv_room (Nat.le_of_ble_eq_true rfl)) dFF_forget_4 ⟨Nat.zero_le _, Nat.zero_le _⟩) hP hD hS hA [1, 2] [0] [0, 1, 2] rfl rfl (by decide) (by decide) rfl (by decide) (fun H locs hP hD hS => ?_)
  cases hf
  exact ax_vret hx hb hr hP hD hS dFF_forget_7 hlocks
