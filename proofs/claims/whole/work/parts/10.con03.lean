abbrev wsFB_measureDepths : List Cond := Cond.code yFB_measureDepths cFB_measureDepths 2 none :: tt
set_option maxHeartbeats 4000000 in
set_option maxRecDepth 100000 in
theorem cc_FB_measureDepths (l : Launch) (dC : Nat → ClassId) (dI : Nat → Nat → Nat) (cI cZ cL cB : ClassId) (q q_counts q_symbols q_weights q_groups q_nodeOf q_parents q_depths : Nat) (sz : Nat) (k_groupsLeft : Int32) (k_nodes : Int32) (k_depths : Nat → Int32) (k_parents : Nat → Int32) (k_weights : Nat → Int32) (o_depths : Nat → Int32) (hf : f_FB_measureDepths k_groupsLeft k_nodes k_depths k_parents k_weights = some o_depths) : Met l yFB_measureDepths wsFB_measureDepths ({ frames := 0, cells := 0, slots := 0, locals := 0 }) (va_Pc [.ref q] (kz_P dC dI cI cZ cL cB sz (w_FB_measureDepths cI cZ cL cB q q_counts q_symbols q_weights q_groups q_nodeOf q_parents q_depths k_groupsLeft k_nodes k_depths k_parents k_weights))) (va_Qv (fun (_ : Unit) => True) (fun _ t => va_P (dC, dI) vwCl (w_FB_measureDepths cI cZ cL cB q q_counts q_symbols q_weights q_groups q_nodeOf q_parents q_depths k_groupsLeft k_nodes o_depths k_parents k_weights) t.heap ∧ va_D (va_A (w_FB_measureDepths cI cZ cL cB q q_counts q_symbols q_weights q_groups q_nodeOf q_parents q_depths k_groupsLeft k_nodes k_depths k_parents k_weights) sz) (w_FB_measureDepths cI cZ cL cB q q_counts q_symbols q_weights q_groups q_nodeOf q_parents q_depths k_groupsLeft k_nodes o_depths k_parents k_weights)) (va_A (w_FB_measureDepths cI cZ cL cB q q_counts q_symbols q_weights q_groups q_nodeOf q_parents q_depths k_groupsLeft k_nodes k_depths k_parents k_weights) sz)) 0 0 (va_A (w_FB_measureDepths cI cZ cL cB q q_counts q_symbols q_weights q_groups q_nodeOf q_parents q_depths k_groupsLeft k_nodes k_depths k_parents k_weights) sz) := by
  refine Met.ofW (cc := cFB_measureDepths) (maxL := 2) (ret := none) (by decide) rfl ?_
  intro p e s m args below meth c s₁ B hml hv
  obtain ⟨rfl, hsz, hP, hZ, hD0⟩ := hv
  have hK := hZ.1
  have hx := B.exec
  have hb := B.bytes
  have hr := B.returns
  have hts : ∀ w ∈ tt, w.before _ s = true := fun w h => atoms_spec (ws := wsFB_measureDepths) B.pre w (List.mem_cons_of_mem _ h)
  have hown : s.vm.findClass RFB = some m.cls := findClass_of_methodNamed B.named
  have hlocks := B.notSynchronized
  subst hsz
  have hD := hD0.self (sz := s.heap.size)
  generalize hAe : va_A (w_FB_measureDepths cI cZ cL cB q q_counts q_symbols q_weights q_groups q_nodeOf q_parents q_depths k_groupsLeft k_nodes k_depths k_parents k_weights) s.heap.size = A at hD ⊢
  have hA : ∀ q : Nat, s.heap.size ≤ q → A q := fun q h => by rw [← hAe]; exact Or.inr h
  have hS : va_S A s.heap s.heap [] := va_S.rf
  have hl := lv_entry [.ref q] (n := 2) (Nat.le_of_ble_eq_true rfl)
  rw [lg_entry_eq]
  generalize (lg_sl [.ref q] ++ List.replicate (2 - (lg_sl [.ref q]).length) Slot.unset).toArray = ls at hl ⊢
  have hl : lv_has ls 2 [(0, .ref q)] := hl
  unfold f_FB_measureDepths at hf
  refine lv_aload_n hx hb dFB_measureDepths_0 rfl (lv_at hl 0 rfl) ?_
  refine va_get (D := (dC, dI)) (ci := 0) (v := .ref q_depths) (C := RFB) (T := TFB) (N := 9) hx hb hts hi_FB hown hK hP 0 rfl rfl 7 (by decide) (hts _ tw_101) (fun _ h9 => h9) rfl dFB_measureDepths_1 ?_
  refine lv_aload_n hx hb dFB_measureDepths_4 rfl (lv_at hl 0 rfl) ?_
  refine va_get (D := (dC, dI)) (ci := 0) (v := .int k_nodes) (C := RFB) (T := TFB) (N := 9) hx hb hts hi_FB hown hK hP 0 rfl rfl 8 (by decide) (hts _ tw_102) (fun _ h9 => h9) rfl dFB_measureDepths_5 ?_
  refine lv_iconst (v := 1) hx hb dFB_measureDepths_8 (by decide) ?_
  refine lv_isub hx hb dFB_measureDepths_9 ?_
  refine lv_iconst (v := 0) hx hb dFB_measureDepths_10 (by decide) ?_
  obtain ⟨g1, eg1, h2, hf⟩ := wr_some hf
  refine ax_iast hx hb hK hP hD hS 1 0 rfl rfl h2 eg1 dFB_measureDepths_11 (ws' := (w_FB_measureDepths cI cZ cL cB q q_counts q_symbols q_weights q_groups q_nodeOf q_parents q_depths k_groupsLeft k_nodes g1 k_parents k_weights)) rfl (fun H locs hP hD hS => ?_)
  refine lv_aload_n hx hb dFB_measureDepths_12 rfl (lv_at hl 0 rfl) ?_
  refine va_get (D := (dC, dI)) (ci := 0) (v := .int k_nodes) (C := RFB) (T := TFB) (N := 9) hx hb hts hi_FB hown hK hP 0 rfl rfl 8 (by decide) (hts _ tw_102) (fun _ h9 => h9) rfl dFB_measureDepths_13 ?_
  refine lv_iconst (v := 2) hx hb dFB_measureDepths_16 (by decide) ?_
  refine lv_isub hx hb dFB_measureDepths_17 ?_
  refine lv_istore_n (lv' := [(1, .int (k_nodes - 2)), (0, .ref q)]) hx hb dFB_measureDepths_18 rfl hl (by decide) rfl (fun ls hl => ?_)
  refine Lp2_W (P := fun (x5 : Int32) (x6 : Nat → Int32) => ∀ (H : Heap) (locs : List Loc) (ls : Array Slot), va_P (dC, dI) vwCl (w_FB_measureDepths cI cZ cL cB q q_counts q_symbols q_weights q_groups q_nodeOf q_parents q_depths k_groupsLeft k_nodes x6 k_parents k_weights) H → va_D A (w_FB_measureDepths cI cZ cL cB q q_counts q_symbols q_weights q_groups q_nodeOf q_parents q_depths k_groupsLeft k_nodes x6 k_parents k_weights) → va_S A s.heap H locs → lv_has ls 2 [(0, .ref q), (1, .int x5)] → W p l e _ s m _ below meth c H locs 0 0 _ (F0 m 19 ls [])) ?_ _ _ _ hf _ _ _ hP hD hS (lv_sub hl [1, 0] rfl)
  clear hf hP hD hS hl
  intro ag3 ih4 x5 x6 hf H locs ls hP hD hS hl
  refine lv_iload_n hx hb dFB_measureDepths_19 rfl (lv_at hl 1 rfl) ?_
  refine lv_if_lt (tgt := 64) hx hb dFB_measureDepths_20 (by decide) (fun c_7 => ?_) (fun c_7 => ?_)
  · have hf := ifT hf c_7
    cases hf
    exact ax_vret hx hb hr hP hD hS dFB_measureDepths_64 hlocks
  · have hf := ifF hf c_7
    refine lv_iload_n hx hb dFB_measureDepths_23 rfl (lv_at hl 1 rfl) ?_
    refine lv_sipush (v := 257) hx hb dFB_measureDepths_24 (by decide) ?_
    refine lv_icmp_ge (tgt := 39) hx hb dFB_measureDepths_27 (by decide) (fun c_8 => ?_) (fun c_8 => ?_)
    · have hf := ifT hf c_8
      refine lv_aload_n hx hb dFB_measureDepths_39 rfl (lv_at hl 0 rfl) ?_
      refine va_get (D := (dC, dI)) (ci := 0) (v := .ref q_depths) (C := RFB) (T := TFB) (N := 9) hx hb hts hi_FB hown hK hP 0 rfl rfl 7 (by decide) (hts _ tw_101) (fun _ h9 => h9) rfl dFB_measureDepths_40 ?_
      refine lv_iload_n hx hb dFB_measureDepths_43 rfl (lv_at hl 1 rfl) ?_
      refine lv_aload_n hx hb dFB_measureDepths_44 rfl (lv_at hl 0 rfl) ?_
      refine va_get (D := (dC, dI)) (ci := 0) (v := .ref q_depths) (C := RFB) (T := TFB) (N := 9) hx hb hts hi_FB hown hK hP 0 rfl rfl 7 (by decide) (hts _ tw_101) (fun _ h9 => h9) rfl dFB_measureDepths_45 ?_
      refine lv_aload_n hx hb dFB_measureDepths_48 rfl (lv_at hl 0 rfl) ?_
      refine va_get (D := (dC, dI)) (ci := 0) (v := .ref q_parents) (C := RFB) (T := TFB) (N := 9) hx hb hts hi_FB hown hK hP 0 rfl rfl 6 (by decide) (hts _ tw_100) (fun _ h9 => h9) rfl dFB_measureDepths_49 ?_
      refine lv_iload_n hx hb dFB_measureDepths_52 rfl (lv_at hl 1 rfl) ?_
      obtain ⟨v9, ev9, h10, hf⟩ := rd_some hf
      refine ax_iald hx hb hK hP 2 0 rfl rfl h10 ev9 dFB_measureDepths_53 ?_
      obtain ⟨v11, ev11, h12, hf⟩ := rd_some hf
      refine ax_iald hx hb hK hP 1 0 rfl rfl h12 ev11 dFB_measureDepths_54 ?_
      refine lv_iconst (v := 1) hx hb dFB_measureDepths_55 (by decide) ?_
      refine lv_iadd hx hb dFB_measureDepths_56 ?_
      obtain ⟨g13, eg13, h14, hf⟩ := wr_some hf
      refine ax_iast hx hb hK hP hD hS 1 0 rfl rfl h14 eg13 dFB_measureDepths_57 (ws' := (w_FB_measureDepths cI cZ cL cB q q_counts q_symbols q_weights q_groups q_nodeOf q_parents q_depths k_groupsLeft k_nodes g13 k_parents k_weights)) rfl (fun H locs hP hD hS => ?_)
      refine lv_iinc (v := (x5 + (-1))) (lv' := [(1, .int (x5 + (-1))), (0, .ref q)]) hx hb dFB_measureDepths_58 hl (k := 1) rfl rfl (by decide) rfl (fun ls hl => ?_)
      refine lv_goto (tgt := 19) hx hb dFB_measureDepths_61 (by decide) ?_
      exact ih4 (x5 + (-1)) g13 hf _ _ _ hP hD hS (lv_sub hl [1, 0] rfl)
    · have hf := ifF hf c_8
      refine lv_aload_n hx hb dFB_measureDepths_30 rfl (lv_at hl 0 rfl) ?_
      refine va_get (D := (dC, dI)) (ci := 0) (v := .ref q_weights) (C := RFB) (T := TFB) (N := 9) hx hb hts hi_FB hown hK hP 0 rfl rfl 2 (by decide) (hts _ tw_96) (fun _ h9 => h9) rfl dFB_measureDepths_31 ?_
      refine lv_iload_n hx hb dFB_measureDepths_34 rfl (lv_at hl 1 rfl) ?_
      obtain ⟨v15, ev15, h16, hf⟩ := rd_some hf
      refine ax_iald hx hb hK hP 3 0 rfl rfl h16 ev15 dFB_measureDepths_35 ?_
      refine lv_if_le (tgt := 58) hx hb dFB_measureDepths_36 (by decide) (fun c_17 => ?_) (fun c_17 => ?_)
      · have hf := ifT hf c_17
        refine lv_iinc (v := (x5 + (-1))) (lv' := [(1, .int (x5 + (-1))), (0, .ref q)]) hx hb dFB_measureDepths_58 hl (k := 1) rfl rfl (by decide) rfl (fun ls hl => ?_)
        refine lv_goto (tgt := 19) hx hb dFB_measureDepths_61 (by decide) ?_
        exact ih4 (x5 + (-1)) x6 hf _ _ _ hP hD hS (lv_sub hl [1, 0] rfl)
      · have hf := ifF hf c_17
        refine lv_aload_n hx hb dFB_measureDepths_39 rfl (lv_at hl 0 rfl) ?_
        refine va_get (D := (dC, dI)) (ci := 0) (v := .ref q_depths) (C := RFB) (T := TFB) (N := 9) hx hb hts hi_FB hown hK hP 0 rfl rfl 7 (by decide) (hts _ tw_101) (fun _ h9 => h9) rfl dFB_measureDepths_40 ?_
        refine lv_iload_n hx hb dFB_measureDepths_43 rfl (lv_at hl 1 rfl) ?_
        refine lv_aload_n hx hb dFB_measureDepths_44 rfl (lv_at hl 0 rfl) ?_
        refine va_get (D := (dC, dI)) (ci := 0) (v := .ref q_depths) (C := RFB) (T := TFB) (N := 9) hx hb hts hi_FB hown hK hP 0 rfl rfl 7 (by decide) (hts _ tw_101) (fun _ h9 => h9) rfl dFB_measureDepths_45 ?_
        refine lv_aload_n hx hb dFB_measureDepths_48 rfl (lv_at hl 0 rfl) ?_
        refine va_get (D := (dC, dI)) (ci := 0) (v := .ref q_parents) (C := RFB) (T := TFB) (N := 9) hx hb hts hi_FB hown hK hP 0 rfl rfl 6 (by decide) (hts _ tw_100) (fun _ h9 => h9) rfl dFB_measureDepths_49 ?_
        refine lv_iload_n hx hb dFB_measureDepths_52 rfl (lv_at hl 1 rfl) ?_
        obtain ⟨v18, ev18, h19, hf⟩ := rd_some hf
        refine ax_iald hx hb hK hP 2 0 rfl rfl h19 ev18 dFB_measureDepths_53 ?_
        obtain ⟨v20, ev20, h21, hf⟩ := rd_some hf
        refine ax_iald hx hb hK hP 1 0 rfl rfl h21 ev20 dFB_measureDepths_54 ?_
        refine lv_iconst (v := 1) hx hb dFB_measureDepths_55 (by decide) ?_
        refine lv_iadd hx hb dFB_measureDepths_56 ?_
        obtain ⟨g22, eg22, h23, hf⟩ := wr_some hf
        refine ax_iast hx hb hK hP hD hS 1 0 rfl rfl h23 eg22 dFB_measureDepths_57 (ws' := (w_FB_measureDepths cI cZ cL cB q q_counts q_symbols q_weights q_groups q_nodeOf q_parents q_depths k_groupsLeft k_nodes g22 k_parents k_weights)) rfl (fun H locs hP hD hS => ?_)
        refine lv_iinc (v := (x5 + (-1))) (lv' := [(1, .int (x5 + (-1))), (0, .ref q)]) hx hb dFB_measureDepths_58 hl (k := 1) rfl rfl (by decide) rfl (fun ls hl => ?_)
        refine lv_goto (tgt := 19) hx hb dFB_measureDepths_61 (by decide) ?_
        exact ih4 (x5 + (-1)) g22 hf _ _ _ hP hD hS (lv_sub hl [1, 0] rfl)
abbrev wsFB_countLengths : List Cond := Cond.code yFB_countLengths cFB_countLengths 2 none :: tt
set_option maxHeartbeats 4000000 in
set_option maxRecDepth 100000 in
theorem cc_FB_countLengths (l : Launch) (dC : Nat → ClassId) (dI : Nat → Nat → Nat) (cI cZ cL cB : ClassId) (q q_counts q_symbols q_weights q_groups q_nodeOf q_parents q_depths : Nat) (sz : Nat) (k_groupsLeft : Int32) (k_nodes : Int32) (k_depths : Nat → Int32) (k_counts : Nat → Int32) (o_counts : Nat → Int32) (hf : f_FB_countLengths k_groupsLeft k_nodes k_depths k_counts = some o_counts) : Met l yFB_countLengths wsFB_countLengths ({ frames := 0, cells := 0, slots := 0, locals := 0 }) (va_Pc [.ref q] (kz_P dC dI cI cZ cL cB sz (w_FB_countLengths cI cZ cL cB q q_counts q_symbols q_weights q_groups q_nodeOf q_parents q_depths k_groupsLeft k_nodes k_depths k_counts))) (va_Qv (fun (_ : Unit) => True) (fun _ t => va_P (dC, dI) vwCl (w_FB_countLengths cI cZ cL cB q q_counts q_symbols q_weights q_groups q_nodeOf q_parents q_depths k_groupsLeft k_nodes k_depths o_counts) t.heap ∧ va_D (va_A (w_FB_countLengths cI cZ cL cB q q_counts q_symbols q_weights q_groups q_nodeOf q_parents q_depths k_groupsLeft k_nodes k_depths k_counts) sz) (w_FB_countLengths cI cZ cL cB q q_counts q_symbols q_weights q_groups q_nodeOf q_parents q_depths k_groupsLeft k_nodes k_depths o_counts)) (va_A (w_FB_countLengths cI cZ cL cB q q_counts q_symbols q_weights q_groups q_nodeOf q_parents q_depths k_groupsLeft k_nodes k_depths k_counts) sz)) 0 0 (va_A (w_FB_countLengths cI cZ cL cB q q_counts q_symbols q_weights q_groups q_nodeOf q_parents q_depths k_groupsLeft k_nodes k_depths k_counts) sz) := by
  refine Met.ofW (cc := cFB_countLengths) (maxL := 2) (ret := none) (by decide) rfl ?_
  intro p e s m args below meth c s₁ B hml hv
  obtain ⟨rfl, hsz, hP, hZ, hD0⟩ := hv
  have hK := hZ.1
  have hx := B.exec
  have hb := B.bytes
  have hr := B.returns
  have hts : ∀ w ∈ tt, w.before _ s = true := fun w h => atoms_spec (ws := wsFB_countLengths) B.pre w (List.mem_cons_of_mem _ h)
  have hown : s.vm.findClass RFB = some m.cls := findClass_of_methodNamed B.named
  have hlocks := B.notSynchronized
  subst hsz
  have hD := hD0.self (sz := s.heap.size)
  generalize hAe : va_A (w_FB_countLengths cI cZ cL cB q q_counts q_symbols q_weights q_groups q_nodeOf q_parents q_depths k_groupsLeft k_nodes k_depths k_counts) s.heap.size = A at hD ⊢
  have hA : ∀ q : Nat, s.heap.size ≤ q → A q := fun q h => by rw [← hAe]; exact Or.inr h
  have hS : va_S A s.heap s.heap [] := va_S.rf
  have hl := lv_entry [.ref q] (n := 2) (Nat.le_of_ble_eq_true rfl)
  rw [lg_entry_eq]
  generalize (lg_sl [.ref q] ++ List.replicate (2 - (lg_sl [.ref q]).length) Slot.unset).toArray = ls at hl ⊢
  have hl : lv_has ls 2 [(0, .ref q)] := hl
  unfold f_FB_countLengths at hf
  refine lv_iconst (v := 0) hx hb dFB_countLengths_0 (by decide) ?_
  refine lv_istore_n (lv' := [(1, .int 0), (0, .ref q)]) hx hb dFB_countLengths_1 rfl hl (by decide) rfl (fun ls hl => ?_)
  refine Lp2_W (P := fun (x3 : Int32) (x4 : Nat → Int32) => ∀ (H : Heap) (locs : List Loc) (ls : Array Slot), va_P (dC, dI) vwCl (w_FB_countLengths cI cZ cL cB q q_counts q_symbols q_weights q_groups q_nodeOf q_parents q_depths k_groupsLeft k_nodes k_depths x4) H → va_D A (w_FB_countLengths cI cZ cL cB q q_counts q_symbols q_weights q_groups q_nodeOf q_parents q_depths k_groupsLeft k_nodes k_depths x4) → va_S A s.heap H locs → lv_has ls 2 [(0, .ref q), (1, .int x3)] → W p l e _ s m _ below meth c H locs 0 0 _ (F0 m 2 ls [])) ?_ _ _ _ hf _ _ _ hP hD hS (lv_sub hl [1, 0] rfl)
  clear hf hP hD hS hl
  intro ag1 ih2 x3 x4 hf H locs ls hP hD hS hl
  refine lv_iload_n hx hb dFB_countLengths_2 rfl (lv_at hl 1 rfl) ?_
  refine lv_sipush (v := 257) hx hb dFB_countLengths_3 (by decide) ?_
  refine lv_icmp_ge (tgt := 39) hx hb dFB_countLengths_6 (by decide) (fun c_5 => ?_) (fun c_5 => ?_)
  · have hf := ifT hf c_5
    cases hf
    exact ax_vret hx hb hr hP hD hS dFB_countLengths_39 hlocks
  · have hf := ifF hf c_5
    refine lv_aload_n hx hb dFB_countLengths_9 rfl (lv_at hl 0 rfl) ?_
    refine va_get (D := (dC, dI)) (ci := 0) (v := .ref q_depths) (C := RFB) (T := TFB) (N := 9) hx hb hts hi_FB hown hK hP 0 rfl rfl 7 (by decide) (hts _ tw_101) (fun _ h9 => h9) rfl dFB_countLengths_10 ?_
    refine lv_iload_n hx hb dFB_countLengths_13 rfl (lv_at hl 1 rfl) ?_
    obtain ⟨v6, ev6, h7, hf⟩ := rd_some hf
    refine ax_iald hx hb hK hP 1 0 rfl rfl h7 ev6 dFB_countLengths_14 ?_
    refine lv_if_le (tgt := 33) hx hb dFB_countLengths_15 (by decide) (fun c_8 => ?_) (fun c_8 => ?_)
    · have hf := ifT hf c_8
      refine lv_iinc (v := (x3 + 1)) (lv' := [(1, .int (x3 + 1)), (0, .ref q)]) hx hb dFB_countLengths_33 hl (k := 1) rfl rfl (by decide) rfl (fun ls hl => ?_)
      refine lv_goto (tgt := 2) hx hb dFB_countLengths_36 (by decide) ?_
      exact ih2 (x3 + 1) x4 hf _ _ _ hP hD hS (lv_sub hl [1, 0] rfl)
    · have hf := ifF hf c_8
      refine lv_aload_n hx hb dFB_countLengths_18 rfl (lv_at hl 0 rfl) ?_
      refine va_get (D := (dC, dI)) (ci := 0) (v := .ref q_counts) (C := RFB) (T := TFB) (N := 9) hx hb hts hi_FB hown hK hP 0 rfl rfl 0 (by decide) (hts _ tw_92) (fun _ h9 => h9) rfl dFB_countLengths_19 ?_
      refine lv_aload_n hx hb dFB_countLengths_22 rfl (lv_at hl 0 rfl) ?_
      refine va_get (D := (dC, dI)) (ci := 0) (v := .ref q_depths) (C := RFB) (T := TFB) (N := 9) hx hb hts hi_FB hown hK hP 0 rfl rfl 7 (by decide) (hts _ tw_101) (fun _ h9 => h9) rfl dFB_countLengths_23 ?_
      refine lv_iload_n hx hb dFB_countLengths_26 rfl (lv_at hl 1 rfl) ?_
      obtain ⟨v9, ev9, h10, hf⟩ := rd_some hf
      refine ax_iald hx hb hK hP 1 0 rfl rfl h10 ev9 dFB_countLengths_27 ?_
      refine lv_dup2_11 hx hb dFB_countLengths_28 rfl rfl ?_
      obtain ⟨v11, ev11, h12, hf⟩ := rd_some hf
      refine ax_iald hx hb hK hP 2 0 rfl rfl h12 ev11 dFB_countLengths_29 ?_
      refine lv_iconst (v := 1) hx hb dFB_countLengths_30 (by decide) ?_
      refine lv_iadd hx hb dFB_countLengths_31 ?_
      obtain ⟨g13, eg13, h14, hf⟩ := wr_some hf
      refine ax_iast hx hb hK hP hD hS 2 0 rfl rfl h14 eg13 dFB_countLengths_32 (ws' := (w_FB_countLengths cI cZ cL cB q q_counts q_symbols q_weights q_groups q_nodeOf q_parents q_depths k_groupsLeft k_nodes k_depths g13)) rfl (fun H locs hP hD hS => ?_)
      refine lv_iinc (v := (x3 + 1)) (lv' := [(1, .int (x3 + 1)), (0, .ref q)]) hx hb dFB_countLengths_33 hl (k := 1) rfl rfl (by decide) rfl (fun ls hl => ?_)
      refine lv_goto (tgt := 2) hx hb dFB_countLengths_36 (by decide) ?_
      exact ih2 (x3 + 1) g13 hf _ _ _ hP hD hS (lv_sub hl [1, 0] rfl)
abbrev wsFF_greatestLength : List Cond := Cond.code yFF_greatestLength cFF_greatestLength 3 (some .int) :: tt
set_option maxHeartbeats 4000000 in
set_option maxRecDepth 100000 in
theorem cc_FF_greatestLength (l : Launch) (dC : Nat → ClassId) (dI : Nat → Nat → Nat) (cI cZ cL cB : ClassId) (q_p0 : Nat) (sz : Nat) (n_p0 : Nat) (k_p0 : Nat → Int32) (a_1 : Int32) (r : Int32) (hf : f_FF_greatestLength n_p0 k_p0 a_1 = some r) : Met l yFF_greatestLength wsFF_greatestLength ({ frames := 1, cells := 0, slots := 0, locals := 21 }) (va_Pc [.ref q_p0, .int a_1] (kz_P dC dI cI cZ cL cB sz (w_FF_greatestLength cI cZ cL cB q_p0 n_p0 k_p0))) (va_Qi (fun (r' : Int32) (_ : Unit) => r' = r) (fun _ t => va_P (dC, dI) vwCl (w_FF_greatestLength cI cZ cL cB q_p0 n_p0 k_p0) t.heap ∧ va_D (va_A (w_FF_greatestLength cI cZ cL cB q_p0 n_p0 k_p0) sz) (w_FF_greatestLength cI cZ cL cB q_p0 n_p0 k_p0)) (va_A (w_FF_greatestLength cI cZ cL cB q_p0 n_p0 k_p0) sz)) 0 0 (va_A (w_FF_greatestLength cI cZ cL cB q_p0 n_p0 k_p0) sz) := by
  refine Met.ofW (cc := cFF_greatestLength) (maxL := 3) (ret := (some .int)) (by decide) rfl ?_
  intro p e s m args below meth c s₁ B hml hv
  obtain ⟨rfl, hsz, hP, hZ, hD0⟩ := hv
  have hK := hZ.1
  have hx := B.exec
  have hb := B.bytes
  have hr := B.returns
  have hts : ∀ w ∈ tt, w.before _ s = true := fun w h => atoms_spec (ws := wsFF_greatestLength) B.pre w (List.mem_cons_of_mem _ h)
  have hown : s.vm.findClass RFF = some m.cls := findClass_of_methodNamed B.named
  have hlocks := B.notSynchronized
  subst hsz
  have hD := hD0.self (sz := s.heap.size)
  generalize hAe : va_A (w_FF_greatestLength cI cZ cL cB q_p0 n_p0 k_p0) s.heap.size = A at hD ⊢
  have hA : ∀ q : Nat, s.heap.size ≤ q → A q := fun q h => by rw [← hAe]; exact Or.inr h
  have hS : va_S A s.heap s.heap [] := va_S.rf
  have hl := lv_entry [.ref q_p0, .int a_1] (n := 3) (Nat.le_of_ble_eq_true rfl)
  rw [lg_entry_eq]
  generalize (lg_sl [.ref q_p0, .int a_1] ++ List.replicate (3 - (lg_sl [.ref q_p0, .int a_1]).length) Slot.unset).toArray = ls at hl ⊢
  have hl : lv_has ls 3 [(0, .ref q_p0), (1, .int a_1)] := hl
  unfold f_FF_greatestLength at hf
  refine lv_iload_n hx hb dFF_greatestLength_0 rfl (lv_at hl 1 rfl) ?_
  refine lv_aload_n hx hb dFF_greatestLength_1 rfl (lv_at hl 0 rfl) ?_
  refine va_alen (v := (Int32.ofNat n_p0)) hx hb hK hP 0 0 rfl rfl rfl dFF_greatestLength_2 ?_
  refine lv_iconst (v := 1) hx hb dFF_greatestLength_3 (by decide) ?_
  refine lv_isub hx hb dFF_greatestLength_4 ?_
  refine va_mmin hx hb (hml.trans hl.1.symm) hown (hts _ tw_226) (hts _ tw_227) (hts _ tw_29) (hts _ tw_228) (Nat.le_of_ble_eq_true rfl) (Nat.le_of_ble_eq_true rfl) (Nat.zero_le _) (Nat.zero_le _) dFF_greatestLength_5 ?_
  refine lv_istore_n (lv' := [(2, .int (if ((Int32.ofNat n_p0) - 1) < a_1 then ((Int32.ofNat n_p0) - 1) else a_1)), (0, .ref q_p0), (1, .int a_1)]) hx hb dFF_greatestLength_8 rfl hl (by decide) rfl (fun ls hl => ?_)
  refine Lp1_W (P := fun (x3 : Int32) => ∀ (H : Heap) (locs : List Loc) (ls : Array Slot), va_P (dC, dI) vwCl (w_FF_greatestLength cI cZ cL cB q_p0 n_p0 k_p0) H → va_D A (w_FF_greatestLength cI cZ cL cB q_p0 n_p0 k_p0) → va_S A s.heap H locs → lv_has ls 3 [(0, .ref q_p0), (1, .int a_1), (2, .int x3)] → W p l e _ s m _ below meth c H locs 0 0 _ (F0 m 9 ls [])) ?_ _ _ hf _ _ _ hP hD hS (lv_sub hl [1, 2, 0] rfl)
  clear hf hP hD hS hl
  intro ag1 ih2 x3 hf H locs ls hP hD hS hl
  refine lv_iload_n hx hb dFF_greatestLength_9 rfl (lv_at hl 2 rfl) ?_
  refine lv_if_le (tgt := 27) hx hb dFF_greatestLength_10 (by decide) (fun c_4 => ?_) (fun c_4 => ?_)
  · have hf := ifT hf c_4
    refine lv_iconst (v := 0) hx hb dFF_greatestLength_27 (by decide) ?_
    cases hf
    exact ax_iret hx hb hr hP hD hS dFF_greatestLength_28 hlocks
  · have hf := ifF hf c_4
    refine lv_aload_n hx hb dFF_greatestLength_13 rfl (lv_at hl 0 rfl) ?_
    refine lv_iload_n hx hb dFF_greatestLength_14 rfl (lv_at hl 2 rfl) ?_
    obtain ⟨v5, ev5, h6, hf⟩ := rd_some hf
    refine ax_iald hx hb hK hP 0 0 rfl rfl h6 ev5 dFF_greatestLength_15 ?_
    refine lv_if_le (tgt := 21) hx hb dFF_greatestLength_16 (by decide) (fun c_7 => ?_) (fun c_7 => ?_)
    · have hf := ifT hf c_7
      refine lv_iinc (v := (x3 + (-1))) (lv' := [(2, .int (x3 + (-1))), (0, .ref q_p0), (1, .int a_1)]) hx hb dFF_greatestLength_21 hl (k := 2) rfl rfl (by decide) rfl (fun ls hl => ?_)
      refine lv_goto (tgt := 9) hx hb dFF_greatestLength_24 (by decide) ?_
      exact ih2 (x3 + (-1)) hf _ _ _ hP hD hS (lv_sub hl [1, 2, 0] rfl)
    · have hf := ifF hf c_7
      refine lv_iload_n hx hb dFF_greatestLength_19 rfl (lv_at hl 2 rfl) ?_
      cases hf
      exact ax_iret hx hb hr hP hD hS dFF_greatestLength_20 hlocks
abbrev wsFB_orderSymbols : List Cond := Cond.code yFB_orderSymbols cFB_orderSymbols 5 none :: tt
set_option maxHeartbeats 4000000 in
set_option maxRecDepth 100000 in
theorem cc_FB_orderSymbols (l : Launch) (dC : Nat → ClassId) (dI : Nat → Nat → Nat) (cI cZ cL cB : ClassId) (q q_counts q_symbols q_weights q_groups q_nodeOf q_parents q_depths : Nat) (sz : Nat) (k_groupsLeft : Int32) (k_nodes : Int32) (k_counts : Nat → Int32) (k_depths : Nat → Int32) (k_symbols : Nat → Int32) (o_symbols : Nat → Int32) (hf : f_FB_orderSymbols k_groupsLeft k_nodes k_counts k_depths k_symbols = some o_symbols) : Met l yFB_orderSymbols wsFB_orderSymbols ({ frames := 2, cells := 0, slots := 0, locals := 43 }) (va_Pc [.ref q] (kz_P dC dI cI cZ cL cB sz (w_FB_orderSymbols cI cZ cL cB q q_counts q_symbols q_weights q_groups q_nodeOf q_parents q_depths k_groupsLeft k_nodes k_counts k_depths k_symbols))) (va_Qv (fun (_ : Unit) => True) (fun _ t => va_P (dC, dI) vwCl (w_FB_orderSymbols cI cZ cL cB q q_counts q_symbols q_weights q_groups q_nodeOf q_parents q_depths k_groupsLeft k_nodes k_counts k_depths o_symbols) t.heap ∧ va_D (va_A (w_FB_orderSymbols cI cZ cL cB q q_counts q_symbols q_weights q_groups q_nodeOf q_parents q_depths k_groupsLeft k_nodes k_counts k_depths k_symbols) sz) (w_FB_orderSymbols cI cZ cL cB q q_counts q_symbols q_weights q_groups q_nodeOf q_parents q_depths k_groupsLeft k_nodes k_counts k_depths o_symbols)) (va_A (w_FB_orderSymbols cI cZ cL cB q q_counts q_symbols q_weights q_groups q_nodeOf q_parents q_depths k_groupsLeft k_nodes k_counts k_depths k_symbols) sz)) 0 0 (va_A (w_FB_orderSymbols cI cZ cL cB q q_counts q_symbols q_weights q_groups q_nodeOf q_parents q_depths k_groupsLeft k_nodes k_counts k_depths k_symbols) sz) := by
  refine Met.ofW (cc := cFB_orderSymbols) (maxL := 5) (ret := none) (by decide) rfl ?_
  intro p e s m args below meth c s₁ B hml hv
  obtain ⟨rfl, hsz, hP, hZ, hD0⟩ := hv
  have hK := hZ.1
  have hx := B.exec
  have hb := B.bytes
  have hr := B.returns
  have hts : ∀ w ∈ tt, w.before _ s = true := fun w h => atoms_spec (ws := wsFB_orderSymbols) B.pre w (List.mem_cons_of_mem _ h)
  have hown : s.vm.findClass RFB = some m.cls := findClass_of_methodNamed B.named
  have hlocks := B.notSynchronized
  subst hsz
  have hD := hD0.self (sz := s.heap.size)
  generalize hAe : va_A (w_FB_orderSymbols cI cZ cL cB q q_counts q_symbols q_weights q_groups q_nodeOf q_parents q_depths k_groupsLeft k_nodes k_counts k_depths k_symbols) s.heap.size = A at hD ⊢
  have hA : ∀ q : Nat, s.heap.size ≤ q → A q := fun q h => by rw [← hAe]; exact Or.inr h
  have hS : va_S A s.heap s.heap [] := va_S.rf
  have hl := lv_entry [.ref q] (n := 5) (Nat.le_of_ble_eq_true rfl)
  rw [lg_entry_eq]
  generalize (lg_sl [.ref q] ++ List.replicate (5 - (lg_sl [.ref q]).length) Slot.unset).toArray = ls at hl ⊢
  have hl : lv_has ls 5 [(0, .ref q)] := hl
  unfold f_FB_orderSymbols at hf
  refine lv_iconst (v := 0) hx hb dFB_orderSymbols_0 (by decide) ?_
  refine lv_istore_n (lv' := [(1, .int 0), (0, .ref q)]) hx hb dFB_orderSymbols_1 rfl hl (by decide) rfl (fun ls hl => ?_)
  refine lv_aload_n hx hb dFB_orderSymbols_2 rfl (lv_at hl 1 rfl) ?_
  refine va_get (D := (dC, dI)) (ci := 0) (v := .ref q_counts) (C := RFB) (T := TFB) (N := 9) hx hb hts hi_FB hown hK hP 0 rfl rfl 0 (by decide) (hts _ tw_92) (fun _ h9 => h9) rfl dFB_orderSymbols_3 ?_
  refine lv_sipush (v := 256) hx hb dFB_orderSymbols_6 (by decide) ?_
  obtain ⟨r1, h2, hf⟩ := bd1_some hf
  have hPc := hP.sub (ws' := (w_FF_greatestLength cI cZ cL cB q_counts 257 k_counts)) [1] rfl
  have hDc := hD.sub (ws' := (w_FF_greatestLength cI cZ cL cB q_counts 257 k_counts)) [1] (by decide) rfl
  refine ax_calli (wr := [(q, .inr (0, [.ref q_counts, .ref q_symbols, .ref q_weights, .ref q_groups, .int k_groupsLeft, .ref q_nodeOf, .ref q_parents, .ref q_depths, .int k_nodes])), (q_depths, .inl (cI, 513, .inl k_depths)), (q_symbols, .inl (cI, 256, .inl k_symbols))]) (w2 := (w_FB_orderSymbols cI cZ cL cB q q_counts q_symbols q_weights q_groups q_nodeOf q_parents q_depths k_groupsLeft k_nodes k_counts k_depths k_symbols)) (va_runSN (As := [.ref q_counts, .int 256]) (rest := []) ⟨hx, hb, hml, hown, hts⟩ (cc_FF_greatestLength l dC dI cI cZ cL cB q_counts s.heap.size 257 k_counts 256 r1 h2) ⟨va_cnB 2 hts (tt_c tw_225) rfl rfl rfl (nz_5 hZ.2) (hts _ tw_21) (by decide +kernel) ⟨Nat.le_of_ble_eq_true rfl, Nat.le_of_ble_eq_true rfl⟩, hts _ tw_224, trivial⟩ ⟨kz_fb, kz_pre hPc hZ hDc⟩ rfl rfl hl.1 rfl (lv_room (Nat.le_of_ble_eq_true rfl)) dFB_orderSymbols_9 ⟨Nat.zero_le _, Nat.zero_le _⟩) hP hD hS hA [1] [0, 2, 3] [0, 3, 1, 2] rfl rfl (by decide) (by decide) rfl (by decide) (fun H locs hP hD hS => ?_)
  refine lv_istore_n (lv' := [(2, .int r1), (1, .int 0), (0, .ref q)]) hx hb dFB_orderSymbols_12 rfl hl (by decide) rfl (fun ls hl => ?_)
  refine lv_iconst (v := 1) hx hb dFB_orderSymbols_13 (by decide) ?_
  refine lv_istore_n (lv' := [(3, .int 1), (2, .int r1), (1, .int 0), (0, .ref q)]) hx hb dFB_orderSymbols_14 rfl hl (by decide) rfl (fun ls hl => ?_)
  refine Lp3_W (P := fun (x5 : Int32) (x6 : Int32) (x7 : Nat → Int32) => ∀ (H : Heap) (locs : List Loc) (ls : Array Slot), va_P (dC, dI) vwCl (w_FB_orderSymbols cI cZ cL cB q q_counts q_symbols q_weights q_groups q_nodeOf q_parents q_depths k_groupsLeft k_nodes k_counts k_depths x7) H → va_D A (w_FB_orderSymbols cI cZ cL cB q q_counts q_symbols q_weights q_groups q_nodeOf q_parents q_depths k_groupsLeft k_nodes k_counts k_depths x7) → va_S A s.heap H locs → lv_has ls 5 [(0, .ref q), (1, .int x5), (2, .int r1), (3, .int x6)] → W p l e _ s m _ below meth c H locs 0 0 _ (F0 m 15 ls [])) ?_ _ _ _ _ hf _ _ _ hP hD hS (lv_sub hl [3, 2, 1, 0] rfl)
  clear hf hP hD hS hl
  intro ag3 ih4 x5 x6 x7 hf H locs ls hP hD hS hl
  refine lv_iload_n hx hb dFB_orderSymbols_15 rfl (lv_at hl 3 rfl) ?_
  refine lv_iload_n hx hb dFB_orderSymbols_16 rfl (lv_at hl 2 rfl) ?_
  refine lv_icmp_gt (tgt := 65) hx hb dFB_orderSymbols_17 (by decide) (fun c_8 => ?_) (fun c_8 => ?_)
  · have hf := ifT hf c_8
    cases hf
    exact ax_vret hx hb hr hP hD hS dFB_orderSymbols_65 hlocks
  · have hf := ifF hf c_8
    refine lv_iconst (v := 0) hx hb dFB_orderSymbols_20 (by decide) ?_
    refine lv_istore (lv' := [(4, .int 0), (0, .ref q), (1, .int x5), (2, .int r1), (3, .int x6)]) hx hb dFB_orderSymbols_21 hl (by decide) rfl (fun ls hl => ?_)
    refine Lp3_W (P := fun (x11 : Int32) (x12 : Int32) (x13 : Nat → Int32) => ∀ (H : Heap) (locs : List Loc) (ls : Array Slot), va_P (dC, dI) vwCl (w_FB_orderSymbols cI cZ cL cB q q_counts q_symbols q_weights q_groups q_nodeOf q_parents q_depths k_groupsLeft k_nodes k_counts k_depths x13) H → va_D A (w_FB_orderSymbols cI cZ cL cB q q_counts q_symbols q_weights q_groups q_nodeOf q_parents q_depths k_groupsLeft k_nodes k_counts k_depths x13) → va_S A s.heap H locs → lv_has ls 5 [(0, .ref q), (1, .int x11), (2, .int r1), (3, .int x6), (4, .int x12)] → W p l e _ s m _ below meth c H locs 0 0 _ (F0 m 23 ls [])) ?_ _ _ _ _ hf _ _ _ hP hD hS (lv_sub hl [1, 2, 3, 4, 0] rfl)
    clear hf hP hD hS hl
    intro ag9 ih10 x11 x12 x13 hf H locs ls hP hD hS hl
    refine lv_iload hx hb dFB_orderSymbols_23 (lv_at hl 4 rfl) ?_
    refine lv_sipush (v := 256) hx hb dFB_orderSymbols_25 (by decide) ?_
    refine lv_icmp_ge (tgt := 59) hx hb dFB_orderSymbols_28 (by decide) (fun c_14 => ?_) (fun c_14 => ?_)
    · have hf := ifT hf c_14
      refine lv_iinc (v := (x6 + 1)) (lv' := [(3, .int (x6 + 1)), (0, .ref q), (1, .int x11), (2, .int r1), (4, .int x12)]) hx hb dFB_orderSymbols_59 hl (k := 3) rfl rfl (by decide) rfl (fun ls hl => ?_)
      refine lv_goto (tgt := 15) hx hb dFB_orderSymbols_62 (by decide) ?_
      exact ih4 x11 (x6 + 1) x13 hf _ _ _ hP hD hS (lv_sub hl [1, 2, 3, 0] rfl)
    · have hf := ifF hf c_14
      refine lv_aload_n hx hb dFB_orderSymbols_31 rfl (lv_at hl 0 rfl) ?_
      refine va_get (D := (dC, dI)) (ci := 0) (v := .ref q_depths) (C := RFB) (T := TFB) (N := 9) hx hb hts hi_FB hown hK hP 0 rfl rfl 7 (by decide) (hts _ tw_101) (fun _ h9 => h9) rfl dFB_orderSymbols_32 ?_
      refine lv_iload hx hb dFB_orderSymbols_35 (lv_at hl 4 rfl) ?_
      obtain ⟨v15, ev15, h16, hf⟩ := rd_some hf
      refine ax_iald hx hb hK hP 2 0 rfl rfl h16 ev15 dFB_orderSymbols_37 ?_
      refine lv_iload_n hx hb dFB_orderSymbols_38 rfl (lv_at hl 3 rfl) ?_
      refine lv_icmp_ne (tgt := 53) hx hb dFB_orderSymbols_39 (by decide) (fun c_17 => ?_) (fun c_17 => ?_)
      · have hf := ifF hf c_17
        refine lv_iinc (v := (x12 + 1)) (lv' := [(4, .int (x12 + 1)), (0, .ref q), (1, .int x11), (2, .int r1), (3, .int x6)]) hx hb dFB_orderSymbols_53 hl (k := 4) rfl rfl (by decide) rfl (fun ls hl => ?_)
        refine lv_goto (tgt := 23) hx hb dFB_orderSymbols_56 (by decide) ?_
        exact ih10 x11 (x12 + 1) x13 hf _ _ _ hP hD hS (lv_sub hl [1, 2, 3, 4, 0] rfl)
      · have hf := ifT hf c_17
        refine lv_aload_n hx hb dFB_orderSymbols_42 rfl (lv_at hl 0 rfl) ?_
        refine va_get (D := (dC, dI)) (ci := 0) (v := .ref q_symbols) (C := RFB) (T := TFB) (N := 9) hx hb hts hi_FB hown hK hP 0 rfl rfl 1 (by decide) (hts _ tw_94) (fun _ h9 => h9) rfl dFB_orderSymbols_43 ?_
        refine lv_iload_n hx hb dFB_orderSymbols_46 rfl (lv_at hl 1 rfl) ?_
        refine lv_iload hx hb dFB_orderSymbols_47 (lv_at hl 4 rfl) ?_
        obtain ⟨g18, eg18, h19, hf⟩ := wr_some hf
        refine ax_iast hx hb hK hP hD hS 3 0 rfl rfl h19 eg18 dFB_orderSymbols_49 (ws' := (w_FB_orderSymbols cI cZ cL cB q q_counts q_symbols q_weights q_groups q_nodeOf q_parents q_depths k_groupsLeft k_nodes k_counts k_depths g18)) rfl (fun H locs hP hD hS => ?_)
        refine lv_iinc (v := (x11 + 1)) (lv' := [(1, .int (x11 + 1)), (0, .ref q), (2, .int r1), (3, .int x6), (4, .int x12)]) hx hb dFB_orderSymbols_50 hl (k := 1) rfl rfl (by decide) rfl (fun ls hl => ?_)
        refine lv_iinc (v := (x12 + 1)) (lv' := [(4, .int (x12 + 1)), (1, .int (x11 + 1)), (0, .ref q), (2, .int r1), (3, .int x6)]) hx hb dFB_orderSymbols_53 hl (k := 4) rfl rfl (by decide) rfl (fun ls hl => ?_)
        refine lv_goto (tgt := 23) hx hb dFB_orderSymbols_56 (by decide) ?_
        exact ih10 (x11 + 1) (x12 + 1) g18 hf _ _ _ hP hD hS (lv_sub hl [2, 1, 3, 4, 0] rfl)
abbrev wsFB_shortenLengths : List Cond := Cond.code yFB_shortenLengths cFB_shortenLengths 4 none :: tt
set_option maxHeartbeats 4000000 in
set_option maxRecDepth 100000 in
theorem cc_FB_shortenLengths (l : Launch) (dC : Nat → ClassId) (dI : Nat → Nat → Nat) (cI cZ cL cB : ClassId) (q q_counts q_symbols q_weights q_groups q_nodeOf q_parents q_depths : Nat) (sz : Nat) (k_groupsLeft : Int32) (k_nodes : Int32) (k_counts : Nat → Int32) (o_counts : Nat → Int32) (hf : f_FB_shortenLengths k_groupsLeft k_nodes k_counts = some o_counts) : Met l yFB_shortenLengths wsFB_shortenLengths ({ frames := 2, cells := 0, slots := 0, locals := 43 }) (va_Pc [.ref q] (kz_P dC dI cI cZ cL cB sz (w_FB_shortenLengths cI cZ cL cB q q_counts q_symbols q_weights q_groups q_nodeOf q_parents q_depths k_groupsLeft k_nodes k_counts))) (va_Qv (fun (_ : Unit) => True) (fun _ t => va_P (dC, dI) vwCl (w_FB_shortenLengths cI cZ cL cB q q_counts q_symbols q_weights q_groups q_nodeOf q_parents q_depths k_groupsLeft k_nodes o_counts) t.heap ∧ va_D (va_A (w_FB_shortenLengths cI cZ cL cB q q_counts q_symbols q_weights q_groups q_nodeOf q_parents q_depths k_groupsLeft k_nodes k_counts) sz) (w_FB_shortenLengths cI cZ cL cB q q_counts q_symbols q_weights q_groups q_nodeOf q_parents q_depths k_groupsLeft k_nodes o_counts)) (va_A (w_FB_shortenLengths cI cZ cL cB q q_counts q_symbols q_weights q_groups q_nodeOf q_parents q_depths k_groupsLeft k_nodes k_counts) sz)) 0 0 (va_A (w_FB_shortenLengths cI cZ cL cB q q_counts q_symbols q_weights q_groups q_nodeOf q_parents q_depths k_groupsLeft k_nodes k_counts) sz) := by
  refine Met.ofW (cc := cFB_shortenLengths) (maxL := 4) (ret := none) (by decide) rfl ?_
  intro p e s m args below meth c s₁ B hml hv
  obtain ⟨rfl, hsz, hP, hZ, hD0⟩ := hv
  have hK := hZ.1
  have hx := B.exec
  have hb := B.bytes
  have hr := B.returns
  have hts : ∀ w ∈ tt, w.before _ s = true := fun w h => atoms_spec (ws := wsFB_shortenLengths) B.pre w (List.mem_cons_of_mem _ h)
  have hown : s.vm.findClass RFB = some m.cls := findClass_of_methodNamed B.named
  have hlocks := B.notSynchronized
  subst hsz
  have hD := hD0.self (sz := s.heap.size)
  generalize hAe : va_A (w_FB_shortenLengths cI cZ cL cB q q_counts q_symbols q_weights q_groups q_nodeOf q_parents q_depths k_groupsLeft k_nodes k_counts) s.heap.size = A at hD ⊢
  have hA : ∀ q : Nat, s.heap.size ≤ q → A q := fun q h => by rw [← hAe]; exact Or.inr h
  have hS : va_S A s.heap s.heap [] := va_S.rf
  have hl := lv_entry [.ref q] (n := 4) (Nat.le_of_ble_eq_true rfl)
  rw [lg_entry_eq]
  generalize (lg_sl [.ref q] ++ List.replicate (4 - (lg_sl [.ref q]).length) Slot.unset).toArray = ls at hl ⊢
  have hl : lv_has ls 4 [(0, .ref q)] := hl
  unfold f_FB_shortenLengths at hf
  refine lv_aload_n hx hb dFB_shortenLengths_0 rfl (lv_at hl 0 rfl) ?_
  refine va_get (D := (dC, dI)) (ci := 0) (v := .ref q_counts) (C := RFB) (T := TFB) (N := 9) hx hb hts hi_FB hown hK hP 0 rfl rfl 0 (by decide) (hts _ tw_92) (fun _ h9 => h9) rfl dFB_shortenLengths_1 ?_
  refine lv_sipush (v := 256) hx hb dFB_shortenLengths_4 (by decide) ?_
  obtain ⟨r1, h2, hf⟩ := bd1_some hf
  have hPc := hP.sub (ws' := (w_FF_greatestLength cI cZ cL cB q_counts 257 k_counts)) [1] rfl
  have hDc := hD.sub (ws' := (w_FF_greatestLength cI cZ cL cB q_counts 257 k_counts)) [1] (by decide) rfl
  refine ax_calli (wr := [(q, .inr (0, [.ref q_counts, .ref q_symbols, .ref q_weights, .ref q_groups, .int k_groupsLeft, .ref q_nodeOf, .ref q_parents, .ref q_depths, .int k_nodes]))]) (w2 := (w_FB_shortenLengths cI cZ cL cB q q_counts q_symbols q_weights q_groups q_nodeOf q_parents q_depths k_groupsLeft k_nodes k_counts)) (va_runSN (As := [.ref q_counts, .int 256]) (rest := []) ⟨hx, hb, hml, hown, hts⟩ (cc_FF_greatestLength l dC dI cI cZ cL cB q_counts s.heap.size 257 k_counts 256 r1 h2) ⟨va_cnB 2 hts (tt_c tw_225) rfl rfl rfl (nz_5 hZ.2) (hts _ tw_21) (by decide +kernel) ⟨Nat.le_of_ble_eq_true rfl, Nat.le_of_ble_eq_true rfl⟩, hts _ tw_224, trivial⟩ ⟨kz_fb, kz_pre hPc hZ hDc⟩ rfl rfl hl.1 rfl (lv_room (Nat.le_of_ble_eq_true rfl)) dFB_shortenLengths_7 ⟨Nat.zero_le _, Nat.zero_le _⟩) hP hD hS hA [1] [0] [0, 1] rfl rfl (by decide) (by decide) rfl (by decide) (fun H locs hP hD hS => ?_)
  refine lv_istore_n (lv' := [(1, .int r1), (0, .ref q)]) hx hb dFB_shortenLengths_10 rfl hl (by decide) rfl (fun ls hl => ?_)
  refine Lp2_W (P := fun (x5 : Int32) (x6 : Nat → Int32) => ∀ (H : Heap) (locs : List Loc) (ls : Array Slot), va_P (dC, dI) vwCl (w_FB_shortenLengths cI cZ cL cB q q_counts q_symbols q_weights q_groups q_nodeOf q_parents q_depths k_groupsLeft k_nodes x6) H → va_D A (w_FB_shortenLengths cI cZ cL cB q q_counts q_symbols q_weights q_groups q_nodeOf q_parents q_depths k_groupsLeft k_nodes x6) → va_S A s.heap H locs → lv_has ls 4 [(0, .ref q), (1, .int x5)] → W p l e _ s m _ below meth c H locs 0 0 _ (F0 m 11 ls [])) ?_ _ _ _ hf _ _ _ hP hD hS (lv_sub hl [1, 0] rfl)
  clear hf hP hD hS hl
  intro ag3 ih4 x5 x6 hf H locs ls hP hD hS hl
  refine lv_iload_n hx hb dFB_shortenLengths_11 rfl (lv_at hl 1 rfl) ?_
  refine lv_bipush (v := 16) hx hb dFB_shortenLengths_12 (by decide) ?_
  refine lv_icmp_le (tgt := 102) hx hb dFB_shortenLengths_14 (by decide) (fun c_7 => ?_) (fun c_7 => ?_)
  · have hf := ifT hf c_7
    cases hf
    exact ax_vret hx hb hr hP hD hS dFB_shortenLengths_102 hlocks
  · have hf := ifF hf c_7
    refine lv_iconst (v := 0) hx hb dFB_shortenLengths_17 (by decide) ?_
    refine lv_istore_n (lv' := [(2, .int 0), (0, .ref q), (1, .int x5)]) hx hb dFB_shortenLengths_18 rfl hl (by decide) rfl (fun ls hl => ?_)
    refine Lp2_W (P := fun (x10 : Int32) (x11 : Nat → Int32) => ∀ (H : Heap) (locs : List Loc) (ls : Array Slot), va_P (dC, dI) vwCl (w_FB_shortenLengths cI cZ cL cB q q_counts q_symbols q_weights q_groups q_nodeOf q_parents q_depths k_groupsLeft k_nodes x11) H → va_D A (w_FB_shortenLengths cI cZ cL cB q q_counts q_symbols q_weights q_groups q_nodeOf q_parents q_depths k_groupsLeft k_nodes x11) → va_S A s.heap H locs → lv_has ls 4 [(0, .ref q), (1, .int x5), (2, .int x10)] → W p l e _ s m _ below meth c H locs 0 0 _ (F0 m 19 ls [])) ?_ _ _ _ hf _ _ _ hP hD hS (lv_sub hl [1, 2, 0] rfl)
    clear hf hP hD hS hl
    intro ag8 ih9 x10 x11 hf H locs ls hP hD hS hl
    refine lv_iload_n hx hb dFB_shortenLengths_19 rfl (lv_at hl 2 rfl) ?_
    refine lv_sipush (v := 257) hx hb dFB_shortenLengths_20 (by decide) ?_
    refine lv_icmp_ge (tgt := 96) hx hb dFB_shortenLengths_23 (by decide) (fun c_12 => ?_) (fun c_12 => ?_)
    · have hf := ifT hf c_12
      refine lv_iinc (v := (x5 + (-1))) (lv' := [(1, .int (x5 + (-1))), (0, .ref q), (2, .int x10)]) hx hb dFB_shortenLengths_96 hl (k := 1) rfl rfl (by decide) rfl (fun ls hl => ?_)
      refine lv_goto (tgt := 11) hx hb dFB_shortenLengths_99 (by decide) ?_
      exact ih4 (x5 + (-1)) x11 hf _ _ _ hP hD hS (lv_sub hl [1, 0] rfl)
    · have hf := ifF hf c_12
      refine lv_aload_n hx hb dFB_shortenLengths_26 rfl (lv_at hl 0 rfl) ?_
      refine va_get (D := (dC, dI)) (ci := 0) (v := .ref q_counts) (C := RFB) (T := TFB) (N := 9) hx hb hts hi_FB hown hK hP 0 rfl rfl 0 (by decide) (hts _ tw_92) (fun _ h9 => h9) rfl dFB_shortenLengths_27 ?_
      refine lv_iload_n hx hb dFB_shortenLengths_30 rfl (lv_at hl 1 rfl) ?_
      obtain ⟨v13, ev13, h14, hf⟩ := rd_some hf
      refine ax_iald hx hb hK hP 1 0 rfl rfl h14 ev13 dFB_shortenLengths_31 ?_
      refine lv_if_le (tgt := 96) hx hb dFB_shortenLengths_32 (by decide) (fun c_15 => ?_) (fun c_15 => ?_)
      · have hf := ifT hf c_15
        refine lv_iinc (v := (x5 + (-1))) (lv' := [(1, .int (x5 + (-1))), (0, .ref q), (2, .int x10)]) hx hb dFB_shortenLengths_96 hl (k := 1) rfl rfl (by decide) rfl (fun ls hl => ?_)
        refine lv_goto (tgt := 11) hx hb dFB_shortenLengths_99 (by decide) ?_
        exact ih4 (x5 + (-1)) x11 hf _ _ _ hP hD hS (lv_sub hl [1, 0] rfl)
      · have hf := ifF hf c_15
        refine lv_aload_n hx hb dFB_shortenLengths_35 rfl (lv_at hl 0 rfl) ?_
        refine va_get (D := (dC, dI)) (ci := 0) (v := .ref q_counts) (C := RFB) (T := TFB) (N := 9) hx hb hts hi_FB hown hK hP 0 rfl rfl 0 (by decide) (hts _ tw_92) (fun _ h9 => h9) rfl dFB_shortenLengths_36 ?_
        refine lv_iload_n hx hb dFB_shortenLengths_39 rfl (lv_at hl 1 rfl) ?_
        refine lv_iconst (v := 2) hx hb dFB_shortenLengths_40 (by decide) ?_
        refine lv_isub hx hb dFB_shortenLengths_41 ?_
        obtain ⟨r16, h17, hf⟩ := bd1_some hf
        have hPc := hP.sub (ws' := (w_FF_greatestLength cI cZ cL cB q_counts 257 x11)) [1] rfl
        have hDc := hD.sub (ws' := (w_FF_greatestLength cI cZ cL cB q_counts 257 x11)) [1] (by decide) rfl
        refine ax_calli (wr := [(q, .inr (0, [.ref q_counts, .ref q_symbols, .ref q_weights, .ref q_groups, .int k_groupsLeft, .ref q_nodeOf, .ref q_parents, .ref q_depths, .int k_nodes]))]) (w2 := (w_FB_shortenLengths cI cZ cL cB q q_counts q_symbols q_weights q_groups q_nodeOf q_parents q_depths k_groupsLeft k_nodes x11)) (va_runSN (As := [.ref q_counts, .int (x5 - 2)]) (rest := []) ⟨hx, hb, hml, hown, hts⟩ (cc_FF_greatestLength l dC dI cI cZ cL cB q_counts H.size 257 x11 (x5 - 2) r16 h17) ⟨va_cnB 2 hts (tt_c tw_225) rfl rfl rfl (nz_5 hZ.2) (hts _ tw_21) (by decide +kernel) ⟨Nat.le_of_ble_eq_true rfl, Nat.le_of_ble_eq_true rfl⟩, hts _ tw_224, trivial⟩ ⟨kz_fb, kz_pre hPc hZ hDc⟩ rfl rfl hl.1 rfl (lv_room (Nat.le_of_ble_eq_true rfl)) dFB_shortenLengths_42 ⟨Nat.zero_le _, Nat.zero_le _⟩) hP hD hS hA [1] [0] [0, 1] rfl rfl (by decide) (by decide) rfl (by decide) (fun H locs hP hD hS => ?_)
        refine lv_istore_n (lv' := [(3, .int r16), (0, .ref q), (1, .int x5), (2, .int x10)]) hx hb dFB_shortenLengths_45 rfl hl (by decide) rfl (fun ls hl => ?_)
        refine lv_aload_n hx hb dFB_shortenLengths_46 rfl (lv_at hl 1 rfl) ?_
        refine va_get (D := (dC, dI)) (ci := 0) (v := .ref q_counts) (C := RFB) (T := TFB) (N := 9) hx hb hts hi_FB hown hK hP 0 rfl rfl 0 (by decide) (hts _ tw_92) (fun _ h9 => h9) rfl dFB_shortenLengths_47 ?_
        refine lv_iload_n hx hb dFB_shortenLengths_50 rfl (lv_at hl 2 rfl) ?_
        refine lv_dup2_11 hx hb dFB_shortenLengths_51 rfl rfl ?_
        obtain ⟨v18, ev18, h19, hf⟩ := rd_some hf
        refine ax_iald hx hb hK hP 1 0 rfl rfl h19 ev18 dFB_shortenLengths_52 ?_
        refine lv_iconst (v := 2) hx hb dFB_shortenLengths_53 (by decide) ?_
        refine lv_isub hx hb dFB_shortenLengths_54 ?_
        obtain ⟨g20, eg20, h21, hf⟩ := wr_some hf
        refine ax_iast hx hb hK hP hD hS 1 0 rfl rfl h21 eg20 dFB_shortenLengths_55 (ws' := (w_FB_shortenLengths cI cZ cL cB q q_counts q_symbols q_weights q_groups q_nodeOf q_parents q_depths k_groupsLeft k_nodes g20)) rfl (fun H locs hP hD hS => ?_)
        refine lv_aload_n hx hb dFB_shortenLengths_56 rfl (lv_at hl 1 rfl) ?_
        refine va_get (D := (dC, dI)) (ci := 0) (v := .ref q_counts) (C := RFB) (T := TFB) (N := 9) hx hb hts hi_FB hown hK hP 0 rfl rfl 0 (by decide) (hts _ tw_92) (fun _ h9 => h9) rfl dFB_shortenLengths_57 ?_
        refine lv_iload_n hx hb dFB_shortenLengths_60 rfl (lv_at hl 2 rfl) ?_
        refine lv_iconst (v := 1) hx hb dFB_shortenLengths_61 (by decide) ?_
        refine lv_isub hx hb dFB_shortenLengths_62 ?_
        refine lv_dup2_11 hx hb dFB_shortenLengths_63 rfl rfl ?_
        obtain ⟨v22, ev22, h23, hf⟩ := rd_some hf
        refine ax_iald hx hb hK hP 1 0 rfl rfl h23 ev22 dFB_shortenLengths_64 ?_
        refine lv_iconst (v := 1) hx hb dFB_shortenLengths_65 (by decide) ?_
        refine lv_iadd hx hb dFB_shortenLengths_66 ?_
        obtain ⟨g24, eg24, h25, hf⟩ := wr_some hf
        refine ax_iast hx hb hK hP hD hS 1 0 rfl rfl h25 eg24 dFB_shortenLengths_67 (ws' := (w_FB_shortenLengths cI cZ cL cB q q_counts q_symbols q_weights q_groups q_nodeOf q_parents q_depths k_groupsLeft k_nodes g24)) rfl (fun H locs hP hD hS => ?_)
        refine lv_aload_n hx hb dFB_shortenLengths_68 rfl (lv_at hl 1 rfl) ?_
        refine va_get (D := (dC, dI)) (ci := 0) (v := .ref q_counts) (C := RFB) (T := TFB) (N := 9) hx hb hts hi_FB hown hK hP 0 rfl rfl 0 (by decide) (hts _ tw_92) (fun _ h9 => h9) rfl dFB_shortenLengths_69 ?_
        refine lv_iload_n hx hb dFB_shortenLengths_72 rfl (lv_at hl 0 rfl) ?_
        refine lv_iconst (v := 1) hx hb dFB_shortenLengths_73 (by decide) ?_
        refine lv_iadd hx hb dFB_shortenLengths_74 ?_
        refine lv_dup2_11 hx hb dFB_shortenLengths_75 rfl rfl ?_
        obtain ⟨v26, ev26, h27, hf⟩ := rd_some hf
        refine ax_iald hx hb hK hP 1 0 rfl rfl h27 ev26 dFB_shortenLengths_76 ?_
        refine lv_iconst (v := 2) hx hb dFB_shortenLengths_77 (by decide) ?_
        refine lv_iadd hx hb dFB_shortenLengths_78 ?_
        obtain ⟨g28, eg28, h29, hf⟩ := wr_some hf
        refine ax_iast hx hb hK hP hD hS 1 0 rfl rfl h29 eg28 dFB_shortenLengths_79 (ws' := (w_FB_shortenLengths cI cZ cL cB q q_counts q_symbols q_weights q_groups q_nodeOf q_parents q_depths k_groupsLeft k_nodes g28)) rfl (fun H locs hP hD hS => ?_)
        refine lv_aload_n hx hb dFB_shortenLengths_80 rfl (lv_at hl 1 rfl) ?_
        refine va_get (D := (dC, dI)) (ci := 0) (v := .ref q_counts) (C := RFB) (T := TFB) (N := 9) hx hb hts hi_FB hown hK hP 0 rfl rfl 0 (by decide) (hts _ tw_92) (fun _ h9 => h9) rfl dFB_shortenLengths_81 ?_
        refine lv_iload_n hx hb dFB_shortenLengths_84 rfl (lv_at hl 0 rfl) ?_
        refine lv_dup2_11 hx hb dFB_shortenLengths_85 rfl rfl ?_
        obtain ⟨v30, ev30, h31, hf⟩ := rd_some hf
        refine ax_iald hx hb hK hP 1 0 rfl rfl h31 ev30 dFB_shortenLengths_86 ?_
        refine lv_iconst (v := 1) hx hb dFB_shortenLengths_87 (by decide) ?_
        refine lv_isub hx hb dFB_shortenLengths_88 ?_
        obtain ⟨g32, eg32, h33, hf⟩ := wr_some hf
        refine ax_iast hx hb hK hP hD hS 1 0 rfl rfl h33 eg32 dFB_shortenLengths_89 (ws' := (w_FB_shortenLengths cI cZ cL cB q q_counts q_symbols q_weights q_groups q_nodeOf q_parents q_depths k_groupsLeft k_nodes g32)) rfl (fun H locs hP hD hS => ?_)
        refine lv_iinc (v := (x10 + 1)) (lv' := [(2, .int (x10 + 1)), (3, .int r16), (0, .ref q), (1, .int x5)]) hx hb dFB_shortenLengths_90 hl (k := 3) rfl rfl (by decide) rfl (fun ls hl => ?_)
        refine lv_goto (tgt := 19) hx hb dFB_shortenLengths_93 (by decide) ?_
        exact ih9 (x10 + 1) g32 hf _ _ _ hP hD hS (lv_sub hl [2, 3, 0] rfl)
abbrev wsFB_dropLongestWord : List Cond := Cond.code yFB_dropLongestWord cFB_dropLongestWord 1 none :: tt
set_option maxHeartbeats 4000000 in
set_option maxRecDepth 100000 in
theorem cc_FB_dropLongestWord (l : Launch) (dC : Nat → ClassId) (dI : Nat → Nat → Nat) (cI cZ cL cB : ClassId) (q q_counts q_symbols q_weights q_groups q_nodeOf q_parents q_depths : Nat) (sz : Nat) (k_groupsLeft : Int32) (k_nodes : Int32) (k_counts : Nat → Int32) (o_counts : Nat → Int32) (hf : f_FB_dropLongestWord k_groupsLeft k_nodes k_counts = some o_counts) : Met l yFB_dropLongestWord wsFB_dropLongestWord ({ frames := 2, cells := 0, slots := 0, locals := 43 }) (va_Pc [.ref q] (kz_P dC dI cI cZ cL cB sz (w_FB_dropLongestWord cI cZ cL cB q q_counts q_symbols q_weights q_groups q_nodeOf q_parents q_depths k_groupsLeft k_nodes k_counts))) (va_Qv (fun (_ : Unit) => True) (fun _ t => va_P (dC, dI) vwCl (w_FB_dropLongestWord cI cZ cL cB q q_counts q_symbols q_weights q_groups q_nodeOf q_parents q_depths k_groupsLeft k_nodes o_counts) t.heap ∧ va_D (va_A (w_FB_dropLongestWord cI cZ cL cB q q_counts q_symbols q_weights q_groups q_nodeOf q_parents q_depths k_groupsLeft k_nodes k_counts) sz) (w_FB_dropLongestWord cI cZ cL cB q q_counts q_symbols q_weights q_groups q_nodeOf q_parents q_depths k_groupsLeft k_nodes o_counts)) (va_A (w_FB_dropLongestWord cI cZ cL cB q q_counts q_symbols q_weights q_groups q_nodeOf q_parents q_depths k_groupsLeft k_nodes k_counts) sz)) 0 0 (va_A (w_FB_dropLongestWord cI cZ cL cB q q_counts q_symbols q_weights q_groups q_nodeOf q_parents q_depths k_groupsLeft k_nodes k_counts) sz) := by
  refine Met.ofW (cc := cFB_dropLongestWord) (maxL := 1) (ret := none) (by decide) rfl ?_
  intro p e s m args below meth c s₁ B hml hv
  obtain ⟨rfl, hsz, hP, hZ, hD0⟩ := hv
  have hK := hZ.1
  have hx := B.exec
  have hb := B.bytes
  have hr := B.returns
  have hts : ∀ w ∈ tt, w.before _ s = true := fun w h => atoms_spec (ws := wsFB_dropLongestWord) B.pre w (List.mem_cons_of_mem _ h)
  have hown : s.vm.findClass RFB = some m.cls := findClass_of_methodNamed B.named
  have hlocks := B.notSynchronized
  subst hsz
  have hD := hD0.self (sz := s.heap.size)
  generalize hAe : va_A (w_FB_dropLongestWord cI cZ cL cB q q_counts q_symbols q_weights q_groups q_nodeOf q_parents q_depths k_groupsLeft k_nodes k_counts) s.heap.size = A at hD ⊢
  have hA : ∀ q : Nat, s.heap.size ≤ q → A q := fun q h => by rw [← hAe]; exact Or.inr h
  have hS : va_S A s.heap s.heap [] := va_S.rf
  have hl := lv_entry [.ref q] (n := 1) (Nat.le_of_ble_eq_true rfl)
  rw [lg_entry_eq]
  generalize (lg_sl [.ref q] ++ List.replicate (1 - (lg_sl [.ref q]).length) Slot.unset).toArray = ls at hl ⊢
  have hl : lv_has ls 1 [(0, .ref q)] := hl
  unfold f_FB_dropLongestWord at hf
  refine lv_aload_n hx hb dFB_dropLongestWord_0 rfl (lv_at hl 0 rfl) ?_
  refine va_get (D := (dC, dI)) (ci := 0) (v := .ref q_counts) (C := RFB) (T := TFB) (N := 9) hx hb hts hi_FB hown hK hP 0 rfl rfl 0 (by decide) (hts _ tw_92) (fun _ h9 => h9) rfl dFB_dropLongestWord_1 ?_
  refine lv_aload_n hx hb dFB_dropLongestWord_4 rfl (lv_at hl 0 rfl) ?_
  refine va_get (D := (dC, dI)) (ci := 0) (v := .ref q_counts) (C := RFB) (T := TFB) (N := 9) hx hb hts hi_FB hown hK hP 0 rfl rfl 0 (by decide) (hts _ tw_92) (fun _ h9 => h9) rfl dFB_dropLongestWord_5 ?_
  refine lv_bipush (v := 16) hx hb dFB_dropLongestWord_8 (by decide) ?_
  obtain ⟨r1, h2, hf⟩ := bd1_some hf
  have hPc := hP.sub (ws' := (w_FF_greatestLength cI cZ cL cB q_counts 257 k_counts)) [1] rfl
  have hDc := hD.sub (ws' := (w_FF_greatestLength cI cZ cL cB q_counts 257 k_counts)) [1] (by decide) rfl
  refine ax_calli (wr := [(q, .inr (0, [.ref q_counts, .ref q_symbols, .ref q_weights, .ref q_groups, .int k_groupsLeft, .ref q_nodeOf, .ref q_parents, .ref q_depths, .int k_nodes]))]) (w2 := (w_FB_dropLongestWord cI cZ cL cB q q_counts q_symbols q_weights q_groups q_nodeOf q_parents q_depths k_groupsLeft k_nodes k_counts)) (va_runSN (As := [.ref q_counts, .int 16]) (rest := [.ref q_counts]) ⟨hx, hb, hml, hown, hts⟩ (cc_FF_greatestLength l dC dI cI cZ cL cB q_counts s.heap.size 257 k_counts 16 r1 h2) ⟨va_cnB 2 hts (tt_c tw_225) rfl rfl rfl (nz_5 hZ.2) (hts _ tw_21) (by decide +kernel) ⟨Nat.le_of_ble_eq_true rfl, Nat.le_of_ble_eq_true rfl⟩, hts _ tw_224, trivial⟩ ⟨kz_fb, kz_pre hPc hZ hDc⟩ rfl rfl hl.1 rfl (lv_room (Nat.le_of_ble_eq_true rfl)) dFB_dropLongestWord_10 ⟨Nat.zero_le _, Nat.zero_le _⟩) hP hD hS hA [1] [0] [0, 1] rfl rfl (by decide) (by decide) rfl (by decide) (fun H locs hP hD hS => ?_)
  refine lv_dup2_11 hx hb dFB_dropLongestWord_13 rfl rfl ?_
  obtain ⟨v3, ev3, h4, hf⟩ := rd_some hf
  refine ax_iald hx hb hK hP 1 0 rfl rfl h4 ev3 dFB_dropLongestWord_14 ?_
  refine lv_iconst (v := 1) hx hb dFB_dropLongestWord_15 (by decide) ?_
  refine lv_isub hx hb dFB_dropLongestWord_16 ?_
  obtain ⟨g5, eg5, h6, hf⟩ := wr_some hf
  refine ax_iast hx hb hK hP hD hS 1 0 rfl rfl h6 eg5 dFB_dropLongestWord_17 (ws' := (w_FB_dropLongestWord cI cZ cL cB q q_counts q_symbols q_weights q_groups q_nodeOf q_parents q_depths k_groupsLeft k_nodes g5)) rfl (fun H locs hP hD hS => ?_)
  cases hf
  exact ax_vret hx hb hr hP hD hS dFB_dropLongestWord_18 hlocks
abbrev wsFB_find : List Cond := Cond.code yFB_find cFB_find 2 none :: tt
set_option maxHeartbeats 4000000 in
set_option maxRecDepth 100000 in
theorem cc_FB_find (l : Launch) (dC : Nat → ClassId) (dI : Nat → Nat → Nat) (cI cZ cL cB : ClassId) (q q_counts q_symbols q_weights q_groups q_nodeOf q_parents q_depths q_p0 : Nat) (sz : Nat) (k_groupsLeft : Int32) (k_nodes : Int32) (k_counts : Nat → Int32) (n_p0 : Nat) (k_p0 : Nat → Int32) (k_weights : Nat → Int32) (k_nodeOf : Nat → Int32) (k_depths : Nat → Int32) (k_groups : Nat → Int32) (k_parents : Nat → Int32) (k_symbols : Nat → Int32) (o_groupsLeft : Int32) (o_nodes : Int32) (o_counts : Nat → Int32) (o_weights : Nat → Int32) (o_nodeOf : Nat → Int32) (o_depths : Nat → Int32) (o_groups : Nat → Int32) (o_parents : Nat → Int32) (o_symbols : Nat → Int32) (hf : f_FB_find k_groupsLeft k_nodes k_counts n_p0 k_p0 k_weights k_nodeOf k_depths k_groups k_parents k_symbols = some (o_groupsLeft, o_nodes, o_counts, o_weights, o_nodeOf, o_depths, o_groups, o_parents, o_symbols)) : Met l yFB_find wsFB_find ({ frames := 3, cells := 0, slots := 0, locals := 67 }) (va_Pc [.ref q, .ref q_p0] (kz_P dC dI cI cZ cL cB sz (w_FB_find cI cZ cL cB q q_counts q_symbols q_weights q_groups q_nodeOf q_parents q_depths q_p0 k_groupsLeft k_nodes k_counts n_p0 k_p0 k_weights k_nodeOf k_depths k_groups k_parents k_symbols))) (va_Qv (fun (_ : Unit) => True) (fun _ t => va_P (dC, dI) vwCl (w_FB_find cI cZ cL cB q q_counts q_symbols q_weights q_groups q_nodeOf q_parents q_depths q_p0 o_groupsLeft o_nodes o_counts n_p0 k_p0 o_weights o_nodeOf o_depths o_groups o_parents o_symbols) t.heap ∧ va_D (va_A (w_FB_find cI cZ cL cB q q_counts q_symbols q_weights q_groups q_nodeOf q_parents q_depths q_p0 k_groupsLeft k_nodes k_counts n_p0 k_p0 k_weights k_nodeOf k_depths k_groups k_parents k_symbols) sz) (w_FB_find cI cZ cL cB q q_counts q_symbols q_weights q_groups q_nodeOf q_parents q_depths q_p0 o_groupsLeft o_nodes o_counts n_p0 k_p0 o_weights o_nodeOf o_depths o_groups o_parents o_symbols)) (va_A (w_FB_find cI cZ cL cB q q_counts q_symbols q_weights q_groups q_nodeOf q_parents q_depths q_p0 k_groupsLeft k_nodes k_counts n_p0 k_p0 k_weights k_nodeOf k_depths k_groups k_parents k_symbols) sz)) 0 0 (va_A (w_FB_find cI cZ cL cB q q_counts q_symbols q_weights q_groups q_nodeOf q_parents q_depths q_p0 k_groupsLeft k_nodes k_counts n_p0 k_p0 k_weights k_nodeOf k_depths k_groups k_parents k_symbols) sz) := by
  refine Met.ofW (cc := cFB_find) (maxL := 2) (ret := none) (by decide) rfl ?_
  intro p e s m args below meth c s₁ B hml hv
  obtain ⟨rfl, hsz, hP, hZ, hD0⟩ := hv
  have hK := hZ.1
  have hx := B.exec
  have hb := B.bytes
  have hr := B.returns
  have hts : ∀ w ∈ tt, w.before _ s = true := fun w h => atoms_spec (ws := wsFB_find) B.pre w (List.mem_cons_of_mem _ h)
  have hown : s.vm.findClass RFB = some m.cls := findClass_of_methodNamed B.named
  have hlocks := B.notSynchronized
  subst hsz
  have hD := hD0.self (sz := s.heap.size)
  generalize hAe : va_A (w_FB_find cI cZ cL cB q q_counts q_symbols q_weights q_groups q_nodeOf q_parents q_depths q_p0 k_groupsLeft k_nodes k_counts n_p0 k_p0 k_weights k_nodeOf k_depths k_groups k_parents k_symbols) s.heap.size = A at hD ⊢
  have hA : ∀ q : Nat, s.heap.size ≤ q → A q := fun q h => by rw [← hAe]; exact Or.inr h
  have hS : va_S A s.heap s.heap [] := va_S.rf
  have hl := lv_entry [.ref q, .ref q_p0] (n := 2) (Nat.le_of_ble_eq_true rfl)
  rw [lg_entry_eq]
  generalize (lg_sl [.ref q, .ref q_p0] ++ List.replicate (2 - (lg_sl [.ref q, .ref q_p0]).length) Slot.unset).toArray = ls at hl ⊢
  have hl : lv_has ls 2 [(0, .ref q), (1, .ref q_p0)] := hl
  unfold f_FB_find at hf
  refine lv_aload_n hx hb dFB_find_0 rfl (lv_at hl 0 rfl) ?_
  refine va_get (D := (dC, dI)) (ci := 0) (v := .ref q_counts) (C := RFB) (T := TFB) (N := 9) hx hb hts hi_FB hown hK hP 0 rfl rfl 0 (by decide) (hts _ tw_92) (fun _ h9 => h9) rfl dFB_find_1 ?_
  refine lv_iconst (v := 0) hx hb dFB_find_4 (by decide) ?_
  obtain ⟨o1, h2, hf⟩ := bd1_some hf
  have hPc := hP.sub (ws' := (w_JA_fill cI cZ cL cB q_counts 257 k_counts)) [1] rfl
  have hDc := hD.sub (ws' := (w_JA_fill cI cZ cL cB q_counts 257 k_counts)) [1] (by decide) rfl
  refine ax_callv (wr := [(q, .inr (0, [.ref q_counts, .ref q_symbols, .ref q_weights, .ref q_groups, .int k_groupsLeft, .ref q_nodeOf, .ref q_parents, .ref q_depths, .int k_nodes])), (q_p0, .inl (cI, n_p0, .inl k_p0)), (q_weights, .inl (cI, 257, .inl k_weights)), (q_nodeOf, .inl (cI, 257, .inl k_nodeOf)), (q_depths, .inl (cI, 513, .inl k_depths)), (q_groups, .inl (cI, 257, .inl k_groups)), (q_parents, .inl (cI, 513, .inl k_parents)), (q_symbols, .inl (cI, 256, .inl k_symbols))]) (w2 := (w_FB_find cI cZ cL cB q q_counts q_symbols q_weights q_groups q_nodeOf q_parents q_depths q_p0 k_groupsLeft k_nodes o1 n_p0 k_p0 k_weights k_nodeOf k_depths k_groups k_parents k_symbols)) (va_runS (As := [.ref q_counts, .int 0]) (rest := []) ⟨hx, hb, hml, hown, hts⟩ (cc_JA_fill l dC dI cI cZ cL cB q_counts s.heap.size 257 k_counts 0 o1 h2) (va_cwS 2 hts (tt_S tw_202 tw_158 tw_28 tw_159) rfl rfl rfl (by decide +kernel) ⟨Nat.le_of_ble_eq_true rfl, Nat.le_of_ble_eq_true rfl⟩) ⟨kz_fb, kz_pre hPc hZ hDc⟩ rfl rfl hl.1 rfl (lv_room (Nat.le_of_ble_eq_true rfl)) dFB_find_5 ⟨Nat.zero_le _, Nat.zero_le _⟩) hP hD hS hA [1] [0, 2, 3, 4, 5, 6, 7, 8] [0, 8, 1, 2, 3, 4, 5, 6, 7] rfl rfl (by decide) (by decide) rfl (by decide) (fun H locs hP hD hS => ?_)
  refine lv_aload_n hx hb dFB_find_8 rfl (lv_at hl 0 rfl) ?_
  refine lv_aload_n hx hb dFB_find_9 rfl (lv_at hl 1 rfl) ?_
  obtain ⟨o3, o4, o5, o6, o7, o8, h9, hf⟩ := bd6_some hf
  have hPc := hP.sub (ws' := (w_FB_startGroups cI cZ cL cB q q_counts q_symbols q_weights q_groups q_nodeOf q_parents q_depths q_p0 k_groupsLeft k_nodes n_p0 k_p0 k_weights k_nodeOf k_depths k_groups)) [0, 2, 3, 4, 5, 6] rfl
  have hDc := hD.sub (ws' := (w_FB_startGroups cI cZ cL cB q q_counts q_symbols q_weights q_groups q_nodeOf q_parents q_depths q_p0 k_groupsLeft k_nodes n_p0 k_p0 k_weights k_nodeOf k_depths k_groups)) [0, 2, 3, 4, 5, 6] (by decide) rfl
  refine ax_callv (wr := [(q_counts, .inl (cI, 257, .inl o1)), (q_parents, .inl (cI, 513, .inl k_parents)), (q_symbols, .inl (cI, 256, .inl k_symbols))]) (w2 := (w_FB_find cI cZ cL cB q q_counts q_symbols q_weights q_groups q_nodeOf q_parents q_depths q_p0 o3 o4 o1 n_p0 k_p0 o5 o6 o7 o8 k_parents k_symbols)) (va_runV (As := [.ref q_p0]) (rest := []) ⟨hx, hb, hml, hown, hts⟩ (cc_FB_startGroups l dC dI cI cZ cL cB q q_counts q_symbols q_weights q_groups q_nodeOf q_parents q_depths q_p0 H.size k_groupsLeft k_nodes n_p0 k_p0 k_weights k_nodeOf k_depths k_groups o3 o4 o5 o6 o7 o8 h9) (cwV 1 hts (tt_V tw_203 tw_204 tw_4 tw_25 tw_205) rfl rfl rfl (by decide +kernel) ⟨Nat.le_of_ble_eq_true rfl, Nat.le_of_ble_eq_true rfl⟩) ⟨kz_fb, va_recv hK hPc (ci := 0) (q0 := 0) rfl rfl, kz_pre hPc hZ hDc⟩ rfl rfl hl.1 rfl (lv_room (Nat.le_of_ble_eq_true rfl)) dFB_find_10 ⟨Nat.zero_le _, Nat.zero_le _⟩) hP hD hS hA [0, 2, 3, 4, 5, 6] [1, 7, 8] [3, 0, 4, 5, 6, 7, 8, 1, 2] rfl rfl (by decide) (by decide) rfl (by decide) (fun H locs hP hD hS => ?_)
  refine lv_aload_n hx hb dFB_find_13 rfl (lv_at hl 0 rfl) ?_
  refine va_get (D := (dC, dI)) (ci := 0) (v := .int o3) (C := RFB) (T := TFB) (N := 9) hx hb hts hi_FB hown hK hP 0 rfl rfl 4 (by decide) (hts _ tw_98) (fun _ h9 => h9) rfl dFB_find_14 ?_
  refine lv_iconst (v := 2) hx hb dFB_find_17 (by decide) ?_
  refine lv_icmp_ge (tgt := 22) hx hb dFB_find_18 (by decide) (fun c_10 => ?_) (fun c_10 => ?_)
  · have hf := ifT hf c_10
    refine lv_aload_n hx hb dFB_find_22 rfl (lv_at hl 0 rfl) ?_
    obtain ⟨o11, o12, o13, o14, o15, o16, h17, hf⟩ := bd6_some hf
    have hPc := hP.sub (ws' := (w_FB_joinGroups cI cZ cL cB q q_counts q_symbols q_weights q_groups q_nodeOf q_parents q_depths o3 o4 o8 o5 o6 k_parents)) [0, 6, 3, 4, 7] rfl
    have hDc := hD.sub (ws' := (w_FB_joinGroups cI cZ cL cB q q_counts q_symbols q_weights q_groups q_nodeOf q_parents q_depths o3 o4 o8 o5 o6 k_parents)) [0, 6, 3, 4, 7] (by decide) rfl
    refine ax_callv (wr := [(q_counts, .inl (cI, 257, .inl o1)), (q_p0, .inl (cI, n_p0, .inl k_p0)), (q_depths, .inl (cI, 513, .inl o7)), (q_symbols, .inl (cI, 256, .inl k_symbols))]) (w2 := (w_FB_find cI cZ cL cB q q_counts q_symbols q_weights q_groups q_nodeOf q_parents q_depths q_p0 o11 o12 o1 n_p0 k_p0 o14 o15 o7 o13 o16 k_symbols)) (va_runV (As := []) (rest := []) ⟨hx, hb, hml, hown, hts⟩ (cc_FB_joinGroups l dC dI cI cZ cL cB q q_counts q_symbols q_weights q_groups q_nodeOf q_parents q_depths H.size o3 o4 o8 o5 o6 k_parents o11 o12 o13 o14 o15 o16 h17) (cwV 0 hts (tt_V tw_206 tw_207 tw_5 tw_25 tw_208) rfl rfl rfl (by decide +kernel) ⟨Nat.le_of_ble_eq_true rfl, Nat.le_of_ble_eq_true rfl⟩) ⟨kz_fb, va_recv hK hPc (ci := 0) (q0 := 0) rfl rfl, kz_pre hPc hZ hDc⟩ rfl rfl hl.1 rfl (lv_room (Nat.le_of_ble_eq_true rfl)) dFB_find_23 ⟨Nat.zero_le _, Nat.zero_le _⟩) hP hD hS hA [0, 6, 3, 4, 7] [1, 2, 5, 8] [4, 0, 1, 6, 7, 2, 5, 8, 3] rfl rfl (by decide) (by decide) rfl (by decide) (fun H locs hP hD hS => ?_)
    refine lv_aload_n hx hb dFB_find_26 rfl (lv_at hl 0 rfl) ?_
    obtain ⟨o18, h19, hf⟩ := bd1_some hf
    have hPc := hP.sub (ws' := (w_FB_measureDepths cI cZ cL cB q q_counts q_symbols q_weights q_groups q_nodeOf q_parents q_depths o11 o12 o7 o16 o14)) [0, 5, 7, 3] rfl
    have hDc := hD.sub (ws' := (w_FB_measureDepths cI cZ cL cB q q_counts q_symbols q_weights q_groups q_nodeOf q_parents q_depths o11 o12 o7 o16 o14)) [0, 5, 7, 3] (by decide) rfl
    refine ax_callv (wr := [(q_counts, .inl (cI, 257, .inl o1)), (q_p0, .inl (cI, n_p0, .inl k_p0)), (q_nodeOf, .inl (cI, 257, .inl o15)), (q_groups, .inl (cI, 257, .inl o13)), (q_symbols, .inl (cI, 256, .inl k_symbols))]) (w2 := (w_FB_find cI cZ cL cB q q_counts q_symbols q_weights q_groups q_nodeOf q_parents q_depths q_p0 o11 o12 o1 n_p0 k_p0 o14 o15 o18 o13 o16 k_symbols)) (va_runV (As := []) (rest := []) ⟨hx, hb, hml, hown, hts⟩ (cc_FB_measureDepths l dC dI cI cZ cL cB q q_counts q_symbols q_weights q_groups q_nodeOf q_parents q_depths H.size o11 o12 o7 o16 o14 o18 h19) (cwV 0 hts (tt_V tw_215 tw_216 tw_8 tw_25 tw_217) rfl rfl rfl (by decide +kernel) ⟨Nat.le_of_ble_eq_true rfl, Nat.le_of_ble_eq_true rfl⟩) ⟨kz_fb, va_recv hK hPc (ci := 0) (q0 := 0) rfl rfl, kz_pre hPc hZ hDc⟩ rfl rfl hl.1 rfl (lv_room (Nat.le_of_ble_eq_true rfl)) dFB_find_27 ⟨Nat.zero_le _, Nat.zero_le _⟩) hP hD hS hA [0, 5, 7, 3] [1, 2, 4, 6, 8] [5, 0, 1, 8, 2, 6, 3, 7, 4] rfl rfl (by decide) (by decide) rfl (by decide) (fun H locs hP hD hS => ?_)
    refine lv_aload_n hx hb dFB_find_30 rfl (lv_at hl 0 rfl) ?_
    obtain ⟨o20, h21, hf⟩ := bd1_some hf
    have hPc := hP.sub (ws' := (w_FB_countLengths cI cZ cL cB q q_counts q_symbols q_weights q_groups q_nodeOf q_parents q_depths o11 o12 o18 o1)) [0, 5, 1] rfl
    have hDc := hD.sub (ws' := (w_FB_countLengths cI cZ cL cB q q_counts q_symbols q_weights q_groups q_nodeOf q_parents q_depths o11 o12 o18 o1)) [0, 5, 1] (by decide) rfl
    refine ax_callv (wr := [(q_p0, .inl (cI, n_p0, .inl k_p0)), (q_weights, .inl (cI, 257, .inl o14)), (q_nodeOf, .inl (cI, 257, .inl o15)), (q_groups, .inl (cI, 257, .inl o13)), (q_parents, .inl (cI, 513, .inl o16)), (q_symbols, .inl (cI, 256, .inl k_symbols))]) (w2 := (w_FB_find cI cZ cL cB q q_counts q_symbols q_weights q_groups q_nodeOf q_parents q_depths q_p0 o11 o12 o20 n_p0 k_p0 o14 o15 o18 o13 o16 k_symbols)) (va_runV (As := []) (rest := []) ⟨hx, hb, hml, hown, hts⟩ (cc_FB_countLengths l dC dI cI cZ cL cB q q_counts q_symbols q_weights q_groups q_nodeOf q_parents q_depths H.size o11 o12 o18 o1 o20 h21) (cwV 0 hts (tt_V tw_218 tw_219 tw_9 tw_25 tw_220) rfl rfl rfl (by decide +kernel) ⟨Nat.le_of_ble_eq_true rfl, Nat.le_of_ble_eq_true rfl⟩) ⟨kz_fb, va_recv hK hPc (ci := 0) (q0 := 0) rfl rfl, kz_pre hPc hZ hDc⟩ rfl rfl hl.1 rfl (lv_room (Nat.le_of_ble_eq_true rfl)) dFB_find_31 ⟨Nat.zero_le _, Nat.zero_le _⟩) hP hD hS hA [0, 5, 1] [2, 3, 4, 6, 7, 8] [6, 8, 0, 1, 2, 7, 3, 4, 5] rfl rfl (by decide) (by decide) rfl (by decide) (fun H locs hP hD hS => ?_)
    refine lv_aload_n hx hb dFB_find_34 rfl (lv_at hl 0 rfl) ?_
    obtain ⟨o22, h23, hf⟩ := bd1_some hf
    have hPc := hP.sub (ws' := (w_FB_orderSymbols cI cZ cL cB q q_counts q_symbols q_weights q_groups q_nodeOf q_parents q_depths o11 o12 o20 o18 k_symbols)) [0, 1, 5, 8] rfl
    have hDc := hD.sub (ws' := (w_FB_orderSymbols cI cZ cL cB q q_counts q_symbols q_weights q_groups q_nodeOf q_parents q_depths o11 o12 o20 o18 k_symbols)) [0, 1, 5, 8] (by decide) rfl
    refine ax_callv (wr := [(q_p0, .inl (cI, n_p0, .inl k_p0)), (q_weights, .inl (cI, 257, .inl o14)), (q_nodeOf, .inl (cI, 257, .inl o15)), (q_groups, .inl (cI, 257, .inl o13)), (q_parents, .inl (cI, 513, .inl o16))]) (w2 := (w_FB_find cI cZ cL cB q q_counts q_symbols q_weights q_groups q_nodeOf q_parents q_depths q_p0 o11 o12 o20 n_p0 k_p0 o14 o15 o18 o13 o16 o22)) (va_runV (As := []) (rest := []) ⟨hx, hb, hml, hown, hts⟩ (cc_FB_orderSymbols l dC dI cI cZ cL cB q q_counts q_symbols q_weights q_groups q_nodeOf q_parents q_depths H.size o11 o12 o20 o18 k_symbols o22 h23) (cwV 0 hts (tt_V tw_221 tw_222 tw_10 tw_25 tw_223) rfl rfl rfl (by decide +kernel) ⟨Nat.le_of_ble_eq_true rfl, Nat.le_of_ble_eq_true rfl⟩) ⟨kz_fb, va_recv hK hPc (ci := 0) (q0 := 0) rfl rfl, kz_pre hPc hZ hDc⟩ rfl rfl hl.1 rfl (lv_room (Nat.le_of_ble_eq_true rfl)) dFB_find_35 ⟨Nat.zero_le _, Nat.zero_le _⟩) hP hD hS hA [0, 1, 5, 8] [2, 3, 4, 6, 7] [5, 6, 0, 1, 2, 7, 3, 4, 8] rfl rfl (by decide) (by decide) rfl (by decide) (fun H locs hP hD hS => ?_)
    refine lv_aload_n hx hb dFB_find_38 rfl (lv_at hl 0 rfl) ?_
    obtain ⟨o24, h25, hf⟩ := bd1_some hf
    have hPc := hP.sub (ws' := (w_FB_shortenLengths cI cZ cL cB q q_counts q_symbols q_weights q_groups q_nodeOf q_parents q_depths o11 o12 o20)) [0, 1] rfl
    have hDc := hD.sub (ws' := (w_FB_shortenLengths cI cZ cL cB q q_counts q_symbols q_weights q_groups q_nodeOf q_parents q_depths o11 o12 o20)) [0, 1] (by decide) rfl
    refine ax_callv (wr := [(q_p0, .inl (cI, n_p0, .inl k_p0)), (q_weights, .inl (cI, 257, .inl o14)), (q_nodeOf, .inl (cI, 257, .inl o15)), (q_depths, .inl (cI, 513, .inl o18)), (q_groups, .inl (cI, 257, .inl o13)), (q_parents, .inl (cI, 513, .inl o16)), (q_symbols, .inl (cI, 256, .inl o22))]) (w2 := (w_FB_find cI cZ cL cB q q_counts q_symbols q_weights q_groups q_nodeOf q_parents q_depths q_p0 o11 o12 o24 n_p0 k_p0 o14 o15 o18 o13 o16 o22)) (va_runV (As := []) (rest := []) ⟨hx, hb, hml, hown, hts⟩ (cc_FB_shortenLengths l dC dI cI cZ cL cB q q_counts q_symbols q_weights q_groups q_nodeOf q_parents q_depths H.size o11 o12 o20 o24 h25) (cwV 0 hts (tt_V tw_229 tw_230 tw_11 tw_25 tw_231) rfl rfl rfl (by decide +kernel) ⟨Nat.le_of_ble_eq_true rfl, Nat.le_of_ble_eq_true rfl⟩) ⟨kz_fb, va_recv hK hPc (ci := 0) (q0 := 0) rfl rfl, kz_pre hPc hZ hDc⟩ rfl rfl hl.1 rfl (lv_room (Nat.le_of_ble_eq_true rfl)) dFB_find_39 ⟨Nat.zero_le _, Nat.zero_le _⟩) hP hD hS hA [0, 1] [2, 3, 4, 5, 6, 7, 8] [7, 8, 0, 1, 2, 3, 4, 5, 6] rfl rfl (by decide) (by decide) rfl (by decide) (fun H locs hP hD hS => ?_)
    refine lv_aload_n hx hb dFB_find_42 rfl (lv_at hl 0 rfl) ?_
    obtain ⟨o26, h27, hf⟩ := bd1_some hf
    have hPc := hP.sub (ws' := (w_FB_dropLongestWord cI cZ cL cB q q_counts q_symbols q_weights q_groups q_nodeOf q_parents q_depths o11 o12 o24)) [0, 1] rfl
    have hDc := hD.sub (ws' := (w_FB_dropLongestWord cI cZ cL cB q q_counts q_symbols q_weights q_groups q_nodeOf q_parents q_depths o11 o12 o24)) [0, 1] (by decide) rfl
    refine ax_callv (wr := [(q_p0, .inl (cI, n_p0, .inl k_p0)), (q_weights, .inl (cI, 257, .inl o14)), (q_nodeOf, .inl (cI, 257, .inl o15)), (q_depths, .inl (cI, 513, .inl o18)), (q_groups, .inl (cI, 257, .inl o13)), (q_parents, .inl (cI, 513, .inl o16)), (q_symbols, .inl (cI, 256, .inl o22))]) (w2 := (w_FB_find cI cZ cL cB q q_counts q_symbols q_weights q_groups q_nodeOf q_parents q_depths q_p0 o11 o12 o26 n_p0 k_p0 o14 o15 o18 o13 o16 o22)) (va_runV (As := []) (rest := []) ⟨hx, hb, hml, hown, hts⟩ (cc_FB_dropLongestWord l dC dI cI cZ cL cB q q_counts q_symbols q_weights q_groups q_nodeOf q_parents q_depths H.size o11 o12 o24 o26 h27) (cwV 0 hts (tt_V tw_232 tw_233 tw_12 tw_25 tw_234) rfl rfl rfl (by decide +kernel) ⟨Nat.le_of_ble_eq_true rfl, Nat.le_of_ble_eq_true rfl⟩) ⟨kz_fb, va_recv hK hPc (ci := 0) (q0 := 0) rfl rfl, kz_pre hPc hZ hDc⟩ rfl rfl hl.1 rfl (lv_room (Nat.le_of_ble_eq_true rfl)) dFB_find_43 ⟨Nat.zero_le _, Nat.zero_le _⟩) hP hD hS hA [0, 1] [2, 3, 4, 5, 6, 7, 8] [7, 8, 0, 1, 2, 3, 4, 5, 6] rfl rfl (by decide) (by decide) rfl (by decide) (fun H locs hP hD hS => ?_)
    cases hf
    exact ax_vret hx hb hr hP hD hS dFB_find_46 hlocks
  · have hf := ifF hf c_10
    cases hf
    exact ax_vret hx hb hr hP hD hS dFB_find_21 hlocks
