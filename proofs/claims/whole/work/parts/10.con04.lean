abbrev wsFT_bitsOfAll : List Cond := Cond.code yFT_bitsOfAll cFT_bitsOfAll 5 (some .long) :: tt
set_option maxHeartbeats 4000000 in
set_option maxRecDepth 100000 in
theorem cc_FT_bitsOfAll (l : Launch) (dC : Nat → ClassId) (dI : Nat → Nat → Nat) (cI cZ cL cB : ClassId) (q_p0 q q_counts q_symbols q_lengths q_codes : Nat) (sz : Nat) (n_p0 : Nat) (k_p0 : Nat → Int32) (k_size : Int32) (k_lengths : Nat → Int32) (r : Int64) (hf : f_FT_bitsOfAll n_p0 k_p0 k_size k_lengths = some r) : Met l yFT_bitsOfAll wsFT_bitsOfAll ({ frames := 0, cells := 0, slots := 0, locals := 0 }) (va_Pc [.ref q, .ref q_p0] (kz_P dC dI cI cZ cL cB sz (w_FT_bitsOfAll cI cZ cL cB q_p0 q q_counts q_symbols q_lengths q_codes n_p0 k_p0 k_size k_lengths))) (va_Ql (fun (r' : Int64) (_ : Unit) => r' = r) (fun _ t => va_P (dC, dI) vwCl (w_FT_bitsOfAll cI cZ cL cB q_p0 q q_counts q_symbols q_lengths q_codes n_p0 k_p0 k_size k_lengths) t.heap ∧ va_D (va_A (w_FT_bitsOfAll cI cZ cL cB q_p0 q q_counts q_symbols q_lengths q_codes n_p0 k_p0 k_size k_lengths) sz) (w_FT_bitsOfAll cI cZ cL cB q_p0 q q_counts q_symbols q_lengths q_codes n_p0 k_p0 k_size k_lengths)) (va_A (w_FT_bitsOfAll cI cZ cL cB q_p0 q q_counts q_symbols q_lengths q_codes n_p0 k_p0 k_size k_lengths) sz)) 0 0 (va_A (w_FT_bitsOfAll cI cZ cL cB q_p0 q q_counts q_symbols q_lengths q_codes n_p0 k_p0 k_size k_lengths) sz) := by
  refine Met.ofW (cc := cFT_bitsOfAll) (maxL := 5) (ret := (some .long)) (by decide) rfl ?_
  intro p e s m args below meth c s₁ B hml hv
  obtain ⟨rfl, hsz, hP, hZ, hD0⟩ := hv
  have hK := hZ.1
  have hx := B.exec
  have hb := B.bytes
  have hr := B.returns
  have hts : ∀ w ∈ tt, w.before _ s = true := fun w h => atoms_spec (ws := wsFT_bitsOfAll) B.pre w (List.mem_cons_of_mem _ h)
  have hown : s.vm.findClass RFT = some m.cls := findClass_of_methodNamed B.named
  have hlocks := B.notSynchronized
  subst hsz
  have hD := hD0.self (sz := s.heap.size)
  generalize hAe : va_A (w_FT_bitsOfAll cI cZ cL cB q_p0 q q_counts q_symbols q_lengths q_codes n_p0 k_p0 k_size k_lengths) s.heap.size = A at hD ⊢
  have hA : ∀ q : Nat, s.heap.size ≤ q → A q := fun q h => by rw [← hAe]; exact Or.inr h
  have hS : va_S A s.heap s.heap [] := va_S.rf
  have hl := lv_entry [.ref q, .ref q_p0] (n := 5) (Nat.le_of_ble_eq_true rfl)
  rw [lg_entry_eq]
  generalize (lg_sl [.ref q, .ref q_p0] ++ List.replicate (5 - (lg_sl [.ref q, .ref q_p0]).length) Slot.unset).toArray = ls at hl ⊢
  have hl : lv_has ls 5 [(0, .ref q), (1, .ref q_p0)] := hl
  unfold f_FT_bitsOfAll at hf
  refine lv_lconst (v := 0) hx hb dFT_bitsOfAll_0 (by decide) ?_
  refine lv_lstore_n (lv' := [(2, .long 0), (0, .ref q), (1, .ref q_p0)]) hx hb dFT_bitsOfAll_1 rfl hl (by decide) rfl (fun ls hl => ?_)
  refine lv_iconst (v := 0) hx hb dFT_bitsOfAll_2 (by decide) ?_
  refine lv_istore (lv' := [(4, .int 0), (2, .long 0), (0, .ref q), (1, .ref q_p0)]) hx hb dFT_bitsOfAll_3 hl (by decide) rfl (fun ls hl => ?_)
  refine Lp2_W (P := fun (x3 : Int64) (x4 : Int32) => ∀ (H : Heap) (locs : List Loc) (ls : Array Slot), va_P (dC, dI) vwCl (w_FT_bitsOfAll cI cZ cL cB q_p0 q q_counts q_symbols q_lengths q_codes n_p0 k_p0 k_size k_lengths) H → va_D A (w_FT_bitsOfAll cI cZ cL cB q_p0 q q_counts q_symbols q_lengths q_codes n_p0 k_p0 k_size k_lengths) → va_S A s.heap H locs → lv_has ls 5 [(0, .ref q), (1, .ref q_p0), (2, .long x3), (4, .int x4)] → W p l e _ s m _ below meth c H locs 0 0 _ (F0 m 5 ls [])) ?_ _ _ _ hf _ _ _ hP hD hS (lv_sub hl [2, 3, 1, 0] rfl)
  clear hf hP hD hS hl
  intro ag1 ih2 x3 x4 hf H locs ls hP hD hS hl
  refine lv_iload hx hb dFT_bitsOfAll_5 (lv_at hl 3 rfl) ?_
  refine lv_sipush (v := 256) hx hb dFT_bitsOfAll_7 (by decide) ?_
  refine lv_icmp_ge (tgt := 36) hx hb dFT_bitsOfAll_10 (by decide) (fun c_5 => ?_) (fun c_5 => ?_)
  · have hf := ifT hf c_5
    refine lv_lload_n hx hb dFT_bitsOfAll_36 rfl (lv_at hl 2 rfl) ?_
    cases hf
    exact ax_lret hx hb hr hP hD hS dFT_bitsOfAll_37 hlocks
  · have hf := ifF hf c_5
    refine lv_lload_n hx hb dFT_bitsOfAll_13 rfl (lv_at hl 2 rfl) ?_
    refine lv_aload_n hx hb dFT_bitsOfAll_14 rfl (lv_at hl 1 rfl) ?_
    refine lv_iload hx hb dFT_bitsOfAll_15 (lv_at hl 3 rfl) ?_
    obtain ⟨v6, ev6, h7, hf⟩ := rd_some hf
    refine ax_iald hx hb hK hP 0 0 rfl rfl h7 ev6 dFT_bitsOfAll_17 ?_
    refine lv_i2l (v := v6.toInt64) hx hb dFT_bitsOfAll_18 rfl ?_
    refine lv_aload_n hx hb dFT_bitsOfAll_19 rfl (lv_at hl 0 rfl) ?_
    refine va_get (D := (dC, dI)) (ci := 3) (v := .ref q_lengths) (C := RFT) (T := TFT) (N := 5) hx hb hts hi_FT hown hK hP 1 rfl rfl 2 (by decide) (hts _ tw_65) (fun _ h9 => h9) rfl dFT_bitsOfAll_20 ?_
    refine lv_iload hx hb dFT_bitsOfAll_23 (lv_at hl 3 rfl) ?_
    obtain ⟨v8, ev8, h9, hf⟩ := rd_some hf
    refine ax_iald hx hb hK hP 2 0 rfl rfl h9 ev8 dFT_bitsOfAll_25 ?_
    refine lv_i2l (v := v8.toInt64) hx hb dFT_bitsOfAll_26 rfl ?_
    refine lv_lmul hx hb dFT_bitsOfAll_27 ?_
    refine lv_ladd hx hb dFT_bitsOfAll_28 ?_
    refine lv_lstore_n (lv' := [(2, .long (x3 + (v6.toInt64 * v8.toInt64))), (0, .ref q), (1, .ref q_p0), (4, .int x4)]) hx hb dFT_bitsOfAll_29 rfl hl (by decide) rfl (fun ls hl => ?_)
    refine lv_iinc (v := (x4 + 1)) (lv' := [(4, .int (x4 + 1)), (2, .long (x3 + (v6.toInt64 * v8.toInt64))), (0, .ref q), (1, .ref q_p0)]) hx hb dFT_bitsOfAll_30 hl (k := 3) rfl rfl (by decide) rfl (fun ls hl => ?_)
    refine lv_goto (tgt := 5) hx hb dFT_bitsOfAll_33 (by decide) ?_
    exact ih2 (x3 + (v6.toInt64 * v8.toInt64)) (x4 + 1) hf _ _ _ hP hD hS (lv_sub hl [2, 3, 1, 0] rfl)
abbrev wsFF_best : List Cond := Cond.code yFF_best cFF_best 1 (some .long) :: tt
set_option maxHeartbeats 4000000 in
set_option maxRecDepth 100000 in
theorem cc_FF_best (l : Launch) (dC : Nat → ClassId) (dI : Nat → Nat → Nat) (cI cZ cL cB : ClassId) (q q_draft q_table q_tally q_finder q_row q_tally_numbers q_finder_counts q_finder_symbols q_finder_weights q_finder_groups q_finder_nodeOf q_finder_parents q_finder_depths q_table_counts q_table_symbols q_table_lengths q_table_codes : Nat) (sz : Nat) (k_tally_total : Int32) (k_finder_groupsLeft : Int32) (k_finder_nodes : Int32) (k_finder_counts : Nat → Int32) (k_tally_numbers : Nat → Int32) (k_finder_weights : Nat → Int32) (k_finder_nodeOf : Nat → Int32) (k_finder_depths : Nat → Int32) (k_finder_groups : Nat → Int32) (k_finder_parents : Nat → Int32) (k_finder_symbols : Nat → Int32) (k_table_size : Int32) (k_table_lengths : Nat → Int32) (k_table_counts : Nat → Int32) (k_table_symbols : Nat → Int32) (k_table_codes : Nat → Int32) (r : Int64) (o_finder_groupsLeft : Int32) (o_finder_nodes : Int32) (o_finder_counts : Nat → Int32) (o_finder_weights : Nat → Int32) (o_finder_nodeOf : Nat → Int32) (o_finder_depths : Nat → Int32) (o_finder_groups : Nat → Int32) (o_finder_parents : Nat → Int32) (o_finder_symbols : Nat → Int32) (o_table_size : Int32) (o_table_lengths : Nat → Int32) (o_table_counts : Nat → Int32) (o_table_symbols : Nat → Int32) (o_table_codes : Nat → Int32) (hf : f_FF_best k_tally_total k_finder_groupsLeft k_finder_nodes k_finder_counts k_tally_numbers k_finder_weights k_finder_nodeOf k_finder_depths k_finder_groups k_finder_parents k_finder_symbols k_table_size k_table_lengths k_table_counts k_table_symbols k_table_codes = some (r, o_finder_groupsLeft, o_finder_nodes, o_finder_counts, o_finder_weights, o_finder_nodeOf, o_finder_depths, o_finder_groups, o_finder_parents, o_finder_symbols, o_table_size, o_table_lengths, o_table_counts, o_table_symbols, o_table_codes)) : Met l yFF_best wsFF_best ({ frames := 4, cells := 0, slots := 0, locals := 88 }) (va_Pc [.ref q] (kz_P dC dI cI cZ cL cB sz (w_FF_best cI cZ cL cB q q_draft q_table q_tally q_finder q_row q_tally_numbers q_finder_counts q_finder_symbols q_finder_weights q_finder_groups q_finder_nodeOf q_finder_parents q_finder_depths q_table_counts q_table_symbols q_table_lengths q_table_codes k_tally_total k_finder_groupsLeft k_finder_nodes k_finder_counts k_tally_numbers k_finder_weights k_finder_nodeOf k_finder_depths k_finder_groups k_finder_parents k_finder_symbols k_table_size k_table_lengths k_table_counts k_table_symbols k_table_codes))) (va_Ql (fun (r' : Int64) (_ : Unit) => r' = r) (fun _ t => va_P (dC, dI) vwCl (w_FF_best cI cZ cL cB q q_draft q_table q_tally q_finder q_row q_tally_numbers q_finder_counts q_finder_symbols q_finder_weights q_finder_groups q_finder_nodeOf q_finder_parents q_finder_depths q_table_counts q_table_symbols q_table_lengths q_table_codes k_tally_total o_finder_groupsLeft o_finder_nodes o_finder_counts k_tally_numbers o_finder_weights o_finder_nodeOf o_finder_depths o_finder_groups o_finder_parents o_finder_symbols o_table_size o_table_lengths o_table_counts o_table_symbols o_table_codes) t.heap ∧ va_D (va_A (w_FF_best cI cZ cL cB q q_draft q_table q_tally q_finder q_row q_tally_numbers q_finder_counts q_finder_symbols q_finder_weights q_finder_groups q_finder_nodeOf q_finder_parents q_finder_depths q_table_counts q_table_symbols q_table_lengths q_table_codes k_tally_total k_finder_groupsLeft k_finder_nodes k_finder_counts k_tally_numbers k_finder_weights k_finder_nodeOf k_finder_depths k_finder_groups k_finder_parents k_finder_symbols k_table_size k_table_lengths k_table_counts k_table_symbols k_table_codes) sz) (w_FF_best cI cZ cL cB q q_draft q_table q_tally q_finder q_row q_tally_numbers q_finder_counts q_finder_symbols q_finder_weights q_finder_groups q_finder_nodeOf q_finder_parents q_finder_depths q_table_counts q_table_symbols q_table_lengths q_table_codes k_tally_total o_finder_groupsLeft o_finder_nodes o_finder_counts k_tally_numbers o_finder_weights o_finder_nodeOf o_finder_depths o_finder_groups o_finder_parents o_finder_symbols o_table_size o_table_lengths o_table_counts o_table_symbols o_table_codes)) (va_A (w_FF_best cI cZ cL cB q q_draft q_table q_tally q_finder q_row q_tally_numbers q_finder_counts q_finder_symbols q_finder_weights q_finder_groups q_finder_nodeOf q_finder_parents q_finder_depths q_table_counts q_table_symbols q_table_lengths q_table_codes k_tally_total k_finder_groupsLeft k_finder_nodes k_finder_counts k_tally_numbers k_finder_weights k_finder_nodeOf k_finder_depths k_finder_groups k_finder_parents k_finder_symbols k_table_size k_table_lengths k_table_counts k_table_symbols k_table_codes) sz)) 0 0 (va_A (w_FF_best cI cZ cL cB q q_draft q_table q_tally q_finder q_row q_tally_numbers q_finder_counts q_finder_symbols q_finder_weights q_finder_groups q_finder_nodeOf q_finder_parents q_finder_depths q_table_counts q_table_symbols q_table_lengths q_table_codes k_tally_total k_finder_groupsLeft k_finder_nodes k_finder_counts k_tally_numbers k_finder_weights k_finder_nodeOf k_finder_depths k_finder_groups k_finder_parents k_finder_symbols k_table_size k_table_lengths k_table_counts k_table_symbols k_table_codes) sz) := by
  refine Met.ofW (cc := cFF_best) (maxL := 1) (ret := (some .long)) (by decide) rfl ?_
  intro p e s m args below meth c s₁ B hml hv
  obtain ⟨rfl, hsz, hP, hZ, hD0⟩ := hv
  have hK := hZ.1
  have hx := B.exec
  have hb := B.bytes
  have hr := B.returns
  have hts : ∀ w ∈ tt, w.before _ s = true := fun w h => atoms_spec (ws := wsFF_best) B.pre w (List.mem_cons_of_mem _ h)
  have hown : s.vm.findClass RFF = some m.cls := findClass_of_methodNamed B.named
  have hlocks := B.notSynchronized
  subst hsz
  have hD := hD0.self (sz := s.heap.size)
  generalize hAe : va_A (w_FF_best cI cZ cL cB q q_draft q_table q_tally q_finder q_row q_tally_numbers q_finder_counts q_finder_symbols q_finder_weights q_finder_groups q_finder_nodeOf q_finder_parents q_finder_depths q_table_counts q_table_symbols q_table_lengths q_table_codes k_tally_total k_finder_groupsLeft k_finder_nodes k_finder_counts k_tally_numbers k_finder_weights k_finder_nodeOf k_finder_depths k_finder_groups k_finder_parents k_finder_symbols k_table_size k_table_lengths k_table_counts k_table_symbols k_table_codes) s.heap.size = A at hD ⊢
  have hA : ∀ q : Nat, s.heap.size ≤ q → A q := fun q h => by rw [← hAe]; exact Or.inr h
  have hS : va_S A s.heap s.heap [] := va_S.rf
  have hl := lv_entry [.ref q] (n := 1) (Nat.le_of_ble_eq_true rfl)
  rw [lg_entry_eq]
  generalize (lg_sl [.ref q] ++ List.replicate (1 - (lg_sl [.ref q]).length) Slot.unset).toArray = ls at hl ⊢
  have hl : lv_has ls 1 [(0, .ref q)] := hl
  unfold f_FF_best at hf
  refine lv_aload_n hx hb dFF_best_0 rfl (lv_at hl 0 rfl) ?_
  refine va_get (D := (dC, dI)) (ci := 5) (v := .ref q_finder) (C := RFF) (T := TFF) (N := 5) hx hb hts hi_FF hown hK hP 0 rfl rfl 3 (by decide) (hts _ tw_128) (fun _ h9 => h9) rfl dFF_best_1 ?_
  refine lv_aload_n hx hb dFF_best_4 rfl (lv_at hl 0 rfl) ?_
  refine va_get (D := (dC, dI)) (ci := 5) (v := .ref q_tally) (C := RFF) (T := TFF) (N := 5) hx hb hts hi_FF hown hK hP 0 rfl rfl 2 (by decide) (hts _ tw_127) (fun _ h9 => h9) rfl dFF_best_5 ?_
  refine va_get (D := (dC, dI)) (ci := 4) (v := .ref q_tally_numbers) (C := RFY) (T := TFY) (N := 2) hx hb hts hi_FY hown hK hP 1 rfl rfl 0 (by decide) (hts _ tw_82) (fun _ h9 => h9) rfl dFF_best_8 ?_
  obtain ⟨o1, o2, o3, o4, o5, o6, o7, o8, o9, h10, hf⟩ := bd9_some hf
  have hPc := hP.sub (ws' := (w_FB_find cI cZ cL cB q_finder q_finder_counts q_finder_symbols q_finder_weights q_finder_groups q_finder_nodeOf q_finder_parents q_finder_depths q_tally_numbers k_finder_groupsLeft k_finder_nodes k_finder_counts 256 k_tally_numbers k_finder_weights k_finder_nodeOf k_finder_depths k_finder_groups k_finder_parents k_finder_symbols)) [2, 3, 4, 5, 6, 7, 8, 9, 10] rfl
  have hDc := hD.sub (ws' := (w_FB_find cI cZ cL cB q_finder q_finder_counts q_finder_symbols q_finder_weights q_finder_groups q_finder_nodeOf q_finder_parents q_finder_depths q_tally_numbers k_finder_groupsLeft k_finder_nodes k_finder_counts 256 k_tally_numbers k_finder_weights k_finder_nodeOf k_finder_depths k_finder_groups k_finder_parents k_finder_symbols)) [2, 3, 4, 5, 6, 7, 8, 9, 10] (by decide) rfl
  refine ax_callv (wr := [(q, .inr (5, [.ref q_draft, .ref q_table, .ref q_tally, .ref q_finder, .ref q_row])), (q_tally, .inr (4, [.ref q_tally_numbers, .int k_tally_total])), (q_table, .inr (3, [.ref q_table_counts, .ref q_table_symbols, .ref q_table_lengths, .ref q_table_codes, .int k_table_size])), (q_table_lengths, .inl (cI, 256, .inl k_table_lengths)), (q_table_counts, .inl (cI, 17, .inl k_table_counts)), (q_table_symbols, .inl (cI, 256, .inl k_table_symbols)), (q_table_codes, .inl (cI, 256, .inl k_table_codes))]) (w2 := (w_FF_best cI cZ cL cB q q_draft q_table q_tally q_finder q_row q_tally_numbers q_finder_counts q_finder_symbols q_finder_weights q_finder_groups q_finder_nodeOf q_finder_parents q_finder_depths q_table_counts q_table_symbols q_table_lengths q_table_codes k_tally_total o1 o2 o3 k_tally_numbers o4 o5 o6 o7 o8 o9 k_table_size k_table_lengths k_table_counts k_table_symbols k_table_codes)) (va_runV (As := [.ref q_tally_numbers]) (rest := []) ⟨hx, hb, hml, hown, hts⟩ (cc_FB_find l dC dI cI cZ cL cB q_finder q_finder_counts q_finder_symbols q_finder_weights q_finder_groups q_finder_nodeOf q_finder_parents q_finder_depths q_tally_numbers s.heap.size k_finder_groupsLeft k_finder_nodes k_finder_counts 256 k_tally_numbers k_finder_weights k_finder_nodeOf k_finder_depths k_finder_groups k_finder_parents k_finder_symbols o1 o2 o3 o4 o5 o6 o7 o8 o9 h10) (cwV 1 hts (tt_V tw_198 tw_199 tw_200 tw_25 tw_201) rfl rfl rfl (by decide +kernel) ⟨Nat.le_of_ble_eq_true rfl, Nat.le_of_ble_eq_true rfl⟩) ⟨kz_fb, va_recv hK hPc (ci := 0) (q0 := 0) rfl rfl, kz_pre hPc hZ hDc⟩ rfl rfl hl.1 rfl (lv_room (Nat.le_of_ble_eq_true rfl)) dFF_best_11 ⟨Nat.zero_le _, Nat.zero_le _⟩) hP hD hS hA [2, 3, 4, 5, 6, 7, 8, 9, 10] [0, 1, 11, 12, 13, 14, 15] [0, 1, 7, 8, 9, 10, 11, 12, 13, 14, 15, 2, 3, 4, 5, 6] rfl rfl (by decide) (by decide) rfl (by decide) (fun H locs hP hD hS => ?_)
  refine lv_aload_n hx hb dFF_best_14 rfl (lv_at hl 0 rfl) ?_
  refine va_get (D := (dC, dI)) (ci := 5) (v := .ref q_table) (C := RFF) (T := TFF) (N := 5) hx hb hts hi_FF hown hK hP 0 rfl rfl 1 (by decide) (hts _ tw_126) (fun _ h9 => h9) rfl dFF_best_15 ?_
  refine lv_aload_n hx hb dFF_best_18 rfl (lv_at hl 0 rfl) ?_
  refine va_get (D := (dC, dI)) (ci := 5) (v := .ref q_finder) (C := RFF) (T := TFF) (N := 5) hx hb hts hi_FF hown hK hP 0 rfl rfl 3 (by decide) (hts _ tw_128) (fun _ h9 => h9) rfl dFF_best_19 ?_
  refine va_get (D := (dC, dI)) (ci := 0) (v := .ref q_finder_counts) (C := RFB) (T := TFB) (N := 9) hx hb hts hi_FB hown hK hP 2 rfl rfl 0 (by decide) (hts _ tw_93) (fun _ h9 => h9) rfl dFF_best_22 ?_
  refine lv_aload_n hx hb dFF_best_25 rfl (lv_at hl 0 rfl) ?_
  refine va_get (D := (dC, dI)) (ci := 5) (v := .ref q_finder) (C := RFF) (T := TFF) (N := 5) hx hb hts hi_FF hown hK hP 0 rfl rfl 3 (by decide) (hts _ tw_128) (fun _ h9 => h9) rfl dFF_best_26 ?_
  refine va_get (D := (dC, dI)) (ci := 0) (v := .ref q_finder_symbols) (C := RFB) (T := TFB) (N := 9) hx hb hts hi_FB hown hK hP 2 rfl rfl 1 (by decide) (hts _ tw_95) (fun _ h9 => h9) rfl dFF_best_29 ?_
  obtain ⟨o11, o12, o13, o14, o15, h16, hf⟩ := bd5_some hf
  have hPc := hP.sub (ws' := (w_FT_become cI cZ cL cB q_table q_table_counts q_table_symbols q_table_lengths q_table_codes q_finder_counts q_finder_symbols k_table_size k_table_lengths 257 o3 k_table_counts 256 o9 k_table_symbols k_table_codes)) [11, 12, 3, 13, 10, 14, 15] rfl
  have hDc := hD.sub (ws' := (w_FT_become cI cZ cL cB q_table q_table_counts q_table_symbols q_table_lengths q_table_codes q_finder_counts q_finder_symbols k_table_size k_table_lengths 257 o3 k_table_counts 256 o9 k_table_symbols k_table_codes)) [11, 12, 3, 13, 10, 14, 15] (by decide) rfl
  refine ax_callv (wr := [(q, .inr (5, [.ref q_draft, .ref q_table, .ref q_tally, .ref q_finder, .ref q_row])), (q_tally, .inr (4, [.ref q_tally_numbers, .int k_tally_total])), (q_finder, .inr (0, [.ref q_finder_counts, .ref q_finder_symbols, .ref q_finder_weights, .ref q_finder_groups, .int o1, .ref q_finder_nodeOf, .ref q_finder_parents, .ref q_finder_depths, .int o2])), (q_tally_numbers, .inl (cI, 256, .inl k_tally_numbers)), (q_finder_weights, .inl (cI, 257, .inl o4)), (q_finder_nodeOf, .inl (cI, 257, .inl o5)), (q_finder_depths, .inl (cI, 513, .inl o6)), (q_finder_groups, .inl (cI, 257, .inl o7)), (q_finder_parents, .inl (cI, 513, .inl o8))]) (w2 := (w_FF_best cI cZ cL cB q q_draft q_table q_tally q_finder q_row q_tally_numbers q_finder_counts q_finder_symbols q_finder_weights q_finder_groups q_finder_nodeOf q_finder_parents q_finder_depths q_table_counts q_table_symbols q_table_lengths q_table_codes k_tally_total o1 o2 o3 k_tally_numbers o4 o5 o6 o7 o8 o9 o11 o12 o13 o14 o15)) (va_runV (As := [.ref q_finder_counts, .ref q_finder_symbols]) (rest := []) ⟨hx, hb, hml, hown, hts⟩ (cc_FT_become l dC dI cI cZ cL cB q_table q_table_counts q_table_symbols q_table_lengths q_table_codes q_finder_counts q_finder_symbols H.size k_table_size k_table_lengths 257 o3 k_table_counts 256 o9 k_table_symbols k_table_codes o11 o12 o13 o14 o15 h16) (cwV 2 hts (tt_V tw_177 tw_178 tw_179 tw_23 tw_180) rfl rfl rfl (by decide +kernel) ⟨Nat.le_of_ble_eq_true rfl, Nat.le_of_ble_eq_true rfl⟩) ⟨kz_fb, va_recv hK hPc (ci := 3) (q0 := 0) rfl rfl, kz_pre hPc hZ hDc⟩ rfl rfl hl.1 rfl (lv_room (Nat.le_of_ble_eq_true rfl)) dFF_best_32 ⟨Nat.zero_le _, Nat.zero_le _⟩) hP hD hS hA [11, 12, 3, 13, 10, 14, 15] [0, 1, 2, 4, 5, 6, 7, 8, 9] [0, 1, 2, 11, 3, 4, 5, 6, 7, 8, 13, 9, 10, 12, 14, 15] rfl rfl (by decide) (by decide) rfl (by decide) (fun H locs hP hD hS => ?_)
  refine lv_aload_n hx hb dFF_best_35 rfl (lv_at hl 0 rfl) ?_
  refine va_get (D := (dC, dI)) (ci := 5) (v := .ref q_table) (C := RFF) (T := TFF) (N := 5) hx hb hts hi_FF hown hK hP 0 rfl rfl 1 (by decide) (hts _ tw_126) (fun _ h9 => h9) rfl dFF_best_36 ?_
  refine lv_aload_n hx hb dFF_best_39 rfl (lv_at hl 0 rfl) ?_
  refine va_get (D := (dC, dI)) (ci := 5) (v := .ref q_tally) (C := RFF) (T := TFF) (N := 5) hx hb hts hi_FF hown hK hP 0 rfl rfl 2 (by decide) (hts _ tw_127) (fun _ h9 => h9) rfl dFF_best_40 ?_
  refine va_get (D := (dC, dI)) (ci := 4) (v := .ref q_tally_numbers) (C := RFY) (T := TFY) (N := 2) hx hb hts hi_FY hown hK hP 1 rfl rfl 0 (by decide) (hts _ tw_82) (fun _ h9 => h9) rfl dFF_best_43 ?_
  obtain ⟨r17, h18, hf⟩ := bd1_some hf
  have hPc := hP.sub (ws' := (w_FT_bitsOfAll cI cZ cL cB q_tally_numbers q_table q_table_counts q_table_symbols q_table_lengths q_table_codes 256 k_tally_numbers o11 o12)) [4, 11, 12] rfl
  have hDc := hD.sub (ws' := (w_FT_bitsOfAll cI cZ cL cB q_tally_numbers q_table q_table_counts q_table_symbols q_table_lengths q_table_codes 256 k_tally_numbers o11 o12)) [4, 11, 12] (by decide) rfl
  refine ax_calll (wr := [(q, .inr (5, [.ref q_draft, .ref q_table, .ref q_tally, .ref q_finder, .ref q_row])), (q_tally, .inr (4, [.ref q_tally_numbers, .int k_tally_total])), (q_finder, .inr (0, [.ref q_finder_counts, .ref q_finder_symbols, .ref q_finder_weights, .ref q_finder_groups, .int o1, .ref q_finder_nodeOf, .ref q_finder_parents, .ref q_finder_depths, .int o2])), (q_finder_counts, .inl (cI, 257, .inl o3)), (q_finder_weights, .inl (cI, 257, .inl o4)), (q_finder_nodeOf, .inl (cI, 257, .inl o5)), (q_finder_depths, .inl (cI, 513, .inl o6)), (q_finder_groups, .inl (cI, 257, .inl o7)), (q_finder_parents, .inl (cI, 513, .inl o8)), (q_finder_symbols, .inl (cI, 256, .inl o9)), (q_table_counts, .inl (cI, 17, .inl o13)), (q_table_symbols, .inl (cI, 256, .inl o14)), (q_table_codes, .inl (cI, 256, .inl o15))]) (w2 := (w_FF_best cI cZ cL cB q q_draft q_table q_tally q_finder q_row q_tally_numbers q_finder_counts q_finder_symbols q_finder_weights q_finder_groups q_finder_nodeOf q_finder_parents q_finder_depths q_table_counts q_table_symbols q_table_lengths q_table_codes k_tally_total o1 o2 o3 k_tally_numbers o4 o5 o6 o7 o8 o9 o11 o12 o13 o14 o15)) (va_runV (As := [.ref q_tally_numbers]) (rest := []) ⟨hx, hb, hml, hown, hts⟩ (cc_FT_bitsOfAll l dC dI cI cZ cL cB q_tally_numbers q_table q_table_counts q_table_symbols q_table_lengths q_table_codes H.size 256 k_tally_numbers o11 o12 r17 h18) (cwV 1 hts (tt_V tw_235 tw_236 tw_237 tw_23 tw_238) rfl rfl rfl (by decide +kernel) ⟨Nat.le_of_ble_eq_true rfl, Nat.le_of_ble_eq_true rfl⟩) ⟨kz_fb, va_recv hK hPc (ci := 3) (q0 := 1) rfl rfl, kz_pre hPc hZ hDc⟩ rfl rfl hl.1 rfl (lv_room (Nat.le_of_ble_eq_true rfl)) dFF_best_46 ⟨Nat.zero_le _, Nat.zero_le _⟩) hP hD hS hA [4, 11, 12] [0, 1, 2, 3, 5, 6, 7, 8, 9, 10, 13, 14, 15] [0, 1, 2, 3, 13, 4, 5, 6, 7, 8, 9, 14, 15, 10, 11, 12] rfl rfl (by decide) (by decide) rfl (by decide) (fun H locs hP hD hS => ?_)
  cases hf
  exact ax_lret hx hb hr hP hD hS dFF_best_49 hlocks
abbrev wsFT_hasWord : List Cond := Cond.code yFT_hasWord cFT_hasWord 2 (some .boolean) :: tt
set_option maxHeartbeats 4000000 in
set_option maxRecDepth 100000 in
theorem cc_FT_hasWord (l : Launch) (dC : Nat → ClassId) (dI : Nat → Nat → Nat) (cI cZ cL cB : ClassId) (q q_counts q_symbols q_lengths q_codes : Nat) (sz : Nat) (k_size : Int32) (k_lengths : Nat → Int32) (a_0 : Int32) (r : Int32) (hf : f_FT_hasWord k_size k_lengths a_0 = some r) : Met l yFT_hasWord wsFT_hasWord ({ frames := 1, cells := 0, slots := 0, locals := 20 }) (va_Pc [.ref q, .int a_0] (kz_P dC dI cI cZ cL cB sz (w_FT_hasWord cI cZ cL cB q q_counts q_symbols q_lengths q_codes k_size k_lengths))) (va_Qi (fun (r' : Int32) (_ : Unit) => r' = r) (fun _ t => va_P (dC, dI) vwCl (w_FT_hasWord cI cZ cL cB q q_counts q_symbols q_lengths q_codes k_size k_lengths) t.heap ∧ va_D (va_A (w_FT_hasWord cI cZ cL cB q q_counts q_symbols q_lengths q_codes k_size k_lengths) sz) (w_FT_hasWord cI cZ cL cB q q_counts q_symbols q_lengths q_codes k_size k_lengths)) (va_A (w_FT_hasWord cI cZ cL cB q q_counts q_symbols q_lengths q_codes k_size k_lengths) sz)) 0 0 (va_A (w_FT_hasWord cI cZ cL cB q q_counts q_symbols q_lengths q_codes k_size k_lengths) sz) := by
  refine Met.ofW (cc := cFT_hasWord) (maxL := 2) (ret := (some .boolean)) (by decide) rfl ?_
  intro p e s m args below meth c s₁ B hml hv
  obtain ⟨rfl, hsz, hP, hZ, hD0⟩ := hv
  have hK := hZ.1
  have hx := B.exec
  have hb := B.bytes
  have hr := B.returns
  have hts : ∀ w ∈ tt, w.before _ s = true := fun w h => atoms_spec (ws := wsFT_hasWord) B.pre w (List.mem_cons_of_mem _ h)
  have hown : s.vm.findClass RFT = some m.cls := findClass_of_methodNamed B.named
  have hlocks := B.notSynchronized
  subst hsz
  have hD := hD0.self (sz := s.heap.size)
  generalize hAe : va_A (w_FT_hasWord cI cZ cL cB q q_counts q_symbols q_lengths q_codes k_size k_lengths) s.heap.size = A at hD ⊢
  have hA : ∀ q : Nat, s.heap.size ≤ q → A q := fun q h => by rw [← hAe]; exact Or.inr h
  have hS : va_S A s.heap s.heap [] := va_S.rf
  have hl := lv_entry [.ref q, .int a_0] (n := 2) (Nat.le_of_ble_eq_true rfl)
  rw [lg_entry_eq]
  generalize (lg_sl [.ref q, .int a_0] ++ List.replicate (2 - (lg_sl [.ref q, .int a_0]).length) Slot.unset).toArray = ls at hl ⊢
  have hl : lv_has ls 2 [(0, .ref q), (1, .int a_0)] := hl
  unfold f_FT_hasWord at hf
  refine lv_iload_n hx hb dFT_hasWord_0 rfl (lv_at hl 1 rfl) ?_
  obtain ⟨r1, h2, hf⟩ := bd1_some hf
  have hPc := hP.sub (ws' := (w_FF_isSymbol cI cZ cL cB )) [] rfl
  have hDc := hD.sub (ws' := (w_FF_isSymbol cI cZ cL cB )) [] (by decide) rfl
  refine ax_calli (wr := [(q, .inr (3, [.ref q_counts, .ref q_symbols, .ref q_lengths, .ref q_codes, .int k_size])), (q_lengths, .inl (cI, 256, .inl k_lengths))]) (w2 := (w_FT_hasWord cI cZ cL cB q q_counts q_symbols q_lengths q_codes k_size k_lengths)) (va_runSN (As := [.int a_0]) (rest := []) ⟨hx, hb, hml, hown, hts⟩ (cc_FF_isSymbol l dC dI cI cZ cL cB  s.heap.size a_0 r1 h2) ⟨va_cnB 1 hts (tt_c tw_148) rfl rfl rfl (nz_6 hZ.2) (hts _ tw_21) (by decide +kernel) ⟨Nat.le_of_ble_eq_true rfl, Nat.le_of_ble_eq_true rfl⟩, hts _ tw_147, trivial⟩ ⟨kz_fb, kz_pre hPc hZ hDc⟩ rfl rfl hl.1 rfl (lv_room (Nat.le_of_ble_eq_true rfl)) dFT_hasWord_1 ⟨Nat.zero_le _, Nat.zero_le _⟩) hP hD hS hA [] [0, 1] [0, 1] rfl rfl (by decide) (by decide) rfl (by decide) (fun H locs hP hD hS => ?_)
  refine lv_if_eq (tgt := 20) hx hb dFT_hasWord_4 (by decide) (fun c_3 => ?_) (fun c_3 => ?_)
  · have hf := ifT hf c_3
    refine lv_iconst (v := 0) hx hb dFT_hasWord_20 (by decide) ?_
    cases hf
    exact ax_zret hx hb hr rfl hP hD hS dFT_hasWord_21 hlocks
  · have hf := ifF hf c_3
    refine lv_aload_n hx hb dFT_hasWord_7 rfl (lv_at hl 0 rfl) ?_
    refine va_get (D := (dC, dI)) (ci := 3) (v := .ref q_lengths) (C := RFT) (T := TFT) (N := 5) hx hb hts hi_FT hown hK hP 0 rfl rfl 2 (by decide) (hts _ tw_65) (fun _ h9 => h9) rfl dFT_hasWord_8 ?_
    refine lv_iload_n hx hb dFT_hasWord_11 rfl (lv_at hl 1 rfl) ?_
    obtain ⟨v4, ev4, h5, hf⟩ := rd_some hf
    refine ax_iald hx hb hK hP 1 0 rfl rfl h5 ev4 dFT_hasWord_12 ?_
    refine lv_if_le (tgt := 20) hx hb dFT_hasWord_13 (by decide) (fun c_6 => ?_) (fun c_6 => ?_)
    · have hf := ifT hf c_6
      refine lv_iconst (v := 0) hx hb dFT_hasWord_20 (by decide) ?_
      cases hf
      exact ax_zret hx hb hr rfl hP hD hS dFT_hasWord_21 hlocks
    · have hf := ifF hf c_6
      refine lv_iconst (v := 1) hx hb dFT_hasWord_16 (by decide) ?_
      refine lv_goto (tgt := 21) hx hb dFT_hasWord_17 (by decide) ?_
      cases hf
      exact ax_zret hx hb hr rfl hP hD hS dFT_hasWord_21 hlocks
abbrev wsFF_length : List Cond := Cond.code yFF_length cFF_length 2 (some .int) :: tt
set_option maxHeartbeats 4000000 in
set_option maxRecDepth 100000 in
theorem cc_FF_length (l : Launch) (dC : Nat → ClassId) (dI : Nat → Nat → Nat) (cI cZ cL cB : ClassId) (q q_draft q_table q_tally q_finder q_row q_table_counts q_table_symbols q_table_lengths q_table_codes : Nat) (sz : Nat) (k_table_size : Int32) (k_table_lengths : Nat → Int32) (a_0 : Int32) (r : Int32) (hf : f_FF_length k_table_size k_table_lengths a_0 = some r) : Met l yFF_length wsFF_length ({ frames := 2, cells := 0, slots := 0, locals := 41 }) (va_Pc [.ref q, .int a_0] (kz_P dC dI cI cZ cL cB sz (w_FF_length cI cZ cL cB q q_draft q_table q_tally q_finder q_row q_table_counts q_table_symbols q_table_lengths q_table_codes k_table_size k_table_lengths))) (va_Qi (fun (r' : Int32) (_ : Unit) => r' = r) (fun _ t => va_P (dC, dI) vwCl (w_FF_length cI cZ cL cB q q_draft q_table q_tally q_finder q_row q_table_counts q_table_symbols q_table_lengths q_table_codes k_table_size k_table_lengths) t.heap ∧ va_D (va_A (w_FF_length cI cZ cL cB q q_draft q_table q_tally q_finder q_row q_table_counts q_table_symbols q_table_lengths q_table_codes k_table_size k_table_lengths) sz) (w_FF_length cI cZ cL cB q q_draft q_table q_tally q_finder q_row q_table_counts q_table_symbols q_table_lengths q_table_codes k_table_size k_table_lengths)) (va_A (w_FF_length cI cZ cL cB q q_draft q_table q_tally q_finder q_row q_table_counts q_table_symbols q_table_lengths q_table_codes k_table_size k_table_lengths) sz)) 0 0 (va_A (w_FF_length cI cZ cL cB q q_draft q_table q_tally q_finder q_row q_table_counts q_table_symbols q_table_lengths q_table_codes k_table_size k_table_lengths) sz) := by
  refine Met.ofW (cc := cFF_length) (maxL := 2) (ret := (some .int)) (by decide) rfl ?_
  intro p e s m args below meth c s₁ B hml hv
  obtain ⟨rfl, hsz, hP, hZ, hD0⟩ := hv
  have hK := hZ.1
  have hx := B.exec
  have hb := B.bytes
  have hr := B.returns
  have hts : ∀ w ∈ tt, w.before _ s = true := fun w h => atoms_spec (ws := wsFF_length) B.pre w (List.mem_cons_of_mem _ h)
  have hown : s.vm.findClass RFF = some m.cls := findClass_of_methodNamed B.named
  have hlocks := B.notSynchronized
  subst hsz
  have hD := hD0.self (sz := s.heap.size)
  generalize hAe : va_A (w_FF_length cI cZ cL cB q q_draft q_table q_tally q_finder q_row q_table_counts q_table_symbols q_table_lengths q_table_codes k_table_size k_table_lengths) s.heap.size = A at hD ⊢
  have hA : ∀ q : Nat, s.heap.size ≤ q → A q := fun q h => by rw [← hAe]; exact Or.inr h
  have hS : va_S A s.heap s.heap [] := va_S.rf
  have hl := lv_entry [.ref q, .int a_0] (n := 2) (Nat.le_of_ble_eq_true rfl)
  rw [lg_entry_eq]
  generalize (lg_sl [.ref q, .int a_0] ++ List.replicate (2 - (lg_sl [.ref q, .int a_0]).length) Slot.unset).toArray = ls at hl ⊢
  have hl : lv_has ls 2 [(0, .ref q), (1, .int a_0)] := hl
  unfold f_FF_length at hf
  refine lv_aload_n hx hb dFF_length_0 rfl (lv_at hl 0 rfl) ?_
  refine va_get (D := (dC, dI)) (ci := 5) (v := .ref q_table) (C := RFF) (T := TFF) (N := 5) hx hb hts hi_FF hown hK hP 0 rfl rfl 1 (by decide) (hts _ tw_126) (fun _ h9 => h9) rfl dFF_length_1 ?_
  refine lv_iload_n hx hb dFF_length_4 rfl (lv_at hl 1 rfl) ?_
  obtain ⟨r1, h2, hf⟩ := bd1_some hf
  have hPc := hP.sub (ws' := (w_FT_hasWord cI cZ cL cB q_table q_table_counts q_table_symbols q_table_lengths q_table_codes k_table_size k_table_lengths)) [1, 2] rfl
  have hDc := hD.sub (ws' := (w_FT_hasWord cI cZ cL cB q_table q_table_counts q_table_symbols q_table_lengths q_table_codes k_table_size k_table_lengths)) [1, 2] (by decide) rfl
  refine ax_calli (wr := [(q, .inr (5, [.ref q_draft, .ref q_table, .ref q_tally, .ref q_finder, .ref q_row]))]) (w2 := (w_FF_length cI cZ cL cB q q_draft q_table q_tally q_finder q_row q_table_counts q_table_symbols q_table_lengths q_table_codes k_table_size k_table_lengths)) (va_runV (As := [.int a_0]) (rest := []) ⟨hx, hb, hml, hown, hts⟩ (cc_FT_hasWord l dC dI cI cZ cL cB q_table q_table_counts q_table_symbols q_table_lengths q_table_codes s.heap.size k_table_size k_table_lengths a_0 r1 h2) (cwV 1 hts (tt_V tw_243 tw_244 tw_245 tw_23 tw_246) rfl rfl rfl (by decide +kernel) ⟨Nat.le_of_ble_eq_true rfl, Nat.le_of_ble_eq_true rfl⟩) ⟨kz_fb, va_recv hK hPc (ci := 3) (q0 := 0) rfl rfl, kz_pre hPc hZ hDc⟩ rfl rfl hl.1 rfl (lv_room (Nat.le_of_ble_eq_true rfl)) dFF_length_5 ⟨Nat.zero_le _, Nat.zero_le _⟩) hP hD hS hA [1, 2] [0] [0, 1, 2] rfl rfl (by decide) (by decide) rfl (by decide) (fun H locs hP hD hS => ?_)
  refine lv_if_eq (tgt := 23) hx hb dFF_length_8 (by decide) (fun c_3 => ?_) (fun c_3 => ?_)
  · have hf := ifT hf c_3
    refine lv_iconst (v := 0) hx hb dFF_length_23 (by decide) ?_
    cases hf
    exact ax_iret hx hb hr hP hD hS dFF_length_24 hlocks
  · have hf := ifF hf c_3
    refine lv_aload_n hx hb dFF_length_11 rfl (lv_at hl 0 rfl) ?_
    refine va_get (D := (dC, dI)) (ci := 5) (v := .ref q_table) (C := RFF) (T := TFF) (N := 5) hx hb hts hi_FF hown hK hP 0 rfl rfl 1 (by decide) (hts _ tw_126) (fun _ h9 => h9) rfl dFF_length_12 ?_
    refine va_get (D := (dC, dI)) (ci := 3) (v := .ref q_table_lengths) (C := RFT) (T := TFT) (N := 5) hx hb hts hi_FT hown hK hP 1 rfl rfl 2 (by decide) (hts _ tw_66) (fun _ h9 => h9) rfl dFF_length_15 ?_
    refine lv_iload_n hx hb dFF_length_18 rfl (lv_at hl 1 rfl) ?_
    obtain ⟨v4, ev4, h5, hf⟩ := rd_some hf
    refine ax_iald hx hb hK hP 2 0 rfl rfl h5 ev4 dFF_length_19 ?_
    refine lv_goto (tgt := 24) hx hb dFF_length_20 (by decide) ?_
    cases hf
    exact ax_iret hx hb hr hP hD hS dFF_length_24 hlocks
abbrev wsFF_code : List Cond := Cond.code yFF_code cFF_code 2 (some .int) :: tt
set_option maxHeartbeats 4000000 in
set_option maxRecDepth 100000 in
theorem cc_FF_code (l : Launch) (dC : Nat → ClassId) (dI : Nat → Nat → Nat) (cI cZ cL cB : ClassId) (q q_draft q_table q_tally q_finder q_row q_table_counts q_table_symbols q_table_lengths q_table_codes : Nat) (sz : Nat) (k_table_size : Int32) (k_table_lengths : Nat → Int32) (k_table_codes : Nat → Int32) (a_0 : Int32) (r : Int32) (hf : f_FF_code k_table_size k_table_lengths k_table_codes a_0 = some r) : Met l yFF_code wsFF_code ({ frames := 2, cells := 0, slots := 0, locals := 41 }) (va_Pc [.ref q, .int a_0] (kz_P dC dI cI cZ cL cB sz (w_FF_code cI cZ cL cB q q_draft q_table q_tally q_finder q_row q_table_counts q_table_symbols q_table_lengths q_table_codes k_table_size k_table_lengths k_table_codes))) (va_Qi (fun (r' : Int32) (_ : Unit) => r' = r) (fun _ t => va_P (dC, dI) vwCl (w_FF_code cI cZ cL cB q q_draft q_table q_tally q_finder q_row q_table_counts q_table_symbols q_table_lengths q_table_codes k_table_size k_table_lengths k_table_codes) t.heap ∧ va_D (va_A (w_FF_code cI cZ cL cB q q_draft q_table q_tally q_finder q_row q_table_counts q_table_symbols q_table_lengths q_table_codes k_table_size k_table_lengths k_table_codes) sz) (w_FF_code cI cZ cL cB q q_draft q_table q_tally q_finder q_row q_table_counts q_table_symbols q_table_lengths q_table_codes k_table_size k_table_lengths k_table_codes)) (va_A (w_FF_code cI cZ cL cB q q_draft q_table q_tally q_finder q_row q_table_counts q_table_symbols q_table_lengths q_table_codes k_table_size k_table_lengths k_table_codes) sz)) 0 0 (va_A (w_FF_code cI cZ cL cB q q_draft q_table q_tally q_finder q_row q_table_counts q_table_symbols q_table_lengths q_table_codes k_table_size k_table_lengths k_table_codes) sz) := by
  refine Met.ofW (cc := cFF_code) (maxL := 2) (ret := (some .int)) (by decide) rfl ?_
  intro p e s m args below meth c s₁ B hml hv
  obtain ⟨rfl, hsz, hP, hZ, hD0⟩ := hv
  have hK := hZ.1
  have hx := B.exec
  have hb := B.bytes
  have hr := B.returns
  have hts : ∀ w ∈ tt, w.before _ s = true := fun w h => atoms_spec (ws := wsFF_code) B.pre w (List.mem_cons_of_mem _ h)
  have hown : s.vm.findClass RFF = some m.cls := findClass_of_methodNamed B.named
  have hlocks := B.notSynchronized
  subst hsz
  have hD := hD0.self (sz := s.heap.size)
  generalize hAe : va_A (w_FF_code cI cZ cL cB q q_draft q_table q_tally q_finder q_row q_table_counts q_table_symbols q_table_lengths q_table_codes k_table_size k_table_lengths k_table_codes) s.heap.size = A at hD ⊢
  have hA : ∀ q : Nat, s.heap.size ≤ q → A q := fun q h => by rw [← hAe]; exact Or.inr h
  have hS : va_S A s.heap s.heap [] := va_S.rf
  have hl := lv_entry [.ref q, .int a_0] (n := 2) (Nat.le_of_ble_eq_true rfl)
  rw [lg_entry_eq]
  generalize (lg_sl [.ref q, .int a_0] ++ List.replicate (2 - (lg_sl [.ref q, .int a_0]).length) Slot.unset).toArray = ls at hl ⊢
  have hl : lv_has ls 2 [(0, .ref q), (1, .int a_0)] := hl
  unfold f_FF_code at hf
  refine lv_aload_n hx hb dFF_code_0 rfl (lv_at hl 0 rfl) ?_
  refine va_get (D := (dC, dI)) (ci := 5) (v := .ref q_table) (C := RFF) (T := TFF) (N := 5) hx hb hts hi_FF hown hK hP 0 rfl rfl 1 (by decide) (hts _ tw_126) (fun _ h9 => h9) rfl dFF_code_1 ?_
  refine lv_iload_n hx hb dFF_code_4 rfl (lv_at hl 1 rfl) ?_
  obtain ⟨r1, h2, hf⟩ := bd1_some hf
  have hPc := hP.sub (ws' := (w_FT_hasWord cI cZ cL cB q_table q_table_counts q_table_symbols q_table_lengths q_table_codes k_table_size k_table_lengths)) [1, 2] rfl
  have hDc := hD.sub (ws' := (w_FT_hasWord cI cZ cL cB q_table q_table_counts q_table_symbols q_table_lengths q_table_codes k_table_size k_table_lengths)) [1, 2] (by decide) rfl
  refine ax_calli (wr := [(q, .inr (5, [.ref q_draft, .ref q_table, .ref q_tally, .ref q_finder, .ref q_row])), (q_table_codes, .inl (cI, 256, .inl k_table_codes))]) (w2 := (w_FF_code cI cZ cL cB q q_draft q_table q_tally q_finder q_row q_table_counts q_table_symbols q_table_lengths q_table_codes k_table_size k_table_lengths k_table_codes)) (va_runV (As := [.int a_0]) (rest := []) ⟨hx, hb, hml, hown, hts⟩ (cc_FT_hasWord l dC dI cI cZ cL cB q_table q_table_counts q_table_symbols q_table_lengths q_table_codes s.heap.size k_table_size k_table_lengths a_0 r1 h2) (cwV 1 hts (tt_V tw_243 tw_244 tw_245 tw_23 tw_246) rfl rfl rfl (by decide +kernel) ⟨Nat.le_of_ble_eq_true rfl, Nat.le_of_ble_eq_true rfl⟩) ⟨kz_fb, va_recv hK hPc (ci := 3) (q0 := 0) rfl rfl, kz_pre hPc hZ hDc⟩ rfl rfl hl.1 rfl (lv_room (Nat.le_of_ble_eq_true rfl)) dFF_code_5 ⟨Nat.zero_le _, Nat.zero_le _⟩) hP hD hS hA [1, 2] [0, 3] [0, 2, 3, 1] rfl rfl (by decide) (by decide) rfl (by decide) (fun H locs hP hD hS => ?_)
  refine lv_if_eq (tgt := 23) hx hb dFF_code_8 (by decide) (fun c_3 => ?_) (fun c_3 => ?_)
  · have hf := ifT hf c_3
    refine lv_iconst (v := (-1)) hx hb dFF_code_23 (by decide) ?_
    cases hf
    exact ax_iret hx hb hr hP hD hS dFF_code_24 hlocks
  · have hf := ifF hf c_3
    refine lv_aload_n hx hb dFF_code_11 rfl (lv_at hl 0 rfl) ?_
    refine va_get (D := (dC, dI)) (ci := 5) (v := .ref q_table) (C := RFF) (T := TFF) (N := 5) hx hb hts hi_FF hown hK hP 0 rfl rfl 1 (by decide) (hts _ tw_126) (fun _ h9 => h9) rfl dFF_code_12 ?_
    refine va_get (D := (dC, dI)) (ci := 3) (v := .ref q_table_codes) (C := RFT) (T := TFT) (N := 5) hx hb hts hi_FT hown hK hP 1 rfl rfl 3 (by decide) (hts _ tw_68) (fun _ h9 => h9) rfl dFF_code_15 ?_
    refine lv_iload_n hx hb dFF_code_18 rfl (lv_at hl 1 rfl) ?_
    obtain ⟨v4, ev4, h5, hf⟩ := rd_some hf
    refine ax_iald hx hb hK hP 3 0 rfl rfl h5 ev4 dFF_code_19 ?_
    refine lv_goto (tgt := 24) hx hb dFF_code_20 (by decide) ?_
    cases hf
    exact ax_iret hx hb hr hP hD hS dFF_code_24 hlocks
abbrev wsFF_of : List Cond := Cond.code yFF_of cFF_of 3 (some .int) :: tt
set_option maxHeartbeats 4000000 in
set_option maxRecDepth 100000 in
theorem cc_FF_of (l : Launch) (dC : Nat → ClassId) (dI : Nat → Nat → Nat) (cI cZ cL cB : ClassId) (q q_draft q_table q_tally q_finder q_row q_table_counts q_table_symbols q_table_lengths q_table_codes : Nat) (sz : Nat) (k_table_size : Int32) (k_table_symbols : Nat → Int32) (k_table_counts : Nat → Int32) (a_0 : Int32) (a_1 : Int32) (r : Int32) (hf : f_FF_of k_table_size k_table_symbols k_table_counts a_0 a_1 = some r) : Met l yFF_of wsFF_of ({ frames := 1, cells := 0, slots := 0, locals := 20 }) (va_Pc [.ref q, .int a_0, .int a_1] (kz_P dC dI cI cZ cL cB sz (w_FF_of cI cZ cL cB q q_draft q_table q_tally q_finder q_row q_table_counts q_table_symbols q_table_lengths q_table_codes k_table_size k_table_symbols k_table_counts))) (va_Qi (fun (r' : Int32) (_ : Unit) => r' = r) (fun _ t => va_P (dC, dI) vwCl (w_FF_of cI cZ cL cB q q_draft q_table q_tally q_finder q_row q_table_counts q_table_symbols q_table_lengths q_table_codes k_table_size k_table_symbols k_table_counts) t.heap ∧ va_D (va_A (w_FF_of cI cZ cL cB q q_draft q_table q_tally q_finder q_row q_table_counts q_table_symbols q_table_lengths q_table_codes k_table_size k_table_symbols k_table_counts) sz) (w_FF_of cI cZ cL cB q q_draft q_table q_tally q_finder q_row q_table_counts q_table_symbols q_table_lengths q_table_codes k_table_size k_table_symbols k_table_counts)) (va_A (w_FF_of cI cZ cL cB q q_draft q_table q_tally q_finder q_row q_table_counts q_table_symbols q_table_lengths q_table_codes k_table_size k_table_symbols k_table_counts) sz)) 0 0 (va_A (w_FF_of cI cZ cL cB q q_draft q_table q_tally q_finder q_row q_table_counts q_table_symbols q_table_lengths q_table_codes k_table_size k_table_symbols k_table_counts) sz) := by
  refine Met.ofW (cc := cFF_of) (maxL := 3) (ret := (some .int)) (by decide) rfl ?_
  intro p e s m args below meth c s₁ B hml hv
  obtain ⟨rfl, hsz, hP, hZ, hD0⟩ := hv
  have hK := hZ.1
  have hx := B.exec
  have hb := B.bytes
  have hr := B.returns
  have hts : ∀ w ∈ tt, w.before _ s = true := fun w h => atoms_spec (ws := wsFF_of) B.pre w (List.mem_cons_of_mem _ h)
  have hown : s.vm.findClass RFF = some m.cls := findClass_of_methodNamed B.named
  have hlocks := B.notSynchronized
  subst hsz
  have hD := hD0.self (sz := s.heap.size)
  generalize hAe : va_A (w_FF_of cI cZ cL cB q q_draft q_table q_tally q_finder q_row q_table_counts q_table_symbols q_table_lengths q_table_codes k_table_size k_table_symbols k_table_counts) s.heap.size = A at hD ⊢
  have hA : ∀ q : Nat, s.heap.size ≤ q → A q := fun q h => by rw [← hAe]; exact Or.inr h
  have hS : va_S A s.heap s.heap [] := va_S.rf
  have hl := lv_entry [.ref q, .int a_0, .int a_1] (n := 3) (Nat.le_of_ble_eq_true rfl)
  rw [lg_entry_eq]
  generalize (lg_sl [.ref q, .int a_0, .int a_1] ++ List.replicate (3 - (lg_sl [.ref q, .int a_0, .int a_1]).length) Slot.unset).toArray = ls at hl ⊢
  have hl : lv_has ls 3 [(0, .ref q), (1, .int a_0), (2, .int a_1)] := hl
  unfold f_FF_of at hf
  refine lv_iload_n hx hb dFF_of_0 rfl (lv_at hl 1 rfl) ?_
  refine lv_if_ne (tgt := 21) hx hb dFF_of_1 (by decide) (fun c_1 => ?_) (fun c_1 => ?_)
  · have hf := ifF hf c_1
    refine lv_iload_n hx hb dFF_of_21 rfl (lv_at hl 1 rfl) ?_
    refine lv_iconst (v := 1) hx hb dFF_of_22 (by decide) ?_
    refine lv_icmp_ne (tgt := 51) hx hb dFF_of_23 (by decide) (fun c_2 => ?_) (fun c_2 => ?_)
    · have hf := ifF hf c_2
      refine lv_iconst (v := (-1)) hx hb dFF_of_51 (by decide) ?_
      cases hf
      exact ax_iret hx hb hr hP hD hS dFF_of_52 hlocks
    · have hf := ifT hf c_2
      refine lv_iload_n hx hb dFF_of_26 rfl (lv_at hl 2 rfl) ?_
      refine lv_if_lt (tgt := 51) hx hb dFF_of_27 (by decide) (fun c_3 => ?_) (fun c_3 => ?_)
      · have hf := ifT hf c_3
        refine lv_iconst (v := (-1)) hx hb dFF_of_51 (by decide) ?_
        cases hf
        exact ax_iret hx hb hr hP hD hS dFF_of_52 hlocks
      · have hf := ifF hf c_3
        refine lv_iload_n hx hb dFF_of_30 rfl (lv_at hl 2 rfl) ?_
        refine lv_aload_n hx hb dFF_of_31 rfl (lv_at hl 0 rfl) ?_
        refine va_get (D := (dC, dI)) (ci := 5) (v := .ref q_table) (C := RFF) (T := TFF) (N := 5) hx hb hts hi_FF hown hK hP 0 rfl rfl 1 (by decide) (hts _ tw_126) (fun _ h9 => h9) rfl dFF_of_32 ?_
        refine va_get (D := (dC, dI)) (ci := 3) (v := .int k_table_size) (C := RFT) (T := TFT) (N := 5) hx hb hts hi_FT hown hK hP 1 rfl rfl 4 (by decide) (hts _ tw_70) (fun _ h9 => h9) rfl dFF_of_35 ?_
        refine lv_icmp_ge (tgt := 51) hx hb dFF_of_38 (by decide) (fun c_4 => ?_) (fun c_4 => ?_)
        · have hf := ifT hf c_4
          refine lv_iconst (v := (-1)) hx hb dFF_of_51 (by decide) ?_
          cases hf
          exact ax_iret hx hb hr hP hD hS dFF_of_52 hlocks
        · have hf := ifF hf c_4
          refine lv_aload_n hx hb dFF_of_41 rfl (lv_at hl 0 rfl) ?_
          refine va_get (D := (dC, dI)) (ci := 5) (v := .ref q_table) (C := RFF) (T := TFF) (N := 5) hx hb hts hi_FF hown hK hP 0 rfl rfl 1 (by decide) (hts _ tw_126) (fun _ h9 => h9) rfl dFF_of_42 ?_
          refine va_get (D := (dC, dI)) (ci := 3) (v := .ref q_table_symbols) (C := RFT) (T := TFT) (N := 5) hx hb hts hi_FT hown hK hP 1 rfl rfl 1 (by decide) (hts _ tw_64) (fun _ h9 => h9) rfl dFF_of_45 ?_
          refine lv_iload_n hx hb dFF_of_48 rfl (lv_at hl 2 rfl) ?_
          obtain ⟨v5, ev5, h6, hf⟩ := rd_some hf
          refine ax_iald hx hb hK hP 2 0 rfl rfl h6 ev5 dFF_of_49 ?_
          cases hf
          exact ax_iret hx hb hr hP hD hS dFF_of_50 hlocks
  · have hf := ifT hf c_1
    refine lv_iload_n hx hb dFF_of_4 rfl (lv_at hl 2 rfl) ?_
    obtain ⟨r7, h8, hf⟩ := bd1_some hf
    have hPc := hP.sub (ws' := (w_FF_isWordLength cI cZ cL cB )) [] rfl
    have hDc := hD.sub (ws' := (w_FF_isWordLength cI cZ cL cB )) [] (by decide) rfl
    refine ax_calli (wr := [(q, .inr (5, [.ref q_draft, .ref q_table, .ref q_tally, .ref q_finder, .ref q_row])), (q_table, .inr (3, [.ref q_table_counts, .ref q_table_symbols, .ref q_table_lengths, .ref q_table_codes, .int k_table_size])), (q_table_symbols, .inl (cI, 256, .inl k_table_symbols)), (q_table_counts, .inl (cI, 17, .inl k_table_counts))]) (w2 := (w_FF_of cI cZ cL cB q q_draft q_table q_tally q_finder q_row q_table_counts q_table_symbols q_table_lengths q_table_codes k_table_size k_table_symbols k_table_counts)) (va_runS (As := [.int a_1]) (rest := []) ⟨hx, hb, hml, hown, hts⟩ (cc_FF_isWordLength l dC dI cI cZ cL cB  s.heap.size a_1 r7 h8) (va_cwS 1 hts (tt_S tw_139 tw_140 tw_21 tw_141) rfl rfl rfl (by decide +kernel) ⟨Nat.le_of_ble_eq_true rfl, Nat.le_of_ble_eq_true rfl⟩) ⟨kz_fb, kz_pre hPc hZ hDc⟩ rfl rfl hl.1 rfl (lv_room (Nat.le_of_ble_eq_true rfl)) dFF_of_5 ⟨Nat.zero_le _, Nat.zero_le _⟩) hP hD hS hA [] [0, 1, 2, 3] [0, 1, 2, 3] rfl rfl (by decide) (by decide) rfl (by decide) (fun H locs hP hD hS => ?_)
    refine lv_if_eq (tgt := 21) hx hb dFF_of_8 (by decide) (fun c_9 => ?_) (fun c_9 => ?_)
    · have hf := ifT hf c_9
      refine lv_iload_n hx hb dFF_of_21 rfl (lv_at hl 1 rfl) ?_
      refine lv_iconst (v := 1) hx hb dFF_of_22 (by decide) ?_
      refine lv_icmp_ne (tgt := 51) hx hb dFF_of_23 (by decide) (fun c_10 => ?_) (fun c_10 => ?_)
      · have hf := ifF hf c_10
        refine lv_iconst (v := (-1)) hx hb dFF_of_51 (by decide) ?_
        cases hf
        exact ax_iret hx hb hr hP hD hS dFF_of_52 hlocks
      · have hf := ifT hf c_10
        refine lv_iload_n hx hb dFF_of_26 rfl (lv_at hl 2 rfl) ?_
        refine lv_if_lt (tgt := 51) hx hb dFF_of_27 (by decide) (fun c_11 => ?_) (fun c_11 => ?_)
        · have hf := ifT hf c_11
          refine lv_iconst (v := (-1)) hx hb dFF_of_51 (by decide) ?_
          cases hf
          exact ax_iret hx hb hr hP hD hS dFF_of_52 hlocks
        · have hf := ifF hf c_11
          refine lv_iload_n hx hb dFF_of_30 rfl (lv_at hl 2 rfl) ?_
          refine lv_aload_n hx hb dFF_of_31 rfl (lv_at hl 0 rfl) ?_
          refine va_get (D := (dC, dI)) (ci := 5) (v := .ref q_table) (C := RFF) (T := TFF) (N := 5) hx hb hts hi_FF hown hK hP 0 rfl rfl 1 (by decide) (hts _ tw_126) (fun _ h9 => h9) rfl dFF_of_32 ?_
          refine va_get (D := (dC, dI)) (ci := 3) (v := .int k_table_size) (C := RFT) (T := TFT) (N := 5) hx hb hts hi_FT hown hK hP 1 rfl rfl 4 (by decide) (hts _ tw_70) (fun _ h9 => h9) rfl dFF_of_35 ?_
          refine lv_icmp_ge (tgt := 51) hx hb dFF_of_38 (by decide) (fun c_12 => ?_) (fun c_12 => ?_)
          · have hf := ifT hf c_12
            refine lv_iconst (v := (-1)) hx hb dFF_of_51 (by decide) ?_
            cases hf
            exact ax_iret hx hb hr hP hD hS dFF_of_52 hlocks
          · have hf := ifF hf c_12
            refine lv_aload_n hx hb dFF_of_41 rfl (lv_at hl 0 rfl) ?_
            refine va_get (D := (dC, dI)) (ci := 5) (v := .ref q_table) (C := RFF) (T := TFF) (N := 5) hx hb hts hi_FF hown hK hP 0 rfl rfl 1 (by decide) (hts _ tw_126) (fun _ h9 => h9) rfl dFF_of_42 ?_
            refine va_get (D := (dC, dI)) (ci := 3) (v := .ref q_table_symbols) (C := RFT) (T := TFT) (N := 5) hx hb hts hi_FT hown hK hP 1 rfl rfl 1 (by decide) (hts _ tw_64) (fun _ h9 => h9) rfl dFF_of_45 ?_
            refine lv_iload_n hx hb dFF_of_48 rfl (lv_at hl 2 rfl) ?_
            obtain ⟨v13, ev13, h14, hf⟩ := rd_some hf
            refine ax_iald hx hb hK hP 2 0 rfl rfl h14 ev13 dFF_of_49 ?_
            cases hf
            exact ax_iret hx hb hr hP hD hS dFF_of_50 hlocks
    · have hf := ifF hf c_9
      refine lv_aload_n hx hb dFF_of_11 rfl (lv_at hl 0 rfl) ?_
      refine va_get (D := (dC, dI)) (ci := 5) (v := .ref q_table) (C := RFF) (T := TFF) (N := 5) hx hb hts hi_FF hown hK hP 0 rfl rfl 1 (by decide) (hts _ tw_126) (fun _ h9 => h9) rfl dFF_of_12 ?_
      refine va_get (D := (dC, dI)) (ci := 3) (v := .ref q_table_counts) (C := RFT) (T := TFT) (N := 5) hx hb hts hi_FT hown hK hP 1 rfl rfl 0 (by decide) (hts _ tw_62) (fun _ h9 => h9) rfl dFF_of_15 ?_
      refine lv_iload_n hx hb dFF_of_18 rfl (lv_at hl 2 rfl) ?_
      obtain ⟨v15, ev15, h16, hf⟩ := rd_some hf
      refine ax_iald hx hb hK hP 3 0 rfl rfl h16 ev15 dFF_of_19 ?_
      cases hf
      exact ax_iret hx hb hr hP hD hS dFF_of_20 hlocks
abbrev wsFR_left : List Cond := Cond.code yFR_left cFR_left 1 (some .int) :: tt
set_option maxHeartbeats 4000000 in
set_option maxRecDepth 100000 in
theorem cc_FR_left (l : Launch) (dC : Nat → ClassId) (dI : Nat → Nat → Nat) (cI cZ cL cB : ClassId) (q q_cells : Nat) (sz : Nat) (k_size : Int32) (k_place : Int32) (r : Int32) (hf : f_FR_left k_size k_place = some r) : Met l yFR_left wsFR_left ({ frames := 0, cells := 0, slots := 0, locals := 0 }) (va_Pc [.ref q] (kz_P dC dI cI cZ cL cB sz (w_FR_left cI cZ cL cB q q_cells k_size k_place))) (va_Qi (fun (r' : Int32) (_ : Unit) => r' = r) (fun _ t => va_P (dC, dI) vwCl (w_FR_left cI cZ cL cB q q_cells k_size k_place) t.heap ∧ va_D (va_A (w_FR_left cI cZ cL cB q q_cells k_size k_place) sz) (w_FR_left cI cZ cL cB q q_cells k_size k_place)) (va_A (w_FR_left cI cZ cL cB q q_cells k_size k_place) sz)) 0 0 (va_A (w_FR_left cI cZ cL cB q q_cells k_size k_place) sz) := by
  refine Met.ofW (cc := cFR_left) (maxL := 1) (ret := (some .int)) (by decide) rfl ?_
  intro p e s m args below meth c s₁ B hml hv
  obtain ⟨rfl, hsz, hP, hZ, hD0⟩ := hv
  have hK := hZ.1
  have hx := B.exec
  have hb := B.bytes
  have hr := B.returns
  have hts : ∀ w ∈ tt, w.before _ s = true := fun w h => atoms_spec (ws := wsFR_left) B.pre w (List.mem_cons_of_mem _ h)
  have hown : s.vm.findClass RFR = some m.cls := findClass_of_methodNamed B.named
  have hlocks := B.notSynchronized
  subst hsz
  have hD := hD0.self (sz := s.heap.size)
  generalize hAe : va_A (w_FR_left cI cZ cL cB q q_cells k_size k_place) s.heap.size = A at hD ⊢
  have hA : ∀ q : Nat, s.heap.size ≤ q → A q := fun q h => by rw [← hAe]; exact Or.inr h
  have hS : va_S A s.heap s.heap [] := va_S.rf
  have hl := lv_entry [.ref q] (n := 1) (Nat.le_of_ble_eq_true rfl)
  rw [lg_entry_eq]
  generalize (lg_sl [.ref q] ++ List.replicate (1 - (lg_sl [.ref q]).length) Slot.unset).toArray = ls at hl ⊢
  have hl : lv_has ls 1 [(0, .ref q)] := hl
  unfold f_FR_left at hf
  refine lv_aload_n hx hb dFR_left_0 rfl (lv_at hl 0 rfl) ?_
  refine va_get (D := (dC, dI)) (ci := 1) (v := .int k_size) (C := RFR) (T := TFR) (N := 3) hx hb hts hi_FR hown hK hP 0 rfl rfl 1 (by decide) (hts _ tw_118) (fun _ h9 => h9) rfl dFR_left_1 ?_
  refine lv_aload_n hx hb dFR_left_4 rfl (lv_at hl 0 rfl) ?_
  refine va_get (D := (dC, dI)) (ci := 1) (v := .int k_place) (C := RFR) (T := TFR) (N := 3) hx hb hts hi_FR hown hK hP 0 rfl rfl 2 (by decide) (hts _ tw_120) (fun _ h9 => h9) rfl dFR_left_5 ?_
  refine lv_isub hx hb dFR_left_8 ?_
  cases hf
  exact ax_iret hx hb hr hP hD hS dFR_left_9 hlocks
abbrev wsFR_ahead : List Cond := Cond.code yFR_ahead cFR_ahead 4 (some .int) :: tt
set_option maxHeartbeats 4000000 in
set_option maxRecDepth 100000 in
theorem cc_FR_ahead (l : Launch) (dC : Nat → ClassId) (dI : Nat → Nat → Nat) (cI cZ cL cB : ClassId) (q q_cells : Nat) (sz : Nat) (k_size : Int32) (k_place : Int32) (k_cells : Nat → Int32) (a_0 : Int32) (r : Int32) (hf : f_FR_ahead k_size k_place k_cells a_0 = some r) : Met l yFR_ahead wsFR_ahead ({ frames := 0, cells := 0, slots := 0, locals := 0 }) (va_Pc [.ref q, .int a_0] (kz_P dC dI cI cZ cL cB sz (w_FR_ahead cI cZ cL cB q q_cells k_size k_place k_cells))) (va_Qi (fun (r' : Int32) (_ : Unit) => r' = r) (fun _ t => va_P (dC, dI) vwCl (w_FR_ahead cI cZ cL cB q q_cells k_size k_place k_cells) t.heap ∧ va_D (va_A (w_FR_ahead cI cZ cL cB q q_cells k_size k_place k_cells) sz) (w_FR_ahead cI cZ cL cB q q_cells k_size k_place k_cells)) (va_A (w_FR_ahead cI cZ cL cB q q_cells k_size k_place k_cells) sz)) 0 0 (va_A (w_FR_ahead cI cZ cL cB q q_cells k_size k_place k_cells) sz) := by
  refine Met.ofW (cc := cFR_ahead) (maxL := 4) (ret := (some .int)) (by decide) rfl ?_
  intro p e s m args below meth c s₁ B hml hv
  obtain ⟨rfl, hsz, hP, hZ, hD0⟩ := hv
  have hK := hZ.1
  have hx := B.exec
  have hb := B.bytes
  have hr := B.returns
  have hts : ∀ w ∈ tt, w.before _ s = true := fun w h => atoms_spec (ws := wsFR_ahead) B.pre w (List.mem_cons_of_mem _ h)
  have hown : s.vm.findClass RFR = some m.cls := findClass_of_methodNamed B.named
  have hlocks := B.notSynchronized
  subst hsz
  have hD := hD0.self (sz := s.heap.size)
  generalize hAe : va_A (w_FR_ahead cI cZ cL cB q q_cells k_size k_place k_cells) s.heap.size = A at hD ⊢
  have hA : ∀ q : Nat, s.heap.size ≤ q → A q := fun q h => by rw [← hAe]; exact Or.inr h
  have hS : va_S A s.heap s.heap [] := va_S.rf
  have hl := lv_entry [.ref q, .int a_0] (n := 4) (Nat.le_of_ble_eq_true rfl)
  rw [lg_entry_eq]
  generalize (lg_sl [.ref q, .int a_0] ++ List.replicate (4 - (lg_sl [.ref q, .int a_0]).length) Slot.unset).toArray = ls at hl ⊢
  have hl : lv_has ls 4 [(0, .ref q), (1, .int a_0)] := hl
  unfold f_FR_ahead at hf
  refine lv_iconst (v := 0) hx hb dFR_ahead_0 (by decide) ?_
  refine lv_istore_n (lv' := [(2, .int 0), (0, .ref q), (1, .int a_0)]) hx hb dFR_ahead_1 rfl hl (by decide) rfl (fun ls hl => ?_)
  refine lv_aload_n hx hb dFR_ahead_2 rfl (lv_at hl 1 rfl) ?_
  refine va_get (D := (dC, dI)) (ci := 1) (v := .int k_place) (C := RFR) (T := TFR) (N := 3) hx hb hts hi_FR hown hK hP 0 rfl rfl 2 (by decide) (hts _ tw_120) (fun _ h9 => h9) rfl dFR_ahead_3 ?_
  refine lv_istore_n (lv' := [(3, .int k_place), (2, .int 0), (0, .ref q), (1, .int a_0)]) hx hb dFR_ahead_6 rfl hl (by decide) rfl (fun ls hl => ?_)
  refine Lp2_W (P := fun (x3 : Int32) (x4 : Int32) => ∀ (H : Heap) (locs : List Loc) (ls : Array Slot), va_P (dC, dI) vwCl (w_FR_ahead cI cZ cL cB q q_cells k_size k_place k_cells) H → va_D A (w_FR_ahead cI cZ cL cB q q_cells k_size k_place k_cells) → va_S A s.heap H locs → lv_has ls 4 [(0, .ref q), (1, .int a_0), (2, .int x3), (3, .int x4)] → W p l e _ s m _ below meth c H locs 0 0 _ (F0 m 7 ls [])) ?_ _ _ _ hf _ _ _ hP hD hS (lv_sub hl [2, 3, 1, 0] rfl)
  clear hf hP hD hS hl
  intro ag1 ih2 x3 x4 hf H locs ls hP hD hS hl
  refine lv_iload_n hx hb dFR_ahead_7 rfl (lv_at hl 3 rfl) ?_
  refine lv_aload_n hx hb dFR_ahead_8 rfl (lv_at hl 0 rfl) ?_
  refine va_get (D := (dC, dI)) (ci := 1) (v := .int k_place) (C := RFR) (T := TFR) (N := 3) hx hb hts hi_FR hown hK hP 0 rfl rfl 2 (by decide) (hts _ tw_120) (fun _ h9 => h9) rfl dFR_ahead_9 ?_
  refine lv_iload_n hx hb dFR_ahead_12 rfl (lv_at hl 1 rfl) ?_
  refine lv_iadd hx hb dFR_ahead_13 ?_
  refine lv_icmp_ge (tgt := 44) hx hb dFR_ahead_14 (by decide) (fun c_5 => ?_) (fun c_5 => ?_)
  · have hf := ifT hf c_5
    refine lv_iload_n hx hb dFR_ahead_44 rfl (lv_at hl 2 rfl) ?_
    cases hf
    exact ax_iret hx hb hr hP hD hS dFR_ahead_45 hlocks
  · have hf := ifF hf c_5
    refine lv_iconst (v := 2) hx hb dFR_ahead_17 (by decide) ?_
    refine lv_iload_n hx hb dFR_ahead_18 rfl (lv_at hl 2 rfl) ?_
    refine lv_imul hx hb dFR_ahead_19 ?_
    refine lv_aload_n hx hb dFR_ahead_20 rfl (lv_at hl 0 rfl) ?_
    refine va_get (D := (dC, dI)) (ci := 1) (v := .ref q_cells) (C := RFR) (T := TFR) (N := 3) hx hb hts hi_FR hown hK hP 0 rfl rfl 0 (by decide) (hts _ tw_117) (fun _ h9 => h9) rfl dFR_ahead_21 ?_
    refine lv_iload_n hx hb dFR_ahead_24 rfl (lv_at hl 3 rfl) ?_
    refine lv_bipush (v := 32) hx hb dFR_ahead_25 (by decide) ?_
    refine lv_idiv hx hb dFR_ahead_27 (by decide) ?_
    obtain ⟨v6, ev6, h7, hf⟩ := rd_some hf
    refine ax_iald hx hb hK hP 1 0 rfl rfl h7 ev6 dFR_ahead_28 ?_
    refine lv_iload_n hx hb dFR_ahead_29 rfl (lv_at hl 3 rfl) ?_
    refine lv_bipush (v := 32) hx hb dFR_ahead_30 (by decide) ?_
    refine lv_irem hx hb dFR_ahead_32 (by decide) ?_
    refine lv_iushr (v := (v6.toUInt32 >>> ((x4 - x4 / 32 * 32).toUInt32 &&& Int32.toUInt32 31)).toInt32) hx hb dFR_ahead_33 rfl ?_
    refine lv_iconst (v := 1) hx hb dFR_ahead_34 (by decide) ?_
    refine lv_iand hx hb dFR_ahead_35 ?_
    refine lv_iadd hx hb dFR_ahead_36 ?_
    refine lv_istore_n (lv' := [(2, .int ((2 * x3) + ((v6.toUInt32 >>> ((x4 - x4 / 32 * 32).toUInt32 &&& Int32.toUInt32 31)).toInt32 &&& 1))), (0, .ref q), (1, .int a_0), (3, .int x4)]) hx hb dFR_ahead_37 rfl hl (by decide) rfl (fun ls hl => ?_)
    refine lv_iinc (v := (x4 + 1)) (lv' := [(3, .int (x4 + 1)), (2, .int ((2 * x3) + ((v6.toUInt32 >>> ((x4 - x4 / 32 * 32).toUInt32 &&& Int32.toUInt32 31)).toInt32 &&& 1))), (0, .ref q), (1, .int a_0)]) hx hb dFR_ahead_38 hl (k := 3) rfl rfl (by decide) rfl (fun ls hl => ?_)
    refine lv_goto (tgt := 7) hx hb dFR_ahead_41 (by decide) ?_
    exact ih2 ((2 * x3) + ((v6.toUInt32 >>> ((x4 - x4 / 32 * 32).toUInt32 &&& Int32.toUInt32 31)).toInt32 &&& 1)) (x4 + 1) hf _ _ _ hP hD hS (lv_sub hl [2, 3, 1, 0] rfl)
abbrev wsFT_symbolAhead : List Cond := Cond.code yFT_symbolAhead cFT_symbolAhead 7 (some .int) :: tt
set_option maxHeartbeats 4000000 in
set_option maxRecDepth 100000 in
theorem cc_FT_symbolAhead (l : Launch) (dC : Nat → ClassId) (dI : Nat → Nat → Nat) (cI cZ cL cB : ClassId) (q q_counts q_symbols q_lengths q_codes : Nat) (sz : Nat) (k_size : Int32) (k_symbols : Nat → Int32) (k_lengths : Nat → Int32) (k_codes : Nat → Int32) (a_0 : Int32) (a_1 : Int32) (r : Int32) (hf : f_FT_symbolAhead k_size k_symbols k_lengths k_codes a_0 a_1 = some r) : Met l yFT_symbolAhead wsFT_symbolAhead ({ frames := 0, cells := 0, slots := 0, locals := 0 }) (va_Pc [.ref q, .int a_0, .int a_1] (kz_P dC dI cI cZ cL cB sz (w_FT_symbolAhead cI cZ cL cB q q_counts q_symbols q_lengths q_codes k_size k_symbols k_lengths k_codes))) (va_Qi (fun (r' : Int32) (_ : Unit) => r' = r) (fun _ t => va_P (dC, dI) vwCl (w_FT_symbolAhead cI cZ cL cB q q_counts q_symbols q_lengths q_codes k_size k_symbols k_lengths k_codes) t.heap ∧ va_D (va_A (w_FT_symbolAhead cI cZ cL cB q q_counts q_symbols q_lengths q_codes k_size k_symbols k_lengths k_codes) sz) (w_FT_symbolAhead cI cZ cL cB q q_counts q_symbols q_lengths q_codes k_size k_symbols k_lengths k_codes)) (va_A (w_FT_symbolAhead cI cZ cL cB q q_counts q_symbols q_lengths q_codes k_size k_symbols k_lengths k_codes) sz)) 0 0 (va_A (w_FT_symbolAhead cI cZ cL cB q q_counts q_symbols q_lengths q_codes k_size k_symbols k_lengths k_codes) sz) := by
  refine Met.ofW (cc := cFT_symbolAhead) (maxL := 7) (ret := (some .int)) (by decide) rfl ?_
  intro p e s m args below meth c s₁ B hml hv
  obtain ⟨rfl, hsz, hP, hZ, hD0⟩ := hv
  have hK := hZ.1
  have hx := B.exec
  have hb := B.bytes
  have hr := B.returns
  have hts : ∀ w ∈ tt, w.before _ s = true := fun w h => atoms_spec (ws := wsFT_symbolAhead) B.pre w (List.mem_cons_of_mem _ h)
  have hown : s.vm.findClass RFT = some m.cls := findClass_of_methodNamed B.named
  have hlocks := B.notSynchronized
  subst hsz
  have hD := hD0.self (sz := s.heap.size)
  generalize hAe : va_A (w_FT_symbolAhead cI cZ cL cB q q_counts q_symbols q_lengths q_codes k_size k_symbols k_lengths k_codes) s.heap.size = A at hD ⊢
  have hA : ∀ q : Nat, s.heap.size ≤ q → A q := fun q h => by rw [← hAe]; exact Or.inr h
  have hS : va_S A s.heap s.heap [] := va_S.rf
  have hl := lv_entry [.ref q, .int a_0, .int a_1] (n := 7) (Nat.le_of_ble_eq_true rfl)
  rw [lg_entry_eq]
  generalize (lg_sl [.ref q, .int a_0, .int a_1] ++ List.replicate (7 - (lg_sl [.ref q, .int a_0, .int a_1]).length) Slot.unset).toArray = ls at hl ⊢
  have hl : lv_has ls 7 [(0, .ref q), (1, .int a_0), (2, .int a_1)] := hl
  unfold f_FT_symbolAhead at hf
  refine lv_iconst (v := 0) hx hb dFT_symbolAhead_0 (by decide) ?_
  refine lv_istore_n (lv' := [(3, .int 0), (0, .ref q), (1, .int a_0), (2, .int a_1)]) hx hb dFT_symbolAhead_1 rfl hl (by decide) rfl (fun ls hl => ?_)
  refine lv_iconst (v := 0) hx hb dFT_symbolAhead_2 (by decide) ?_
  refine lv_istore (lv' := [(4, .int 0), (3, .int 0), (0, .ref q), (1, .int a_0), (2, .int a_1)]) hx hb dFT_symbolAhead_3 hl (by decide) rfl (fun ls hl => ?_)
  refine Lp2_W (P := fun (x3 : Int32) (x4 : Int32) => ∀ (H : Heap) (locs : List Loc) (ls : Array Slot), va_P (dC, dI) vwCl (w_FT_symbolAhead cI cZ cL cB q q_counts q_symbols q_lengths q_codes k_size k_symbols k_lengths k_codes) H → va_D A (w_FT_symbolAhead cI cZ cL cB q q_counts q_symbols q_lengths q_codes k_size k_symbols k_lengths k_codes) → va_S A s.heap H locs → lv_has ls 7 [(0, .ref q), (1, .int a_0), (2, .int a_1), (3, .int x3), (4, .int x4)] → W p l e _ s m _ below meth c H locs 0 0 _ (F0 m 5 ls [])) ?_ _ _ _ hf _ _ _ hP hD hS (lv_sub hl [2, 3, 4, 1, 0] rfl)
  clear hf hP hD hS hl
  intro ag1 ih2 x3 x4 hf H locs ls hP hD hS hl
  refine lv_iload hx hb dFT_symbolAhead_5 (lv_at hl 4 rfl) ?_
  refine lv_aload_n hx hb dFT_symbolAhead_7 rfl (lv_at hl 0 rfl) ?_
  refine va_get (D := (dC, dI)) (ci := 3) (v := .int k_size) (C := RFT) (T := TFT) (N := 5) hx hb hts hi_FT hown hK hP 0 rfl rfl 4 (by decide) (hts _ tw_69) (fun _ h9 => h9) rfl dFT_symbolAhead_8 ?_
  refine lv_icmp_ge (tgt := 90) hx hb dFT_symbolAhead_11 (by decide) (fun c_5 => ?_) (fun c_5 => ?_)
  · have hf := ifT hf c_5
    refine lv_iload_n hx hb dFT_symbolAhead_90 rfl (lv_at hl 3 rfl) ?_
    refine lv_if_eq (tgt := 98) hx hb dFT_symbolAhead_91 (by decide) (fun c_6 => ?_) (fun c_6 => ?_)
    · have hf := ifT hf c_6
      refine lv_bipush (v := (-2)) hx hb dFT_symbolAhead_98 (by decide) ?_
      cases hf
      exact ax_iret hx hb hr hP hD hS dFT_symbolAhead_100 hlocks
    · have hf := ifF hf c_6
      refine lv_iconst (v := (-1)) hx hb dFT_symbolAhead_94 (by decide) ?_
      refine lv_goto (tgt := 100) hx hb dFT_symbolAhead_95 (by decide) ?_
      cases hf
      exact ax_iret hx hb hr hP hD hS dFT_symbolAhead_100 hlocks
  · have hf := ifF hf c_5
    refine lv_aload_n hx hb dFT_symbolAhead_14 rfl (lv_at hl 0 rfl) ?_
    refine va_get (D := (dC, dI)) (ci := 3) (v := .ref q_symbols) (C := RFT) (T := TFT) (N := 5) hx hb hts hi_FT hown hK hP 0 rfl rfl 1 (by decide) (hts _ tw_63) (fun _ h9 => h9) rfl dFT_symbolAhead_15 ?_
    refine lv_iload hx hb dFT_symbolAhead_18 (lv_at hl 4 rfl) ?_
    obtain ⟨v7, ev7, h8, hf⟩ := rd_some hf
    refine ax_iald hx hb hK hP 1 0 rfl rfl h8 ev7 dFT_symbolAhead_20 ?_
    refine lv_istore (lv' := [(5, .int v7), (0, .ref q), (1, .int a_0), (2, .int a_1), (3, .int x3), (4, .int x4)]) hx hb dFT_symbolAhead_21 hl (by decide) rfl (fun ls hl => ?_)
    refine lv_aload_n hx hb dFT_symbolAhead_23 rfl (lv_at hl 1 rfl) ?_
    refine va_get (D := (dC, dI)) (ci := 3) (v := .ref q_lengths) (C := RFT) (T := TFT) (N := 5) hx hb hts hi_FT hown hK hP 0 rfl rfl 2 (by decide) (hts _ tw_65) (fun _ h9 => h9) rfl dFT_symbolAhead_24 ?_
    refine lv_iload hx hb dFT_symbolAhead_27 (lv_at hl 0 rfl) ?_
    obtain ⟨v9, ev9, h10, hf⟩ := rd_some hf
    refine ax_iald hx hb hK hP 2 0 rfl rfl h10 ev9 dFT_symbolAhead_29 ?_
    refine lv_iload_n hx hb dFT_symbolAhead_30 rfl (lv_at hl 3 rfl) ?_
    refine lv_isub hx hb dFT_symbolAhead_31 ?_
    refine lv_istore (lv' := [(6, .int (v9 - a_1)), (5, .int v7), (0, .ref q), (1, .int a_0), (2, .int a_1), (3, .int x3), (4, .int x4)]) hx hb dFT_symbolAhead_32 hl (by decide) rfl (fun ls hl => ?_)
    refine lv_iload hx hb dFT_symbolAhead_34 (lv_at hl 0 rfl) ?_
    refine lv_if_le (tgt := 66) hx hb dFT_symbolAhead_36 (by decide) (fun c_11 => ?_) (fun c_11 => ?_)
    · have hf := ifT hf c_11
      refine lv_iload_n hx hb dFT_symbolAhead_66 rfl (lv_at hl 3 rfl) ?_
      refine lv_iload hx hb dFT_symbolAhead_67 (lv_at hl 0 rfl) ?_
      refine lv_ineg hx hb dFT_symbolAhead_69 ?_
      refine lv_ishr hx hb dFT_symbolAhead_70 ?_
      refine lv_aload_n hx hb dFT_symbolAhead_71 rfl (lv_at hl 2 rfl) ?_
      refine va_get (D := (dC, dI)) (ci := 3) (v := .ref q_codes) (C := RFT) (T := TFT) (N := 5) hx hb hts hi_FT hown hK hP 0 rfl rfl 3 (by decide) (hts _ tw_67) (fun _ h9 => h9) rfl dFT_symbolAhead_72 ?_
      refine lv_iload hx hb dFT_symbolAhead_75 (lv_at hl 1 rfl) ?_
      obtain ⟨v12, ev12, h13, hf⟩ := rd_some hf
      refine ax_iald hx hb hK hP 3 0 rfl rfl h13 ev12 dFT_symbolAhead_77 ?_
      refine lv_icmp_ne (tgt := 84) hx hb dFT_symbolAhead_78 (by decide) (fun c_14 => ?_) (fun c_14 => ?_)
      · have hf := ifF hf c_14
        refine lv_iinc (v := (x4 + 1)) (lv' := [(4, .int (x4 + 1)), (6, .int (v9 - a_1)), (5, .int v7), (0, .ref q), (1, .int a_0), (2, .int a_1), (3, .int x3)]) hx hb dFT_symbolAhead_84 hl (k := 6) rfl rfl (by decide) rfl (fun ls hl => ?_)
        refine lv_goto (tgt := 5) hx hb dFT_symbolAhead_87 (by decide) ?_
        exact ih2 x3 (x4 + 1) hf _ _ _ hP hD hS (lv_sub hl [3, 4, 5, 6, 0] rfl)
      · have hf := ifT hf c_14
        refine lv_iload hx hb dFT_symbolAhead_81 (lv_at hl 1 rfl) ?_
        cases hf
        exact ax_iret hx hb hr hP hD hS dFT_symbolAhead_83 hlocks
    · have hf := ifF hf c_11
      refine lv_iload_n hx hb dFT_symbolAhead_39 rfl (lv_at hl 5 rfl) ?_
      refine lv_if_ne (tgt := 57) hx hb dFT_symbolAhead_40 (by decide) (fun c_15 => ?_) (fun c_15 => ?_)
      · have hf := ifF hf c_15
        refine lv_iconst (v := 1) hx hb dFT_symbolAhead_57 (by decide) ?_
        refine lv_goto (tgt := 62) hx hb dFT_symbolAhead_58 (by decide) ?_
        refine lv_istore_n (lv' := [(3, .int 1), (6, .int (v9 - a_1)), (5, .int v7), (0, .ref q), (1, .int a_0), (2, .int a_1), (4, .int x4)]) hx hb dFT_symbolAhead_62 rfl hl (by decide) rfl (fun ls hl => ?_)
        refine lv_goto (tgt := 84) hx hb dFT_symbolAhead_63 (by decide) ?_
        refine lv_iinc (v := (x4 + 1)) (lv' := [(4, .int (x4 + 1)), (3, .int 1), (6, .int (v9 - a_1)), (5, .int v7), (0, .ref q), (1, .int a_0), (2, .int a_1)]) hx hb dFT_symbolAhead_84 hl (k := 6) rfl rfl (by decide) rfl (fun ls hl => ?_)
        refine lv_goto (tgt := 5) hx hb dFT_symbolAhead_87 (by decide) ?_
        exact ih2 1 (x4 + 1) hf _ _ _ hP hD hS (lv_sub hl [4, 5, 6, 1, 0] rfl)
      · have hf := ifT hf c_15
        refine lv_aload_n hx hb dFT_symbolAhead_43 rfl (lv_at hl 2 rfl) ?_
        refine va_get (D := (dC, dI)) (ci := 3) (v := .ref q_codes) (C := RFT) (T := TFT) (N := 5) hx hb hts hi_FT hown hK hP 0 rfl rfl 3 (by decide) (hts _ tw_67) (fun _ h9 => h9) rfl dFT_symbolAhead_44 ?_
        refine lv_iload hx hb dFT_symbolAhead_47 (lv_at hl 1 rfl) ?_
        obtain ⟨v16, ev16, h17, hf⟩ := rd_some hf
        refine ax_iald hx hb hK hP 3 0 rfl rfl h17 ev16 dFT_symbolAhead_49 ?_
        refine lv_iload hx hb dFT_symbolAhead_50 (lv_at hl 0 rfl) ?_
        refine lv_ishr hx hb dFT_symbolAhead_52 ?_
        refine lv_iload_n hx hb dFT_symbolAhead_53 rfl (lv_at hl 3 rfl) ?_
        refine lv_icmp_ne (tgt := 61) hx hb dFT_symbolAhead_54 (by decide) (fun c_18 => ?_) (fun c_18 => ?_)
        · have hf := ifF hf c_18
          refine lv_iconst (v := 0) hx hb dFT_symbolAhead_61 (by decide) ?_
          refine lv_istore_n (lv' := [(3, .int 0), (6, .int (v9 - a_1)), (5, .int v7), (0, .ref q), (1, .int a_0), (2, .int a_1), (4, .int x4)]) hx hb dFT_symbolAhead_62 rfl hl (by decide) rfl (fun ls hl => ?_)
          refine lv_goto (tgt := 84) hx hb dFT_symbolAhead_63 (by decide) ?_
          refine lv_iinc (v := (x4 + 1)) (lv' := [(4, .int (x4 + 1)), (3, .int 0), (6, .int (v9 - a_1)), (5, .int v7), (0, .ref q), (1, .int a_0), (2, .int a_1)]) hx hb dFT_symbolAhead_84 hl (k := 6) rfl rfl (by decide) rfl (fun ls hl => ?_)
          refine lv_goto (tgt := 5) hx hb dFT_symbolAhead_87 (by decide) ?_
          exact ih2 0 (x4 + 1) hf _ _ _ hP hD hS (lv_sub hl [4, 5, 6, 1, 0] rfl)
        · have hf := ifT hf c_18
          refine lv_iconst (v := 1) hx hb dFT_symbolAhead_57 (by decide) ?_
          refine lv_goto (tgt := 62) hx hb dFT_symbolAhead_58 (by decide) ?_
          refine lv_istore_n (lv' := [(3, .int 1), (6, .int (v9 - a_1)), (5, .int v7), (0, .ref q), (1, .int a_0), (2, .int a_1), (4, .int x4)]) hx hb dFT_symbolAhead_62 rfl hl (by decide) rfl (fun ls hl => ?_)
          refine lv_goto (tgt := 84) hx hb dFT_symbolAhead_63 (by decide) ?_
          refine lv_iinc (v := (x4 + 1)) (lv' := [(4, .int (x4 + 1)), (3, .int 1), (6, .int (v9 - a_1)), (5, .int v7), (0, .ref q), (1, .int a_0), (2, .int a_1)]) hx hb dFT_symbolAhead_84 hl (k := 6) rfl rfl (by decide) rfl (fun ls hl => ?_)
          refine lv_goto (tgt := 5) hx hb dFT_symbolAhead_87 (by decide) ?_
          exact ih2 1 (x4 + 1) hf _ _ _ hP hD hS (lv_sub hl [4, 5, 6, 1, 0] rfl)
