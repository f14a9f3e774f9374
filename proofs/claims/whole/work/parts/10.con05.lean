abbrev wsFF_get : List Cond := Cond.code yFF_get cFF_get 3 (some .int) :: tt
set_option maxHeartbeats 4000000 in
set_option maxRecDepth 100000 in
theorem cc_FF_get (l : Launch) (dC : Nat → ClassId) (dI : Nat → Nat → Nat) (cI cZ cL cB : ClassId) (q q_draft q_table q_tally q_finder q_row q_row_cells q_table_counts q_table_symbols q_table_lengths q_table_codes : Nat) (sz : Nat) (k_row_size : Int32) (k_row_place : Int32) (k_row_cells : Nat → Int32) (k_table_size : Int32) (k_table_symbols : Nat → Int32) (k_table_lengths : Nat → Int32) (k_table_codes : Nat → Int32) (r : Int32) (o_row_place : Int32) (hf : f_FF_get k_row_size k_row_place k_row_cells k_table_size k_table_symbols k_table_lengths k_table_codes = some (r, o_row_place)) : Met l yFF_get wsFF_get ({ frames := 1, cells := 0, slots := 0, locals := 26 }) (va_Pc [.ref q] (kz_P dC dI cI cZ cL cB sz (w_FF_get cI cZ cL cB q q_draft q_table q_tally q_finder q_row q_row_cells q_table_counts q_table_symbols q_table_lengths q_table_codes k_row_size k_row_place k_row_cells k_table_size k_table_symbols k_table_lengths k_table_codes))) (va_Qi (fun (r' : Int32) (_ : Unit) => r' = r) (fun _ t => va_P (dC, dI) vwCl (w_FF_get cI cZ cL cB q q_draft q_table q_tally q_finder q_row q_row_cells q_table_counts q_table_symbols q_table_lengths q_table_codes k_row_size o_row_place k_row_cells k_table_size k_table_symbols k_table_lengths k_table_codes) t.heap ∧ va_D (va_A (w_FF_get cI cZ cL cB q q_draft q_table q_tally q_finder q_row q_row_cells q_table_counts q_table_symbols q_table_lengths q_table_codes k_row_size k_row_place k_row_cells k_table_size k_table_symbols k_table_lengths k_table_codes) sz) (w_FF_get cI cZ cL cB q q_draft q_table q_tally q_finder q_row q_row_cells q_table_counts q_table_symbols q_table_lengths q_table_codes k_row_size o_row_place k_row_cells k_table_size k_table_symbols k_table_lengths k_table_codes)) (va_A (w_FF_get cI cZ cL cB q q_draft q_table q_tally q_finder q_row q_row_cells q_table_counts q_table_symbols q_table_lengths q_table_codes k_row_size k_row_place k_row_cells k_table_size k_table_symbols k_table_lengths k_table_codes) sz)) 0 0 (va_A (w_FF_get cI cZ cL cB q q_draft q_table q_tally q_finder q_row q_row_cells q_table_counts q_table_symbols q_table_lengths q_table_codes k_row_size k_row_place k_row_cells k_table_size k_table_symbols k_table_lengths k_table_codes) sz) := by
  refine Met.ofW (cc := cFF_get) (maxL := 3) (ret := (some .int)) (by decide) rfl ?_
  intro p e s m args below meth c s₁ B hml hv
  obtain ⟨rfl, hsz, hP, hZ, hD0⟩ := hv
  have hK := hZ.1
  have hx := B.exec
  have hb := B.bytes
  have hr := B.returns
  have hts : ∀ w ∈ tt, w.before _ s = true := fun w h => atoms_spec (ws := wsFF_get) B.pre w (List.mem_cons_of_mem _ h)
  have hown : s.vm.findClass RFF = some m.cls := findClass_of_methodNamed B.named
  have hlocks := B.notSynchronized
  subst hsz
  have hD := hD0.self (sz := s.heap.size)
  generalize hAe : va_A (w_FF_get cI cZ cL cB q q_draft q_table q_tally q_finder q_row q_row_cells q_table_counts q_table_symbols q_table_lengths q_table_codes k_row_size k_row_place k_row_cells k_table_size k_table_symbols k_table_lengths k_table_codes) s.heap.size = A at hD ⊢
  have hA : ∀ q : Nat, s.heap.size ≤ q → A q := fun q h => by rw [← hAe]; exact Or.inr h
  have hS : va_S A s.heap s.heap [] := va_S.rf
  have hl := lv_entry [.ref q] (n := 3) (Nat.le_of_ble_eq_true rfl)
  rw [lg_entry_eq]
  generalize (lg_sl [.ref q] ++ List.replicate (3 - (lg_sl [.ref q]).length) Slot.unset).toArray = ls at hl ⊢
  have hl : lv_has ls 3 [(0, .ref q)] := hl
  unfold f_FF_get at hf
  refine lv_aload_n hx hb dFF_get_0 rfl (lv_at hl 0 rfl) ?_
  refine va_get (D := (dC, dI)) (ci := 5) (v := .ref q_row) (C := RFF) (T := TFF) (N := 5) hx hb hts hi_FF hown hK hP 0 rfl rfl 4 (by decide) (hts _ tw_129) (fun _ h9 => h9) rfl dFF_get_1 ?_
  obtain ⟨r1, h2, hf⟩ := bd1_some hf
  have hPc := hP.sub (ws' := (w_FR_left cI cZ cL cB q_row q_row_cells k_row_size k_row_place)) [1] rfl
  have hDc := hD.sub (ws' := (w_FR_left cI cZ cL cB q_row q_row_cells k_row_size k_row_place)) [1] (by decide) rfl
  refine ax_calli (wr := [(q, .inr (5, [.ref q_draft, .ref q_table, .ref q_tally, .ref q_finder, .ref q_row])), (q_row_cells, .inl (cI, 2048, .inl k_row_cells)), (q_table, .inr (3, [.ref q_table_counts, .ref q_table_symbols, .ref q_table_lengths, .ref q_table_codes, .int k_table_size])), (q_table_symbols, .inl (cI, 256, .inl k_table_symbols)), (q_table_lengths, .inl (cI, 256, .inl k_table_lengths)), (q_table_codes, .inl (cI, 256, .inl k_table_codes))]) (w2 := (w_FF_get cI cZ cL cB q q_draft q_table q_tally q_finder q_row q_row_cells q_table_counts q_table_symbols q_table_lengths q_table_codes k_row_size k_row_place k_row_cells k_table_size k_table_symbols k_table_lengths k_table_codes)) (va_runV (As := []) (rest := []) ⟨hx, hb, hml, hown, hts⟩ (cc_FR_left l dC dI cI cZ cL cB q_row q_row_cells s.heap.size k_row_size k_row_place r1 h2) (cwV 0 hts (tt_V tw_259 tw_260 tw_261 tw_26 tw_262) rfl rfl rfl (by decide +kernel) ⟨Nat.le_of_ble_eq_true rfl, Nat.le_of_ble_eq_true rfl⟩) ⟨kz_fb, va_recv hK hPc (ci := 1) (q0 := 0) rfl rfl, kz_pre hPc hZ hDc⟩ rfl rfl hl.1 rfl (lv_room (Nat.le_of_ble_eq_true rfl)) dFF_get_4 ⟨Nat.zero_le _, Nat.zero_le _⟩) hP hD hS hA [1] [0, 2, 3, 4, 5, 6] [0, 6, 1, 2, 3, 4, 5] rfl rfl (by decide) (by decide) rfl (by decide) (fun H locs hP hD hS => ?_)
  refine lv_bipush (v := 16) hx hb dFF_get_7 (by decide) ?_
  refine va_mmin hx hb (hml.trans hl.1.symm) hown (hts _ tw_226) (hts _ tw_227) (hts _ tw_29) (hts _ tw_228) (Nat.le_of_ble_eq_true rfl) (Nat.le_of_ble_eq_true rfl) (Nat.zero_le _) (Nat.zero_le _) dFF_get_9 ?_
  refine lv_istore_n (lv' := [(1, .int (if 16 < r1 then 16 else r1)), (0, .ref q)]) hx hb dFF_get_12 rfl hl (by decide) rfl (fun ls hl => ?_)
  refine lv_iload_n hx hb dFF_get_13 rfl (lv_at hl 0 rfl) ?_
  refine lv_if_ne (tgt := 19) hx hb dFF_get_14 (by decide) (fun c_3 => ?_) (fun c_3 => ?_)
  · have hf := ifF hf c_3
    refine lv_aload_n hx hb dFF_get_19 rfl (lv_at hl 1 rfl) ?_
    refine va_get (D := (dC, dI)) (ci := 5) (v := .ref q_table) (C := RFF) (T := TFF) (N := 5) hx hb hts hi_FF hown hK hP 0 rfl rfl 1 (by decide) (hts _ tw_126) (fun _ h9 => h9) rfl dFF_get_20 ?_
    refine lv_aload_n hx hb dFF_get_23 rfl (lv_at hl 1 rfl) ?_
    refine va_get (D := (dC, dI)) (ci := 5) (v := .ref q_row) (C := RFF) (T := TFF) (N := 5) hx hb hts hi_FF hown hK hP 0 rfl rfl 4 (by decide) (hts _ tw_129) (fun _ h9 => h9) rfl dFF_get_24 ?_
    refine lv_iload_n hx hb dFF_get_27 rfl (lv_at hl 0 rfl) ?_
    obtain ⟨r4, h5, hf⟩ := bd1_some hf
    have hPc := hP.sub (ws' := (w_FR_ahead cI cZ cL cB q_row q_row_cells k_row_size k_row_place k_row_cells)) [1, 2] rfl
    have hDc := hD.sub (ws' := (w_FR_ahead cI cZ cL cB q_row q_row_cells k_row_size k_row_place k_row_cells)) [1, 2] (by decide) rfl
    refine ax_calli (wr := [(q, .inr (5, [.ref q_draft, .ref q_table, .ref q_tally, .ref q_finder, .ref q_row])), (q_table, .inr (3, [.ref q_table_counts, .ref q_table_symbols, .ref q_table_lengths, .ref q_table_codes, .int k_table_size])), (q_table_symbols, .inl (cI, 256, .inl k_table_symbols)), (q_table_lengths, .inl (cI, 256, .inl k_table_lengths)), (q_table_codes, .inl (cI, 256, .inl k_table_codes))]) (w2 := (w_FF_get cI cZ cL cB q q_draft q_table q_tally q_finder q_row q_row_cells q_table_counts q_table_symbols q_table_lengths q_table_codes k_row_size k_row_place k_row_cells k_table_size k_table_symbols k_table_lengths k_table_codes)) (va_runV (As := [.int (if 16 < r1 then 16 else r1)]) (rest := [.ref q_table]) ⟨hx, hb, hml, hown, hts⟩ (cc_FR_ahead l dC dI cI cZ cL cB q_row q_row_cells H.size k_row_size k_row_place k_row_cells (if 16 < r1 then 16 else r1) r4 h5) (cwV 1 hts (tt_V tw_263 tw_264 tw_265 tw_26 tw_266) rfl rfl rfl (by decide +kernel) ⟨Nat.le_of_ble_eq_true rfl, Nat.le_of_ble_eq_true rfl⟩) ⟨kz_fb, va_recv hK hPc (ci := 1) (q0 := 0) rfl rfl, kz_pre hPc hZ hDc⟩ rfl rfl hl.1 rfl (lv_room (Nat.le_of_ble_eq_true rfl)) dFF_get_28 ⟨Nat.zero_le _, Nat.zero_le _⟩) hP hD hS hA [1, 2] [0, 3, 4, 5, 6] [0, 5, 6, 1, 2, 3, 4] rfl rfl (by decide) (by decide) rfl (by decide) (fun H locs hP hD hS => ?_)
    refine lv_iload_n hx hb dFF_get_31 rfl (lv_at hl 0 rfl) ?_
    obtain ⟨r6, h7, hf⟩ := bd1_some hf
    have hPc := hP.sub (ws' := (w_FT_symbolAhead cI cZ cL cB q_table q_table_counts q_table_symbols q_table_lengths q_table_codes k_table_size k_table_symbols k_table_lengths k_table_codes)) [3, 4, 5, 6] rfl
    have hDc := hD.sub (ws' := (w_FT_symbolAhead cI cZ cL cB q_table q_table_counts q_table_symbols q_table_lengths q_table_codes k_table_size k_table_symbols k_table_lengths k_table_codes)) [3, 4, 5, 6] (by decide) rfl
    refine ax_calli (wr := [(q, .inr (5, [.ref q_draft, .ref q_table, .ref q_tally, .ref q_finder, .ref q_row])), (q_row, .inr (1, [.ref q_row_cells, .int k_row_size, .int k_row_place])), (q_row_cells, .inl (cI, 2048, .inl k_row_cells))]) (w2 := (w_FF_get cI cZ cL cB q q_draft q_table q_tally q_finder q_row q_row_cells q_table_counts q_table_symbols q_table_lengths q_table_codes k_row_size k_row_place k_row_cells k_table_size k_table_symbols k_table_lengths k_table_codes)) (va_runV (As := [.int r4, .int (if 16 < r1 then 16 else r1)]) (rest := []) ⟨hx, hb, hml, hown, hts⟩ (cc_FT_symbolAhead l dC dI cI cZ cL cB q_table q_table_counts q_table_symbols q_table_lengths q_table_codes H.size k_table_size k_table_symbols k_table_lengths k_table_codes r4 (if 16 < r1 then 16 else r1) r6 h7) (cwV 2 hts (tt_V tw_267 tw_268 tw_269 tw_23 tw_270) rfl rfl rfl (by decide +kernel) ⟨Nat.le_of_ble_eq_true rfl, Nat.le_of_ble_eq_true rfl⟩) ⟨kz_fb, va_recv hK hPc (ci := 3) (q0 := 0) rfl rfl, kz_pre hPc hZ hDc⟩ rfl rfl hl.1 rfl (lv_room (Nat.le_of_ble_eq_true rfl)) dFF_get_32 ⟨Nat.zero_le _, Nat.zero_le _⟩) hP hD hS hA [3, 4, 5, 6] [0, 1, 2] [0, 1, 2, 3, 4, 5, 6] rfl rfl (by decide) (by decide) rfl (by decide) (fun H locs hP hD hS => ?_)
    refine lv_istore_n (lv' := [(2, .int r6), (1, .int (if 16 < r1 then 16 else r1)), (0, .ref q)]) hx hb dFF_get_35 rfl hl (by decide) rfl (fun ls hl => ?_)
    refine lv_iload_n hx hb dFF_get_36 rfl (lv_at hl 0 rfl) ?_
    refine lv_if_lt (tgt := 61) hx hb dFF_get_37 (by decide) (fun c_8 => ?_) (fun c_8 => ?_)
    · have hf := ifT hf c_8
      refine lv_iload_n hx hb dFF_get_61 rfl (lv_at hl 0 rfl) ?_
      cases hf
      exact ax_iret hx hb hr hP hD hS dFF_get_62 hlocks
    · have hf := ifF hf c_8
      refine lv_aload_n hx hb dFF_get_40 rfl (lv_at hl 2 rfl) ?_
      refine va_get (D := (dC, dI)) (ci := 5) (v := .ref q_row) (C := RFF) (T := TFF) (N := 5) hx hb hts hi_FF hown hK hP 0 rfl rfl 4 (by decide) (hts _ tw_129) (fun _ h9 => h9) rfl dFF_get_41 ?_
      refine lv_dup hx hb dFF_get_44 rfl ?_
      refine va_get (D := (dC, dI)) (ci := 1) (v := .int k_row_place) (C := RFR) (T := TFR) (N := 3) hx hb hts hi_FR hown hK hP 1 rfl rfl 2 (by decide) (hts _ tw_121) (fun _ h9 => h9) rfl dFF_get_45 ?_
      refine lv_aload_n hx hb dFF_get_48 rfl (lv_at hl 2 rfl) ?_
      refine va_get (D := (dC, dI)) (ci := 5) (v := .ref q_table) (C := RFF) (T := TFF) (N := 5) hx hb hts hi_FF hown hK hP 0 rfl rfl 1 (by decide) (hts _ tw_126) (fun _ h9 => h9) rfl dFF_get_49 ?_
      refine va_get (D := (dC, dI)) (ci := 3) (v := .ref q_table_lengths) (C := RFT) (T := TFT) (N := 5) hx hb hts hi_FT hown hK hP 3 rfl rfl 2 (by decide) (hts _ tw_66) (fun _ h9 => h9) rfl dFF_get_52 ?_
      refine lv_iload_n hx hb dFF_get_55 rfl (lv_at hl 0 rfl) ?_
      obtain ⟨v9, ev9, h10, hf⟩ := rd_some hf
      refine ax_iald hx hb hK hP 5 0 rfl rfl h10 ev9 dFF_get_56 ?_
      refine lv_iadd hx hb dFF_get_57 ?_
      refine va_put (D := (dC, dI)) (ci := 1) (v := .int (k_row_place + v9)) (ty := .int) (C := RFR) (T := TFR) (N := 3) hx hb hts hi_FR tyFR tyFR_ok nmFR hown hK hP hD hS 1 rfl rfl 2 (by decide) (hts _ tw_121) (fun _ h9 => h9) rfl (by decide +kernel) rfl rfl (Nat.le_of_ble_eq_true rfl) dFF_get_58 (fun H locs hP hD hS => ?_)
      have hP : va_P (dC, dI) vwCl (w_FF_get cI cZ cL cB q q_draft q_table q_tally q_finder q_row q_row_cells q_table_counts q_table_symbols q_table_lengths q_table_codes k_row_size (k_row_place + v9) k_row_cells k_table_size k_table_symbols k_table_lengths k_table_codes) H := hP
      have hD : va_D A (w_FF_get cI cZ cL cB q q_draft q_table q_tally q_finder q_row q_row_cells q_table_counts q_table_symbols q_table_lengths q_table_codes k_row_size (k_row_place + v9) k_row_cells k_table_size k_table_symbols k_table_lengths k_table_codes) := hD
      refine lv_iload_n hx hb dFF_get_61 rfl (lv_at hl 0 rfl) ?_
      cases hf
      exact ax_iret hx hb hr hP hD hS dFF_get_62 hlocks
  · have hf := ifT hf c_3
    refine lv_iconst (v := (-1)) hx hb dFF_get_17 (by decide) ?_
    cases hf
    exact ax_iret hx hb hr hP hD hS dFF_get_18 hlocks
abbrev wsFF_isBitNumber : List Cond := Cond.code yFF_isBitNumber cFF_isBitNumber 1 (some .boolean) :: tt
set_option maxHeartbeats 4000000 in
set_option maxRecDepth 100000 in
theorem cc_FF_isBitNumber (l : Launch) (dC : Nat → ClassId) (dI : Nat → Nat → Nat) (cI cZ cL cB : ClassId) (sz : Nat) (a_0 : Int32) (r : Int32) (hf : f_FF_isBitNumber a_0 = some r) : Met l yFF_isBitNumber wsFF_isBitNumber ({ frames := 0, cells := 0, slots := 0, locals := 0 }) (va_Pc [.int a_0] (kz_P dC dI cI cZ cL cB sz (w_FF_isBitNumber cI cZ cL cB ))) (va_Qi (fun (r' : Int32) (_ : Unit) => r' = r) (fun _ t => va_P (dC, dI) vwCl (w_FF_isBitNumber cI cZ cL cB ) t.heap ∧ va_D (va_A (w_FF_isBitNumber cI cZ cL cB ) sz) (w_FF_isBitNumber cI cZ cL cB )) (va_A (w_FF_isBitNumber cI cZ cL cB ) sz)) 0 0 (va_A (w_FF_isBitNumber cI cZ cL cB ) sz) := by
  refine Met.ofW (cc := cFF_isBitNumber) (maxL := 1) (ret := (some .boolean)) (by decide) rfl ?_
  intro p e s m args below meth c s₁ B hml hv
  obtain ⟨rfl, hsz, hP, hZ, hD0⟩ := hv
  have hK := hZ.1
  have hx := B.exec
  have hb := B.bytes
  have hr := B.returns
  have hts : ∀ w ∈ tt, w.before _ s = true := fun w h => atoms_spec (ws := wsFF_isBitNumber) B.pre w (List.mem_cons_of_mem _ h)
  have hown : s.vm.findClass RFF = some m.cls := findClass_of_methodNamed B.named
  have hlocks := B.notSynchronized
  subst hsz
  have hD := hD0.self (sz := s.heap.size)
  generalize hAe : va_A (w_FF_isBitNumber cI cZ cL cB ) s.heap.size = A at hD ⊢
  have hA : ∀ q : Nat, s.heap.size ≤ q → A q := fun q h => by rw [← hAe]; exact Or.inr h
  have hS : va_S A s.heap s.heap [] := va_S.rf
  have hl := lv_entry [.int a_0] (n := 1) (Nat.le_of_ble_eq_true rfl)
  rw [lg_entry_eq]
  generalize (lg_sl [.int a_0] ++ List.replicate (1 - (lg_sl [.int a_0]).length) Slot.unset).toArray = ls at hl ⊢
  have hl : lv_has ls 1 [(0, .int a_0)] := hl
  unfold f_FF_isBitNumber at hf
  refine lv_iload_n hx hb dFF_isBitNumber_0 rfl (lv_at hl 0 rfl) ?_
  refine lv_if_lt (tgt := 14) hx hb dFF_isBitNumber_1 (by decide) (fun c_1 => ?_) (fun c_1 => ?_)
  · have hf := ifT hf c_1
    refine lv_iconst (v := 0) hx hb dFF_isBitNumber_14 (by decide) ?_
    cases hf
    exact ax_zret hx hb hr rfl hP hD hS dFF_isBitNumber_15 hlocks
  · have hf := ifF hf c_1
    refine lv_iload_n hx hb dFF_isBitNumber_4 rfl (lv_at hl 0 rfl) ?_
    refine lv_bipush (v := 16) hx hb dFF_isBitNumber_5 (by decide) ?_
    refine lv_icmp_gt (tgt := 14) hx hb dFF_isBitNumber_7 (by decide) (fun c_2 => ?_) (fun c_2 => ?_)
    · have hf := ifT hf c_2
      refine lv_iconst (v := 0) hx hb dFF_isBitNumber_14 (by decide) ?_
      cases hf
      exact ax_zret hx hb hr rfl hP hD hS dFF_isBitNumber_15 hlocks
    · have hf := ifF hf c_2
      refine lv_iconst (v := 1) hx hb dFF_isBitNumber_10 (by decide) ?_
      refine lv_goto (tgt := 15) hx hb dFF_isBitNumber_11 (by decide) ?_
      cases hf
      exact ax_zret hx hb hr rfl hP hD hS dFF_isBitNumber_15 hlocks
abbrev wsFF_bits : List Cond := Cond.code yFF_bits cFF_bits 3 (some .int) :: tt
set_option maxHeartbeats 4000000 in
set_option maxRecDepth 100000 in
theorem cc_FF_bits (l : Launch) (dC : Nat → ClassId) (dI : Nat → Nat → Nat) (cI cZ cL cB : ClassId) (q q_draft q_table q_tally q_finder q_row q_row_cells : Nat) (sz : Nat) (k_row_size : Int32) (k_row_place : Int32) (k_row_cells : Nat → Int32) (a_0 : Int32) (r : Int32) (o_row_place : Int32) (hf : f_FF_bits k_row_size k_row_place k_row_cells a_0 = some (r, o_row_place)) : Met l yFF_bits wsFF_bits ({ frames := 1, cells := 0, slots := 0, locals := 23 }) (va_Pc [.ref q, .int a_0] (kz_P dC dI cI cZ cL cB sz (w_FF_bits cI cZ cL cB q q_draft q_table q_tally q_finder q_row q_row_cells k_row_size k_row_place k_row_cells))) (va_Qi (fun (r' : Int32) (_ : Unit) => r' = r) (fun _ t => va_P (dC, dI) vwCl (w_FF_bits cI cZ cL cB q q_draft q_table q_tally q_finder q_row q_row_cells k_row_size o_row_place k_row_cells) t.heap ∧ va_D (va_A (w_FF_bits cI cZ cL cB q q_draft q_table q_tally q_finder q_row q_row_cells k_row_size k_row_place k_row_cells) sz) (w_FF_bits cI cZ cL cB q q_draft q_table q_tally q_finder q_row q_row_cells k_row_size o_row_place k_row_cells)) (va_A (w_FF_bits cI cZ cL cB q q_draft q_table q_tally q_finder q_row q_row_cells k_row_size k_row_place k_row_cells) sz)) 0 0 (va_A (w_FF_bits cI cZ cL cB q q_draft q_table q_tally q_finder q_row q_row_cells k_row_size k_row_place k_row_cells) sz) := by
  refine Met.ofW (cc := cFF_bits) (maxL := 3) (ret := (some .int)) (by decide) rfl ?_
  intro p e s m args below meth c s₁ B hml hv
  obtain ⟨rfl, hsz, hP, hZ, hD0⟩ := hv
  have hK := hZ.1
  have hx := B.exec
  have hb := B.bytes
  have hr := B.returns
  have hts : ∀ w ∈ tt, w.before _ s = true := fun w h => atoms_spec (ws := wsFF_bits) B.pre w (List.mem_cons_of_mem _ h)
  have hown : s.vm.findClass RFF = some m.cls := findClass_of_methodNamed B.named
  have hlocks := B.notSynchronized
  subst hsz
  have hD := hD0.self (sz := s.heap.size)
  generalize hAe : va_A (w_FF_bits cI cZ cL cB q q_draft q_table q_tally q_finder q_row q_row_cells k_row_size k_row_place k_row_cells) s.heap.size = A at hD ⊢
  have hA : ∀ q : Nat, s.heap.size ≤ q → A q := fun q h => by rw [← hAe]; exact Or.inr h
  have hS : va_S A s.heap s.heap [] := va_S.rf
  have hl := lv_entry [.ref q, .int a_0] (n := 3) (Nat.le_of_ble_eq_true rfl)
  rw [lg_entry_eq]
  generalize (lg_sl [.ref q, .int a_0] ++ List.replicate (3 - (lg_sl [.ref q, .int a_0]).length) Slot.unset).toArray = ls at hl ⊢
  have hl : lv_has ls 3 [(0, .ref q), (1, .int a_0)] := hl
  unfold f_FF_bits at hf
  refine lv_iload_n hx hb dFF_bits_0 rfl (lv_at hl 1 rfl) ?_
  obtain ⟨r1, h2, hf⟩ := bd1_some hf
  have hPc := hP.sub (ws' := (w_FF_isBitNumber cI cZ cL cB )) [] rfl
  have hDc := hD.sub (ws' := (w_FF_isBitNumber cI cZ cL cB )) [] (by decide) rfl
  refine ax_calli (wr := [(q, .inr (5, [.ref q_draft, .ref q_table, .ref q_tally, .ref q_finder, .ref q_row])), (q_row, .inr (1, [.ref q_row_cells, .int k_row_size, .int k_row_place])), (q_row_cells, .inl (cI, 2048, .inl k_row_cells))]) (w2 := (w_FF_bits cI cZ cL cB q q_draft q_table q_tally q_finder q_row q_row_cells k_row_size k_row_place k_row_cells)) (va_runS (As := [.int a_0]) (rest := []) ⟨hx, hb, hml, hown, hts⟩ (cc_FF_isBitNumber l dC dI cI cZ cL cB  s.heap.size a_0 r1 h2) (va_cwS 1 hts (tt_S tw_275 tw_276 tw_21 tw_277) rfl rfl rfl (by decide +kernel) ⟨Nat.le_of_ble_eq_true rfl, Nat.le_of_ble_eq_true rfl⟩) ⟨kz_fb, kz_pre hPc hZ hDc⟩ rfl rfl hl.1 rfl (lv_room (Nat.le_of_ble_eq_true rfl)) dFF_bits_1 ⟨Nat.zero_le _, Nat.zero_le _⟩) hP hD hS hA [] [0, 1, 2] [0, 1, 2] rfl rfl (by decide) (by decide) rfl (by decide) (fun H locs hP hD hS => ?_)
  refine lv_if_eq (tgt := 18) hx hb dFF_bits_4 (by decide) (fun c_3 => ?_) (fun c_3 => ?_)
  · have hf := ifT hf c_3
    refine lv_iconst (v := (-1)) hx hb dFF_bits_18 (by decide) ?_
    cases hf
    exact ax_iret hx hb hr hP hD hS dFF_bits_19 hlocks
  · have hf := ifF hf c_3
    refine lv_iload_n hx hb dFF_bits_7 rfl (lv_at hl 1 rfl) ?_
    refine lv_aload_n hx hb dFF_bits_8 rfl (lv_at hl 0 rfl) ?_
    refine va_get (D := (dC, dI)) (ci := 5) (v := .ref q_row) (C := RFF) (T := TFF) (N := 5) hx hb hts hi_FF hown hK hP 0 rfl rfl 4 (by decide) (hts _ tw_129) (fun _ h9 => h9) rfl dFF_bits_9 ?_
    obtain ⟨r4, h5, hf⟩ := bd1_some hf
    have hPc := hP.sub (ws' := (w_FR_left cI cZ cL cB q_row q_row_cells k_row_size k_row_place)) [1] rfl
    have hDc := hD.sub (ws' := (w_FR_left cI cZ cL cB q_row q_row_cells k_row_size k_row_place)) [1] (by decide) rfl
    refine ax_calli (wr := [(q, .inr (5, [.ref q_draft, .ref q_table, .ref q_tally, .ref q_finder, .ref q_row])), (q_row_cells, .inl (cI, 2048, .inl k_row_cells))]) (w2 := (w_FF_bits cI cZ cL cB q q_draft q_table q_tally q_finder q_row q_row_cells k_row_size k_row_place k_row_cells)) (va_runV (As := []) (rest := [.int a_0]) ⟨hx, hb, hml, hown, hts⟩ (cc_FR_left l dC dI cI cZ cL cB q_row q_row_cells H.size k_row_size k_row_place r4 h5) (cwV 0 hts (tt_V tw_259 tw_260 tw_261 tw_26 tw_262) rfl rfl rfl (by decide +kernel) ⟨Nat.le_of_ble_eq_true rfl, Nat.le_of_ble_eq_true rfl⟩) ⟨kz_fb, va_recv hK hPc (ci := 1) (q0 := 0) rfl rfl, kz_pre hPc hZ hDc⟩ rfl rfl hl.1 rfl (lv_room (Nat.le_of_ble_eq_true rfl)) dFF_bits_12 ⟨Nat.zero_le _, Nat.zero_le _⟩) hP hD hS hA [1] [0, 2] [0, 2, 1] rfl rfl (by decide) (by decide) rfl (by decide) (fun H locs hP hD hS => ?_)
    refine lv_icmp_le (tgt := 20) hx hb dFF_bits_15 (by decide) (fun c_6 => ?_) (fun c_6 => ?_)
    · have hf := ifT hf c_6
      refine lv_aload_n hx hb dFF_bits_20 rfl (lv_at hl 0 rfl) ?_
      refine va_get (D := (dC, dI)) (ci := 5) (v := .ref q_row) (C := RFF) (T := TFF) (N := 5) hx hb hts hi_FF hown hK hP 0 rfl rfl 4 (by decide) (hts _ tw_129) (fun _ h9 => h9) rfl dFF_bits_21 ?_
      refine lv_iload_n hx hb dFF_bits_24 rfl (lv_at hl 1 rfl) ?_
      obtain ⟨r7, h8, hf⟩ := bd1_some hf
      have hPc := hP.sub (ws' := (w_FR_ahead cI cZ cL cB q_row q_row_cells k_row_size k_row_place k_row_cells)) [1, 2] rfl
      have hDc := hD.sub (ws' := (w_FR_ahead cI cZ cL cB q_row q_row_cells k_row_size k_row_place k_row_cells)) [1, 2] (by decide) rfl
      refine ax_calli (wr := [(q, .inr (5, [.ref q_draft, .ref q_table, .ref q_tally, .ref q_finder, .ref q_row]))]) (w2 := (w_FF_bits cI cZ cL cB q q_draft q_table q_tally q_finder q_row q_row_cells k_row_size k_row_place k_row_cells)) (va_runV (As := [.int a_0]) (rest := []) ⟨hx, hb, hml, hown, hts⟩ (cc_FR_ahead l dC dI cI cZ cL cB q_row q_row_cells H.size k_row_size k_row_place k_row_cells a_0 r7 h8) (cwV 1 hts (tt_V tw_263 tw_264 tw_265 tw_26 tw_266) rfl rfl rfl (by decide +kernel) ⟨Nat.le_of_ble_eq_true rfl, Nat.le_of_ble_eq_true rfl⟩) ⟨kz_fb, va_recv hK hPc (ci := 1) (q0 := 0) rfl rfl, kz_pre hPc hZ hDc⟩ rfl rfl hl.1 rfl (lv_room (Nat.le_of_ble_eq_true rfl)) dFF_bits_25 ⟨Nat.zero_le _, Nat.zero_le _⟩) hP hD hS hA [1, 2] [0] [0, 1, 2] rfl rfl (by decide) (by decide) rfl (by decide) (fun H locs hP hD hS => ?_)
      refine lv_istore_n (lv' := [(2, .int r7), (0, .ref q), (1, .int a_0)]) hx hb dFF_bits_28 rfl hl (by decide) rfl (fun ls hl => ?_)
      refine lv_aload_n hx hb dFF_bits_29 rfl (lv_at hl 1 rfl) ?_
      refine va_get (D := (dC, dI)) (ci := 5) (v := .ref q_row) (C := RFF) (T := TFF) (N := 5) hx hb hts hi_FF hown hK hP 0 rfl rfl 4 (by decide) (hts _ tw_129) (fun _ h9 => h9) rfl dFF_bits_30 ?_
      refine lv_dup hx hb dFF_bits_33 rfl ?_
      refine va_get (D := (dC, dI)) (ci := 1) (v := .int k_row_place) (C := RFR) (T := TFR) (N := 3) hx hb hts hi_FR hown hK hP 1 rfl rfl 2 (by decide) (hts _ tw_121) (fun _ h9 => h9) rfl dFF_bits_34 ?_
      refine lv_iload_n hx hb dFF_bits_37 rfl (lv_at hl 2 rfl) ?_
      refine lv_iadd hx hb dFF_bits_38 ?_
      refine va_put (D := (dC, dI)) (ci := 1) (v := .int (k_row_place + a_0)) (ty := .int) (C := RFR) (T := TFR) (N := 3) hx hb hts hi_FR tyFR tyFR_ok nmFR hown hK hP hD hS 1 rfl rfl 2 (by decide) (hts _ tw_121) (fun _ h9 => h9) rfl (by decide +kernel) rfl rfl (Nat.le_of_ble_eq_true rfl) dFF_bits_39 (fun H locs hP hD hS => ?_)
      have hP : va_P (dC, dI) vwCl (w_FF_bits cI cZ cL cB q q_draft q_table q_tally q_finder q_row q_row_cells k_row_size (k_row_place + a_0) k_row_cells) H := hP
      have hD : va_D A (w_FF_bits cI cZ cL cB q q_draft q_table q_tally q_finder q_row q_row_cells k_row_size (k_row_place + a_0) k_row_cells) := hD
      refine lv_iload_n hx hb dFF_bits_42 rfl (lv_at hl 0 rfl) ?_
      cases hf
      exact ax_iret hx hb hr hP hD hS dFF_bits_43 hlocks
    · have hf := ifF hf c_6
      refine lv_iconst (v := (-1)) hx hb dFF_bits_18 (by decide) ?_
      cases hf
      exact ax_iret hx hb hr hP hD hS dFF_bits_19 hlocks
abbrev wsFF_seek : List Cond := Cond.code yFF_seek cFF_seek 2 (some .boolean) :: tt
set_option maxHeartbeats 4000000 in
set_option maxRecDepth 100000 in
theorem cc_FF_seek (l : Launch) (dC : Nat → ClassId) (dI : Nat → Nat → Nat) (cI cZ cL cB : ClassId) (q q_draft q_table q_tally q_finder q_row q_row_cells : Nat) (sz : Nat) (k_row_size : Int32) (k_row_place : Int32) (a_0 : Int32) (r : Int32) (o_row_place : Int32) (hf : f_FF_seek k_row_size k_row_place a_0 = some (r, o_row_place)) : Met l yFF_seek wsFF_seek ({ frames := 0, cells := 0, slots := 0, locals := 0 }) (va_Pc [.ref q, .int a_0] (kz_P dC dI cI cZ cL cB sz (w_FF_seek cI cZ cL cB q q_draft q_table q_tally q_finder q_row q_row_cells k_row_size k_row_place))) (va_Qi (fun (r' : Int32) (_ : Unit) => r' = r) (fun _ t => va_P (dC, dI) vwCl (w_FF_seek cI cZ cL cB q q_draft q_table q_tally q_finder q_row q_row_cells k_row_size o_row_place) t.heap ∧ va_D (va_A (w_FF_seek cI cZ cL cB q q_draft q_table q_tally q_finder q_row q_row_cells k_row_size k_row_place) sz) (w_FF_seek cI cZ cL cB q q_draft q_table q_tally q_finder q_row q_row_cells k_row_size o_row_place)) (va_A (w_FF_seek cI cZ cL cB q q_draft q_table q_tally q_finder q_row q_row_cells k_row_size k_row_place) sz)) 0 0 (va_A (w_FF_seek cI cZ cL cB q q_draft q_table q_tally q_finder q_row q_row_cells k_row_size k_row_place) sz) := by
  refine Met.ofW (cc := cFF_seek) (maxL := 2) (ret := (some .boolean)) (by decide) rfl ?_
  intro p e s m args below meth c s₁ B hml hv
  obtain ⟨rfl, hsz, hP, hZ, hD0⟩ := hv
  have hK := hZ.1
  have hx := B.exec
  have hb := B.bytes
  have hr := B.returns
  have hts : ∀ w ∈ tt, w.before _ s = true := fun w h => atoms_spec (ws := wsFF_seek) B.pre w (List.mem_cons_of_mem _ h)
  have hown : s.vm.findClass RFF = some m.cls := findClass_of_methodNamed B.named
  have hlocks := B.notSynchronized
  subst hsz
  have hD := hD0.self (sz := s.heap.size)
  generalize hAe : va_A (w_FF_seek cI cZ cL cB q q_draft q_table q_tally q_finder q_row q_row_cells k_row_size k_row_place) s.heap.size = A at hD ⊢
  have hA : ∀ q : Nat, s.heap.size ≤ q → A q := fun q h => by rw [← hAe]; exact Or.inr h
  have hS : va_S A s.heap s.heap [] := va_S.rf
  have hl := lv_entry [.ref q, .int a_0] (n := 2) (Nat.le_of_ble_eq_true rfl)
  rw [lg_entry_eq]
  generalize (lg_sl [.ref q, .int a_0] ++ List.replicate (2 - (lg_sl [.ref q, .int a_0]).length) Slot.unset).toArray = ls at hl ⊢
  have hl : lv_has ls 2 [(0, .ref q), (1, .int a_0)] := hl
  unfold f_FF_seek at hf
  refine lv_iload_n hx hb dFF_seek_0 rfl (lv_at hl 1 rfl) ?_
  refine lv_if_lt (tgt := 15) hx hb dFF_seek_1 (by decide) (fun c_1 => ?_) (fun c_1 => ?_)
  · have hf := ifT hf c_1
    refine lv_iconst (v := 0) hx hb dFF_seek_15 (by decide) ?_
    cases hf
    exact ax_zret hx hb hr rfl hP hD hS dFF_seek_16 hlocks
  · have hf := ifF hf c_1
    refine lv_iload_n hx hb dFF_seek_4 rfl (lv_at hl 1 rfl) ?_
    refine lv_aload_n hx hb dFF_seek_5 rfl (lv_at hl 0 rfl) ?_
    refine va_get (D := (dC, dI)) (ci := 5) (v := .ref q_row) (C := RFF) (T := TFF) (N := 5) hx hb hts hi_FF hown hK hP 0 rfl rfl 4 (by decide) (hts _ tw_129) (fun _ h9 => h9) rfl dFF_seek_6 ?_
    refine va_get (D := (dC, dI)) (ci := 1) (v := .int k_row_size) (C := RFR) (T := TFR) (N := 3) hx hb hts hi_FR hown hK hP 1 rfl rfl 1 (by decide) (hts _ tw_119) (fun _ h9 => h9) rfl dFF_seek_9 ?_
    refine lv_icmp_le (tgt := 17) hx hb dFF_seek_12 (by decide) (fun c_2 => ?_) (fun c_2 => ?_)
    · have hf := ifT hf c_2
      refine lv_aload_n hx hb dFF_seek_17 rfl (lv_at hl 0 rfl) ?_
      refine va_get (D := (dC, dI)) (ci := 5) (v := .ref q_row) (C := RFF) (T := TFF) (N := 5) hx hb hts hi_FF hown hK hP 0 rfl rfl 4 (by decide) (hts _ tw_129) (fun _ h9 => h9) rfl dFF_seek_18 ?_
      refine lv_iload_n hx hb dFF_seek_21 rfl (lv_at hl 1 rfl) ?_
      refine va_put (D := (dC, dI)) (ci := 1) (v := .int a_0) (ty := .int) (C := RFR) (T := TFR) (N := 3) hx hb hts hi_FR tyFR tyFR_ok nmFR hown hK hP hD hS 1 rfl rfl 2 (by decide) (hts _ tw_121) (fun _ h9 => h9) rfl (by decide +kernel) rfl rfl (Nat.le_of_ble_eq_true rfl) dFF_seek_22 (fun H locs hP hD hS => ?_)
      have hP : va_P (dC, dI) vwCl (w_FF_seek cI cZ cL cB q q_draft q_table q_tally q_finder q_row q_row_cells k_row_size a_0) H := hP
      have hD : va_D A (w_FF_seek cI cZ cL cB q q_draft q_table q_tally q_finder q_row q_row_cells k_row_size a_0) := hD
      refine lv_iconst (v := 1) hx hb dFF_seek_25 (by decide) ?_
      cases hf
      exact ax_zret hx hb hr rfl hP hD hS dFF_seek_26 hlocks
    · have hf := ifF hf c_2
      refine lv_iconst (v := 0) hx hb dFF_seek_15 (by decide) ?_
      cases hf
      exact ax_zret hx hb hr rfl hP hD hS dFF_seek_16 hlocks
abbrev wsFF_cut : List Cond := Cond.code yFF_cut cFF_cut 2 (some .boolean) :: tt
set_option maxHeartbeats 4000000 in
set_option maxRecDepth 100000 in
theorem cc_FF_cut (l : Launch) (dC : Nat → ClassId) (dI : Nat → Nat → Nat) (cI cZ cL cB : ClassId) (q q_draft q_table q_tally q_finder q_row q_row_cells : Nat) (sz : Nat) (k_row_size : Int32) (k_row_place : Int32) (a_0 : Int32) (r : Int32) (o_row_size : Int32) (o_row_place : Int32) (hf : f_FF_cut k_row_size k_row_place a_0 = some (r, o_row_size, o_row_place)) : Met l yFF_cut wsFF_cut ({ frames := 1, cells := 0, slots := 0, locals := 21 }) (va_Pc [.ref q, .int a_0] (kz_P dC dI cI cZ cL cB sz (w_FF_cut cI cZ cL cB q q_draft q_table q_tally q_finder q_row q_row_cells k_row_size k_row_place))) (va_Qi (fun (r' : Int32) (_ : Unit) => r' = r) (fun _ t => va_P (dC, dI) vwCl (w_FF_cut cI cZ cL cB q q_draft q_table q_tally q_finder q_row q_row_cells o_row_size o_row_place) t.heap ∧ va_D (va_A (w_FF_cut cI cZ cL cB q q_draft q_table q_tally q_finder q_row q_row_cells k_row_size k_row_place) sz) (w_FF_cut cI cZ cL cB q q_draft q_table q_tally q_finder q_row q_row_cells o_row_size o_row_place)) (va_A (w_FF_cut cI cZ cL cB q q_draft q_table q_tally q_finder q_row q_row_cells k_row_size k_row_place) sz)) 0 0 (va_A (w_FF_cut cI cZ cL cB q q_draft q_table q_tally q_finder q_row q_row_cells k_row_size k_row_place) sz) := by
  refine Met.ofW (cc := cFF_cut) (maxL := 2) (ret := (some .boolean)) (by decide) rfl ?_
  intro p e s m args below meth c s₁ B hml hv
  obtain ⟨rfl, hsz, hP, hZ, hD0⟩ := hv
  have hK := hZ.1
  have hx := B.exec
  have hb := B.bytes
  have hr := B.returns
  have hts : ∀ w ∈ tt, w.before _ s = true := fun w h => atoms_spec (ws := wsFF_cut) B.pre w (List.mem_cons_of_mem _ h)
  have hown : s.vm.findClass RFF = some m.cls := findClass_of_methodNamed B.named
  have hlocks := B.notSynchronized
  subst hsz
  have hD := hD0.self (sz := s.heap.size)
  generalize hAe : va_A (w_FF_cut cI cZ cL cB q q_draft q_table q_tally q_finder q_row q_row_cells k_row_size k_row_place) s.heap.size = A at hD ⊢
  have hA : ∀ q : Nat, s.heap.size ≤ q → A q := fun q h => by rw [← hAe]; exact Or.inr h
  have hS : va_S A s.heap s.heap [] := va_S.rf
  have hl := lv_entry [.ref q, .int a_0] (n := 2) (Nat.le_of_ble_eq_true rfl)
  rw [lg_entry_eq]
  generalize (lg_sl [.ref q, .int a_0] ++ List.replicate (2 - (lg_sl [.ref q, .int a_0]).length) Slot.unset).toArray = ls at hl ⊢
  have hl : lv_has ls 2 [(0, .ref q), (1, .int a_0)] := hl
  unfold f_FF_cut at hf
  refine lv_iload_n hx hb dFF_cut_0 rfl (lv_at hl 1 rfl) ?_
  refine lv_if_lt (tgt := 15) hx hb dFF_cut_1 (by decide) (fun c_1 => ?_) (fun c_1 => ?_)
  · have hf := ifT hf c_1
    refine lv_iconst (v := 0) hx hb dFF_cut_15 (by decide) ?_
    cases hf
    exact ax_zret hx hb hr rfl hP hD hS dFF_cut_16 hlocks
  · have hf := ifF hf c_1
    refine lv_iload_n hx hb dFF_cut_4 rfl (lv_at hl 1 rfl) ?_
    refine lv_aload_n hx hb dFF_cut_5 rfl (lv_at hl 0 rfl) ?_
    refine va_get (D := (dC, dI)) (ci := 5) (v := .ref q_row) (C := RFF) (T := TFF) (N := 5) hx hb hts hi_FF hown hK hP 0 rfl rfl 4 (by decide) (hts _ tw_129) (fun _ h9 => h9) rfl dFF_cut_6 ?_
    refine va_get (D := (dC, dI)) (ci := 1) (v := .int k_row_size) (C := RFR) (T := TFR) (N := 3) hx hb hts hi_FR hown hK hP 1 rfl rfl 1 (by decide) (hts _ tw_119) (fun _ h9 => h9) rfl dFF_cut_9 ?_
    refine lv_icmp_le (tgt := 17) hx hb dFF_cut_12 (by decide) (fun c_2 => ?_) (fun c_2 => ?_)
    · have hf := ifT hf c_2
      refine lv_aload_n hx hb dFF_cut_17 rfl (lv_at hl 0 rfl) ?_
      refine va_get (D := (dC, dI)) (ci := 5) (v := .ref q_row) (C := RFF) (T := TFF) (N := 5) hx hb hts hi_FF hown hK hP 0 rfl rfl 4 (by decide) (hts _ tw_129) (fun _ h9 => h9) rfl dFF_cut_18 ?_
      refine lv_iload_n hx hb dFF_cut_21 rfl (lv_at hl 1 rfl) ?_
      refine va_put (D := (dC, dI)) (ci := 1) (v := .int a_0) (ty := .int) (C := RFR) (T := TFR) (N := 3) hx hb hts hi_FR tyFR tyFR_ok nmFR hown hK hP hD hS 1 rfl rfl 1 (by decide) (hts _ tw_119) (fun _ h9 => h9) rfl (by decide +kernel) rfl rfl (Nat.le_of_ble_eq_true rfl) dFF_cut_22 (fun H locs hP hD hS => ?_)
      have hP : va_P (dC, dI) vwCl (w_FF_cut cI cZ cL cB q q_draft q_table q_tally q_finder q_row q_row_cells a_0 k_row_place) H := hP
      have hD : va_D A (w_FF_cut cI cZ cL cB q q_draft q_table q_tally q_finder q_row q_row_cells a_0 k_row_place) := hD
      refine lv_aload_n hx hb dFF_cut_25 rfl (lv_at hl 0 rfl) ?_
      refine va_get (D := (dC, dI)) (ci := 5) (v := .ref q_row) (C := RFF) (T := TFF) (N := 5) hx hb hts hi_FF hown hK hP 0 rfl rfl 4 (by decide) (hts _ tw_129) (fun _ h9 => h9) rfl dFF_cut_26 ?_
      refine lv_aload_n hx hb dFF_cut_29 rfl (lv_at hl 0 rfl) ?_
      refine va_get (D := (dC, dI)) (ci := 5) (v := .ref q_row) (C := RFF) (T := TFF) (N := 5) hx hb hts hi_FF hown hK hP 0 rfl rfl 4 (by decide) (hts _ tw_129) (fun _ h9 => h9) rfl dFF_cut_30 ?_
      refine va_get (D := (dC, dI)) (ci := 1) (v := .int k_row_place) (C := RFR) (T := TFR) (N := 3) hx hb hts hi_FR hown hK hP 1 rfl rfl 2 (by decide) (hts _ tw_121) (fun _ h9 => h9) rfl dFF_cut_33 ?_
      refine lv_iload_n hx hb dFF_cut_36 rfl (lv_at hl 1 rfl) ?_
      refine va_mmin hx hb (hml.trans hl.1.symm) hown (hts _ tw_226) (hts _ tw_227) (hts _ tw_29) (hts _ tw_228) (Nat.le_of_ble_eq_true rfl) (Nat.le_of_ble_eq_true rfl) (Nat.zero_le _) (Nat.zero_le _) dFF_cut_37 ?_
      refine va_put (D := (dC, dI)) (ci := 1) (v := .int (if a_0 < k_row_place then a_0 else k_row_place)) (ty := .int) (C := RFR) (T := TFR) (N := 3) hx hb hts hi_FR tyFR tyFR_ok nmFR hown hK hP hD hS 1 rfl rfl 2 (by decide) (hts _ tw_121) (fun _ h9 => h9) rfl (by decide +kernel) rfl rfl (Nat.le_of_ble_eq_true rfl) dFF_cut_40 (fun H locs hP hD hS => ?_)
      have hP : va_P (dC, dI) vwCl (w_FF_cut cI cZ cL cB q q_draft q_table q_tally q_finder q_row q_row_cells a_0 (if a_0 < k_row_place then a_0 else k_row_place)) H := hP
      have hD : va_D A (w_FF_cut cI cZ cL cB q q_draft q_table q_tally q_finder q_row q_row_cells a_0 (if a_0 < k_row_place then a_0 else k_row_place)) := hD
      refine lv_iconst (v := 1) hx hb dFF_cut_43 (by decide) ?_
      cases hf
      exact ax_zret hx hb hr rfl hP hD hS dFF_cut_44 hlocks
    · have hf := ifF hf c_2
      refine lv_iconst (v := 0) hx hb dFF_cut_15 (by decide) ?_
      cases hf
      exact ax_zret hx hb hr rfl hP hD hS dFF_cut_16 hlocks
abbrev wsFY_kinds : List Cond := Cond.code yFY_kinds cFY_kinds 3 (some .int) :: tt
set_option maxHeartbeats 4000000 in
set_option maxRecDepth 100000 in
theorem cc_FY_kinds (l : Launch) (dC : Nat → ClassId) (dI : Nat → Nat → Nat) (cI cZ cL cB : ClassId) (q q_numbers : Nat) (sz : Nat) (k_total : Int32) (k_numbers : Nat → Int32) (r : Int32) (hf : f_FY_kinds k_total k_numbers = some r) : Met l yFY_kinds wsFY_kinds ({ frames := 0, cells := 0, slots := 0, locals := 0 }) (va_Pc [.ref q] (kz_P dC dI cI cZ cL cB sz (w_FY_kinds cI cZ cL cB q q_numbers k_total k_numbers))) (va_Qi (fun (r' : Int32) (_ : Unit) => r' = r) (fun _ t => va_P (dC, dI) vwCl (w_FY_kinds cI cZ cL cB q q_numbers k_total k_numbers) t.heap ∧ va_D (va_A (w_FY_kinds cI cZ cL cB q q_numbers k_total k_numbers) sz) (w_FY_kinds cI cZ cL cB q q_numbers k_total k_numbers)) (va_A (w_FY_kinds cI cZ cL cB q q_numbers k_total k_numbers) sz)) 0 0 (va_A (w_FY_kinds cI cZ cL cB q q_numbers k_total k_numbers) sz) := by
  refine Met.ofW (cc := cFY_kinds) (maxL := 3) (ret := (some .int)) (by decide) rfl ?_
  intro p e s m args below meth c s₁ B hml hv
  obtain ⟨rfl, hsz, hP, hZ, hD0⟩ := hv
  have hK := hZ.1
  have hx := B.exec
  have hb := B.bytes
  have hr := B.returns
  have hts : ∀ w ∈ tt, w.before _ s = true := fun w h => atoms_spec (ws := wsFY_kinds) B.pre w (List.mem_cons_of_mem _ h)
  have hown : s.vm.findClass RFY = some m.cls := findClass_of_methodNamed B.named
  have hlocks := B.notSynchronized
  subst hsz
  have hD := hD0.self (sz := s.heap.size)
  generalize hAe : va_A (w_FY_kinds cI cZ cL cB q q_numbers k_total k_numbers) s.heap.size = A at hD ⊢
  have hA : ∀ q : Nat, s.heap.size ≤ q → A q := fun q h => by rw [← hAe]; exact Or.inr h
  have hS : va_S A s.heap s.heap [] := va_S.rf
  have hl := lv_entry [.ref q] (n := 3) (Nat.le_of_ble_eq_true rfl)
  rw [lg_entry_eq]
  generalize (lg_sl [.ref q] ++ List.replicate (3 - (lg_sl [.ref q]).length) Slot.unset).toArray = ls at hl ⊢
  have hl : lv_has ls 3 [(0, .ref q)] := hl
  unfold f_FY_kinds at hf
  refine lv_iconst (v := 0) hx hb dFY_kinds_0 (by decide) ?_
  refine lv_istore_n (lv' := [(1, .int 0), (0, .ref q)]) hx hb dFY_kinds_1 rfl hl (by decide) rfl (fun ls hl => ?_)
  refine lv_iconst (v := 0) hx hb dFY_kinds_2 (by decide) ?_
  refine lv_istore_n (lv' := [(2, .int 0), (1, .int 0), (0, .ref q)]) hx hb dFY_kinds_3 rfl hl (by decide) rfl (fun ls hl => ?_)
  refine Lp2_W (P := fun (x3 : Int32) (x4 : Int32) => ∀ (H : Heap) (locs : List Loc) (ls : Array Slot), va_P (dC, dI) vwCl (w_FY_kinds cI cZ cL cB q q_numbers k_total k_numbers) H → va_D A (w_FY_kinds cI cZ cL cB q q_numbers k_total k_numbers) → va_S A s.heap H locs → lv_has ls 3 [(0, .ref q), (1, .int x3), (2, .int x4)] → W p l e _ s m _ below meth c H locs 0 0 _ (F0 m 4 ls [])) ?_ _ _ _ hf _ _ _ hP hD hS (lv_sub hl [2, 1, 0] rfl)
  clear hf hP hD hS hl
  intro ag1 ih2 x3 x4 hf H locs ls hP hD hS hl
  refine lv_iload_n hx hb dFY_kinds_4 rfl (lv_at hl 2 rfl) ?_
  refine lv_sipush (v := 256) hx hb dFY_kinds_5 (by decide) ?_
  refine lv_icmp_ge (tgt := 29) hx hb dFY_kinds_8 (by decide) (fun c_5 => ?_) (fun c_5 => ?_)
  · have hf := ifT hf c_5
    refine lv_iload_n hx hb dFY_kinds_29 rfl (lv_at hl 1 rfl) ?_
    cases hf
    exact ax_iret hx hb hr hP hD hS dFY_kinds_30 hlocks
  · have hf := ifF hf c_5
    refine lv_aload_n hx hb dFY_kinds_11 rfl (lv_at hl 0 rfl) ?_
    refine va_get (D := (dC, dI)) (ci := 4) (v := .ref q_numbers) (C := RFY) (T := TFY) (N := 2) hx hb hts hi_FY hown hK hP 0 rfl rfl 0 (by decide) (hts _ tw_81) (fun _ h9 => h9) rfl dFY_kinds_12 ?_
    refine lv_iload_n hx hb dFY_kinds_15 rfl (lv_at hl 2 rfl) ?_
    obtain ⟨v6, ev6, h7, hf⟩ := rd_some hf
    refine ax_iald hx hb hK hP 1 0 rfl rfl h7 ev6 dFY_kinds_16 ?_
    refine lv_if_le (tgt := 23) hx hb dFY_kinds_17 (by decide) (fun c_8 => ?_) (fun c_8 => ?_)
    · have hf := ifT hf c_8
      refine lv_iinc (v := (x4 + 1)) (lv' := [(2, .int (x4 + 1)), (0, .ref q), (1, .int x3)]) hx hb dFY_kinds_23 hl (k := 2) rfl rfl (by decide) rfl (fun ls hl => ?_)
      refine lv_goto (tgt := 4) hx hb dFY_kinds_26 (by decide) ?_
      exact ih2 x3 (x4 + 1) hf _ _ _ hP hD hS (lv_sub hl [1, 2, 0] rfl)
    · have hf := ifF hf c_8
      refine lv_iinc (v := (x3 + 1)) (lv' := [(1, .int (x3 + 1)), (0, .ref q), (2, .int x4)]) hx hb dFY_kinds_20 hl (k := 1) rfl rfl (by decide) rfl (fun ls hl => ?_)
      refine lv_iinc (v := (x4 + 1)) (lv' := [(2, .int (x4 + 1)), (1, .int (x3 + 1)), (0, .ref q)]) hx hb dFY_kinds_23 hl (k := 2) rfl rfl (by decide) rfl (fun ls hl => ?_)
      refine lv_goto (tgt := 4) hx hb dFY_kinds_26 (by decide) ?_
      exact ih2 (x3 + 1) (x4 + 1) hf _ _ _ hP hD hS (lv_sub hl [2, 1, 0] rfl)
abbrev wsFF_look : List Cond := Cond.code yFF_look cFF_look 2 (some .int) :: tt
set_option maxHeartbeats 4000000 in
set_option maxRecDepth 100000 in
theorem cc_FF_look (l : Launch) (dC : Nat → ClassId) (dI : Nat → Nat → Nat) (cI cZ cL cB : ClassId) (q q_draft q_table q_tally q_finder q_row q_table_counts q_table_symbols q_table_lengths q_table_codes q_draft_counts q_draft_symbols q_draft_seen q_row_cells q_tally_numbers : Nat) (sz : Nat) (k_table_size : Int32) (k_draft_size : Int32) (k_row_size : Int32) (k_row_place : Int32) (k_tally_total : Int32) (k_tally_numbers : Nat → Int32) (k_table_counts : Nat → Int32) (a_0 : Int32) (r : Int32) (hf : f_FF_look k_table_size k_draft_size k_row_size k_row_place k_tally_total k_tally_numbers k_table_counts a_0 = some r) : Met l yFF_look wsFF_look ({ frames := 2, cells := 0, slots := 0, locals := 43 }) (va_Pc [.ref q, .int a_0] (kz_P dC dI cI cZ cL cB sz (w_FF_look cI cZ cL cB q q_draft q_table q_tally q_finder q_row q_table_counts q_table_symbols q_table_lengths q_table_codes q_draft_counts q_draft_symbols q_draft_seen q_row_cells q_tally_numbers k_table_size k_draft_size k_row_size k_row_place k_tally_total k_tally_numbers k_table_counts))) (va_Qi (fun (r' : Int32) (_ : Unit) => r' = r) (fun _ t => va_P (dC, dI) vwCl (w_FF_look cI cZ cL cB q q_draft q_table q_tally q_finder q_row q_table_counts q_table_symbols q_table_lengths q_table_codes q_draft_counts q_draft_symbols q_draft_seen q_row_cells q_tally_numbers k_table_size k_draft_size k_row_size k_row_place k_tally_total k_tally_numbers k_table_counts) t.heap ∧ va_D (va_A (w_FF_look cI cZ cL cB q q_draft q_table q_tally q_finder q_row q_table_counts q_table_symbols q_table_lengths q_table_codes q_draft_counts q_draft_symbols q_draft_seen q_row_cells q_tally_numbers k_table_size k_draft_size k_row_size k_row_place k_tally_total k_tally_numbers k_table_counts) sz) (w_FF_look cI cZ cL cB q q_draft q_table q_tally q_finder q_row q_table_counts q_table_symbols q_table_lengths q_table_codes q_draft_counts q_draft_symbols q_draft_seen q_row_cells q_tally_numbers k_table_size k_draft_size k_row_size k_row_place k_tally_total k_tally_numbers k_table_counts)) (va_A (w_FF_look cI cZ cL cB q q_draft q_table q_tally q_finder q_row q_table_counts q_table_symbols q_table_lengths q_table_codes q_draft_counts q_draft_symbols q_draft_seen q_row_cells q_tally_numbers k_table_size k_draft_size k_row_size k_row_place k_tally_total k_tally_numbers k_table_counts) sz)) 0 0 (va_A (w_FF_look cI cZ cL cB q q_draft q_table q_tally q_finder q_row q_table_counts q_table_symbols q_table_lengths q_table_codes q_draft_counts q_draft_symbols q_draft_seen q_row_cells q_tally_numbers k_table_size k_draft_size k_row_size k_row_place k_tally_total k_tally_numbers k_table_counts) sz) := by
  refine Met.ofW (cc := cFF_look) (maxL := 2) (ret := (some .int)) (by decide) rfl ?_
  intro p e s m args below meth c s₁ B hml hv
  obtain ⟨rfl, hsz, hP, hZ, hD0⟩ := hv
  have hK := hZ.1
  have hx := B.exec
  have hb := B.bytes
  have hr := B.returns
  have hts : ∀ w ∈ tt, w.before _ s = true := fun w h => atoms_spec (ws := wsFF_look) B.pre w (List.mem_cons_of_mem _ h)
  have hown : s.vm.findClass RFF = some m.cls := findClass_of_methodNamed B.named
  have hlocks := B.notSynchronized
  subst hsz
  have hD := hD0.self (sz := s.heap.size)
  generalize hAe : va_A (w_FF_look cI cZ cL cB q q_draft q_table q_tally q_finder q_row q_table_counts q_table_symbols q_table_lengths q_table_codes q_draft_counts q_draft_symbols q_draft_seen q_row_cells q_tally_numbers k_table_size k_draft_size k_row_size k_row_place k_tally_total k_tally_numbers k_table_counts) s.heap.size = A at hD ⊢
  have hA : ∀ q : Nat, s.heap.size ≤ q → A q := fun q h => by rw [← hAe]; exact Or.inr h
  have hS : va_S A s.heap s.heap [] := va_S.rf
  have hl := lv_entry [.ref q, .int a_0] (n := 2) (Nat.le_of_ble_eq_true rfl)
  rw [lg_entry_eq]
  generalize (lg_sl [.ref q, .int a_0] ++ List.replicate (2 - (lg_sl [.ref q, .int a_0]).length) Slot.unset).toArray = ls at hl ⊢
  have hl : lv_has ls 2 [(0, .ref q), (1, .int a_0)] := hl
  unfold f_FF_look at hf
  refine lv_iload_n hx hb dFF_look_0 rfl (lv_at hl 1 rfl) ?_
  by_cases c_1 : a_0 = 0
  · have hf := ifT hf c_1
    refine lv_tableIn (off := 43) (tgt := 44) hx hb dFF_look_1 (by rw [c_1]; decide) (by rw [c_1]; decide) (by rw [c_1]; rfl) (by decide) ?_
    refine lv_aload_n hx hb dFF_look_44 rfl (lv_at hl 0 rfl) ?_
    refine va_get (D := (dC, dI)) (ci := 5) (v := .ref q_table) (C := RFF) (T := TFF) (N := 5) hx hb hts hi_FF hown hK hP 0 rfl rfl 1 (by decide) (hts _ tw_126) (fun _ h9 => h9) rfl dFF_look_45 ?_
    refine va_get (D := (dC, dI)) (ci := 3) (v := .int k_table_size) (C := RFT) (T := TFT) (N := 5) hx hb hts hi_FT hown hK hP 1 rfl rfl 4 (by decide) (hts _ tw_70) (fun _ h9 => h9) rfl dFF_look_48 ?_
    cases hf
    exact ax_iret hx hb hr hP hD hS dFF_look_51 hlocks
  have hf := ifF hf c_1
  by_cases c_2 : a_0 = 1
  · have hf := ifT hf c_2
    refine lv_tableIn (off := 51) (tgt := 52) hx hb dFF_look_1 (by rw [c_2]; decide) (by rw [c_2]; decide) (by rw [c_2]; rfl) (by decide) ?_
    refine lv_aload_n hx hb dFF_look_52 rfl (lv_at hl 0 rfl) ?_
    refine va_get (D := (dC, dI)) (ci := 5) (v := .ref q_draft) (C := RFF) (T := TFF) (N := 5) hx hb hts hi_FF hown hK hP 0 rfl rfl 0 (by decide) (hts _ tw_125) (fun _ h9 => h9) rfl dFF_look_53 ?_
    refine va_get (D := (dC, dI)) (ci := 2) (v := .int k_draft_size) (C := RFD) (T := TFD) (N := 4) hx hb hts hi_FD hown hK hP 2 rfl rfl 2 (by decide) (hts _ tw_48) (fun _ h9 => h9) rfl dFF_look_56 ?_
    cases hf
    exact ax_iret hx hb hr hP hD hS dFF_look_59 hlocks
  have hf := ifF hf c_2
  by_cases c_3 : a_0 = 2
  · have hf := ifT hf c_3
    refine lv_tableIn (off := 59) (tgt := 60) hx hb dFF_look_1 (by rw [c_3]; decide) (by rw [c_3]; decide) (by rw [c_3]; rfl) (by decide) ?_
    refine lv_aload_n hx hb dFF_look_60 rfl (lv_at hl 0 rfl) ?_
    refine va_get (D := (dC, dI)) (ci := 5) (v := .ref q_row) (C := RFF) (T := TFF) (N := 5) hx hb hts hi_FF hown hK hP 0 rfl rfl 4 (by decide) (hts _ tw_129) (fun _ h9 => h9) rfl dFF_look_61 ?_
    refine va_get (D := (dC, dI)) (ci := 1) (v := .int k_row_size) (C := RFR) (T := TFR) (N := 3) hx hb hts hi_FR hown hK hP 3 rfl rfl 1 (by decide) (hts _ tw_119) (fun _ h9 => h9) rfl dFF_look_64 ?_
    cases hf
    exact ax_iret hx hb hr hP hD hS dFF_look_67 hlocks
  have hf := ifF hf c_3
  by_cases c_4 : a_0 = 3
  · have hf := ifT hf c_4
    refine lv_tableIn (off := 67) (tgt := 68) hx hb dFF_look_1 (by rw [c_4]; decide) (by rw [c_4]; decide) (by rw [c_4]; rfl) (by decide) ?_
    refine lv_aload_n hx hb dFF_look_68 rfl (lv_at hl 0 rfl) ?_
    refine va_get (D := (dC, dI)) (ci := 5) (v := .ref q_row) (C := RFF) (T := TFF) (N := 5) hx hb hts hi_FF hown hK hP 0 rfl rfl 4 (by decide) (hts _ tw_129) (fun _ h9 => h9) rfl dFF_look_69 ?_
    refine va_get (D := (dC, dI)) (ci := 1) (v := .int k_row_place) (C := RFR) (T := TFR) (N := 3) hx hb hts hi_FR hown hK hP 3 rfl rfl 2 (by decide) (hts _ tw_121) (fun _ h9 => h9) rfl dFF_look_72 ?_
    cases hf
    exact ax_iret hx hb hr hP hD hS dFF_look_75 hlocks
  have hf := ifF hf c_4
  by_cases c_5 : a_0 = 4
  · have hf := ifT hf c_5
    refine lv_tableIn (off := 75) (tgt := 76) hx hb dFF_look_1 (by rw [c_5]; decide) (by rw [c_5]; decide) (by rw [c_5]; rfl) (by decide) ?_
    refine lv_aload_n hx hb dFF_look_76 rfl (lv_at hl 0 rfl) ?_
    refine va_get (D := (dC, dI)) (ci := 5) (v := .ref q_tally) (C := RFF) (T := TFF) (N := 5) hx hb hts hi_FF hown hK hP 0 rfl rfl 2 (by decide) (hts _ tw_127) (fun _ h9 => h9) rfl dFF_look_77 ?_
    refine va_get (D := (dC, dI)) (ci := 4) (v := .int k_tally_total) (C := RFY) (T := TFY) (N := 2) hx hb hts hi_FY hown hK hP 4 rfl rfl 1 (by decide) (hts _ tw_84) (fun _ h9 => h9) rfl dFF_look_80 ?_
    cases hf
    exact ax_iret hx hb hr hP hD hS dFF_look_83 hlocks
  have hf := ifF hf c_5
  by_cases c_6 : a_0 = 5
  · have hf := ifT hf c_6
    refine lv_tableIn (off := 83) (tgt := 84) hx hb dFF_look_1 (by rw [c_6]; decide) (by rw [c_6]; decide) (by rw [c_6]; rfl) (by decide) ?_
    refine lv_aload_n hx hb dFF_look_84 rfl (lv_at hl 0 rfl) ?_
    refine va_get (D := (dC, dI)) (ci := 5) (v := .ref q_tally) (C := RFF) (T := TFF) (N := 5) hx hb hts hi_FF hown hK hP 0 rfl rfl 2 (by decide) (hts _ tw_127) (fun _ h9 => h9) rfl dFF_look_85 ?_
    obtain ⟨r7, h8, hf⟩ := bd1_some hf
    have hPc := hP.sub (ws' := (w_FY_kinds cI cZ cL cB q_tally q_tally_numbers k_tally_total k_tally_numbers)) [4, 5] rfl
    have hDc := hD.sub (ws' := (w_FY_kinds cI cZ cL cB q_tally q_tally_numbers k_tally_total k_tally_numbers)) [4, 5] (by decide) rfl
    refine ax_calli (wr := [(q, .inr (5, [.ref q_draft, .ref q_table, .ref q_tally, .ref q_finder, .ref q_row])), (q_table, .inr (3, [.ref q_table_counts, .ref q_table_symbols, .ref q_table_lengths, .ref q_table_codes, .int k_table_size])), (q_draft, .inr (2, [.ref q_draft_counts, .ref q_draft_symbols, .int k_draft_size, .ref q_draft_seen])), (q_row, .inr (1, [.ref q_row_cells, .int k_row_size, .int k_row_place])), (q_table_counts, .inl (cI, 17, .inl k_table_counts))]) (w2 := (w_FF_look cI cZ cL cB q q_draft q_table q_tally q_finder q_row q_table_counts q_table_symbols q_table_lengths q_table_codes q_draft_counts q_draft_symbols q_draft_seen q_row_cells q_tally_numbers k_table_size k_draft_size k_row_size k_row_place k_tally_total k_tally_numbers k_table_counts)) (va_runV (As := []) (rest := []) ⟨hx, hb, hml, hown, hts⟩ (cc_FY_kinds l dC dI cI cZ cL cB q_tally q_tally_numbers s.heap.size k_tally_total k_tally_numbers r7 h8) (cwV 0 hts (tt_V tw_290 tw_291 tw_292 tw_24 tw_293) rfl rfl rfl (by decide +kernel) ⟨Nat.le_of_ble_eq_true rfl, Nat.le_of_ble_eq_true rfl⟩) ⟨kz_fb, va_recv hK hPc (ci := 4) (q0 := 0) rfl rfl, kz_pre hPc hZ hDc⟩ rfl rfl hl.1 rfl (lv_room (Nat.le_of_ble_eq_true rfl)) dFF_look_88 ⟨Nat.zero_le _, Nat.zero_le _⟩) hP hD hS hA [4, 5] [0, 1, 2, 3, 6] [0, 1, 2, 3, 5, 6, 4] rfl rfl (by decide) (by decide) rfl (by decide) (fun H locs hP hD hS => ?_)
    cases hf
    exact ax_iret hx hb hr hP hD hS dFF_look_91 hlocks
  have hf := ifF hf c_6
  by_cases c_9 : a_0 = 6
  · have hf := ifT hf c_9
    refine lv_tableIn (off := 91) (tgt := 92) hx hb dFF_look_1 (by rw [c_9]; decide) (by rw [c_9]; decide) (by rw [c_9]; rfl) (by decide) ?_
    refine lv_aload_n hx hb dFF_look_92 rfl (lv_at hl 0 rfl) ?_
    refine va_get (D := (dC, dI)) (ci := 5) (v := .ref q_table) (C := RFF) (T := TFF) (N := 5) hx hb hts hi_FF hown hK hP 0 rfl rfl 1 (by decide) (hts _ tw_126) (fun _ h9 => h9) rfl dFF_look_93 ?_
    refine va_get (D := (dC, dI)) (ci := 3) (v := .ref q_table_counts) (C := RFT) (T := TFT) (N := 5) hx hb hts hi_FT hown hK hP 1 rfl rfl 0 (by decide) (hts _ tw_62) (fun _ h9 => h9) rfl dFF_look_96 ?_
    refine lv_bipush (v := 16) hx hb dFF_look_99 (by decide) ?_
    obtain ⟨r10, h11, hf⟩ := bd1_some hf
    have hPc := hP.sub (ws' := (w_FF_greatestLength cI cZ cL cB q_table_counts 17 k_table_counts)) [6] rfl
    have hDc := hD.sub (ws' := (w_FF_greatestLength cI cZ cL cB q_table_counts 17 k_table_counts)) [6] (by decide) rfl
    refine ax_calli (wr := [(q, .inr (5, [.ref q_draft, .ref q_table, .ref q_tally, .ref q_finder, .ref q_row])), (q_table, .inr (3, [.ref q_table_counts, .ref q_table_symbols, .ref q_table_lengths, .ref q_table_codes, .int k_table_size])), (q_draft, .inr (2, [.ref q_draft_counts, .ref q_draft_symbols, .int k_draft_size, .ref q_draft_seen])), (q_row, .inr (1, [.ref q_row_cells, .int k_row_size, .int k_row_place])), (q_tally, .inr (4, [.ref q_tally_numbers, .int k_tally_total])), (q_tally_numbers, .inl (cI, 256, .inl k_tally_numbers))]) (w2 := (w_FF_look cI cZ cL cB q q_draft q_table q_tally q_finder q_row q_table_counts q_table_symbols q_table_lengths q_table_codes q_draft_counts q_draft_symbols q_draft_seen q_row_cells q_tally_numbers k_table_size k_draft_size k_row_size k_row_place k_tally_total k_tally_numbers k_table_counts)) (va_runS (As := [.ref q_table_counts, .int 16]) (rest := []) ⟨hx, hb, hml, hown, hts⟩ (cc_FF_greatestLength l dC dI cI cZ cL cB q_table_counts s.heap.size 17 k_table_counts 16 r10 h11) (va_cwS 2 hts (tt_S tw_294 tw_224 tw_21 tw_225) rfl rfl rfl (by decide +kernel) ⟨Nat.le_of_ble_eq_true rfl, Nat.le_of_ble_eq_true rfl⟩) ⟨kz_fb, kz_pre hPc hZ hDc⟩ rfl rfl hl.1 rfl (lv_room (Nat.le_of_ble_eq_true rfl)) dFF_look_101 ⟨Nat.zero_le _, Nat.zero_le _⟩) hP hD hS hA [6] [0, 1, 2, 3, 4, 5] [0, 1, 2, 3, 4, 5, 6] rfl rfl (by decide) (by decide) rfl (by decide) (fun H locs hP hD hS => ?_)
    cases hf
    exact ax_iret hx hb hr hP hD hS dFF_look_104 hlocks
  have hf := ifF hf c_9
  refine lv_tableOut (tgt := 105) hx hb dFF_look_1 (by have z0 := lv_neT c_1 (show (0 : Int32).toInt = 0 from rfl); have z1 := lv_neT c_2 (show (1 : Int32).toInt = 1 from rfl); have z2 := lv_neT c_3 (show (2 : Int32).toInt = 2 from rfl); have z3 := lv_neT c_4 (show (3 : Int32).toInt = 3 from rfl); have z4 := lv_neT c_5 (show (4 : Int32).toInt = 4 from rfl); have z5 := lv_neT c_6 (show (5 : Int32).toInt = 5 from rfl); have z6 := lv_neT c_9 (show (6 : Int32).toInt = 6 from rfl); omega) (by decide) ?_
  refine lv_iconst (v := (-1)) hx hb dFF_look_105 (by decide) ?_
  cases hf
  exact ax_iret hx hb hr hP hD hS dFF_look_106 hlocks
abbrev wsFY_add : List Cond := Cond.code yFY_add cFY_add 3 none :: tt
set_option maxHeartbeats 4000000 in
set_option maxRecDepth 100000 in
theorem cc_FY_add (l : Launch) (dC : Nat → ClassId) (dI : Nat → Nat → Nat) (cI cZ cL cB : ClassId) (q q_numbers : Nat) (sz : Nat) (k_total : Int32) (k_numbers : Nat → Int32) (a_0 : Int32) (a_1 : Int32) (o_total : Int32) (o_numbers : Nat → Int32) (hf : f_FY_add k_total k_numbers a_0 a_1 = some (o_total, o_numbers)) : Met l yFY_add wsFY_add ({ frames := 0, cells := 0, slots := 0, locals := 0 }) (va_Pc [.ref q, .int a_0, .int a_1] (kz_P dC dI cI cZ cL cB sz (w_FY_add cI cZ cL cB q q_numbers k_total k_numbers))) (va_Qv (fun (_ : Unit) => True) (fun _ t => va_P (dC, dI) vwCl (w_FY_add cI cZ cL cB q q_numbers o_total o_numbers) t.heap ∧ va_D (va_A (w_FY_add cI cZ cL cB q q_numbers k_total k_numbers) sz) (w_FY_add cI cZ cL cB q q_numbers o_total o_numbers)) (va_A (w_FY_add cI cZ cL cB q q_numbers k_total k_numbers) sz)) 0 0 (va_A (w_FY_add cI cZ cL cB q q_numbers k_total k_numbers) sz) := by
  refine Met.ofW (cc := cFY_add) (maxL := 3) (ret := none) (by decide) rfl ?_
  intro p e s m args below meth c s₁ B hml hv
  obtain ⟨rfl, hsz, hP, hZ, hD0⟩ := hv
  have hK := hZ.1
  have hx := B.exec
  have hb := B.bytes
  have hr := B.returns
  have hts : ∀ w ∈ tt, w.before _ s = true := fun w h => atoms_spec (ws := wsFY_add) B.pre w (List.mem_cons_of_mem _ h)
  have hown : s.vm.findClass RFY = some m.cls := findClass_of_methodNamed B.named
  have hlocks := B.notSynchronized
  subst hsz
  have hD := hD0.self (sz := s.heap.size)
  generalize hAe : va_A (w_FY_add cI cZ cL cB q q_numbers k_total k_numbers) s.heap.size = A at hD ⊢
  have hA : ∀ q : Nat, s.heap.size ≤ q → A q := fun q h => by rw [← hAe]; exact Or.inr h
  have hS : va_S A s.heap s.heap [] := va_S.rf
  have hl := lv_entry [.ref q, .int a_0, .int a_1] (n := 3) (Nat.le_of_ble_eq_true rfl)
  rw [lg_entry_eq]
  generalize (lg_sl [.ref q, .int a_0, .int a_1] ++ List.replicate (3 - (lg_sl [.ref q, .int a_0, .int a_1]).length) Slot.unset).toArray = ls at hl ⊢
  have hl : lv_has ls 3 [(0, .ref q), (1, .int a_0), (2, .int a_1)] := hl
  unfold f_FY_add at hf
  refine lv_aload_n hx hb dFY_add_0 rfl (lv_at hl 0 rfl) ?_
  refine va_get (D := (dC, dI)) (ci := 4) (v := .ref q_numbers) (C := RFY) (T := TFY) (N := 2) hx hb hts hi_FY hown hK hP 0 rfl rfl 0 (by decide) (hts _ tw_81) (fun _ h9 => h9) rfl dFY_add_1 ?_
  refine lv_iload_n hx hb dFY_add_4 rfl (lv_at hl 1 rfl) ?_
  refine lv_dup2_11 hx hb dFY_add_5 rfl rfl ?_
  obtain ⟨v1, ev1, h2, hf⟩ := rd_some hf
  refine ax_iald hx hb hK hP 1 0 rfl rfl h2 ev1 dFY_add_6 ?_
  refine lv_iload_n hx hb dFY_add_7 rfl (lv_at hl 2 rfl) ?_
  refine lv_iadd hx hb dFY_add_8 ?_
  obtain ⟨g3, eg3, h4, hf⟩ := wr_some hf
  refine ax_iast hx hb hK hP hD hS 1 0 rfl rfl h4 eg3 dFY_add_9 (ws' := (w_FY_add cI cZ cL cB q q_numbers k_total g3)) rfl (fun H locs hP hD hS => ?_)
  refine lv_aload_n hx hb dFY_add_10 rfl (lv_at hl 0 rfl) ?_
  refine lv_dup hx hb dFY_add_11 rfl ?_
  refine va_get (D := (dC, dI)) (ci := 4) (v := .int k_total) (C := RFY) (T := TFY) (N := 2) hx hb hts hi_FY hown hK hP 0 rfl rfl 1 (by decide) (hts _ tw_83) (fun _ h9 => h9) rfl dFY_add_12 ?_
  refine lv_iload_n hx hb dFY_add_15 rfl (lv_at hl 2 rfl) ?_
  refine lv_iadd hx hb dFY_add_16 ?_
  refine va_put (D := (dC, dI)) (ci := 4) (v := .int (k_total + a_1)) (ty := .int) (C := RFY) (T := TFY) (N := 2) hx hb hts hi_FY tyFY tyFY_ok nmFY hown hK hP hD hS 0 rfl rfl 1 (by decide) (hts _ tw_83) (fun _ h9 => h9) rfl (by decide +kernel) rfl rfl (Nat.le_of_ble_eq_true rfl) dFY_add_17 (fun H locs hP hD hS => ?_)
  have hP : va_P (dC, dI) vwCl (w_FY_add cI cZ cL cB q q_numbers (k_total + a_1) g3) H := hP
  have hD : va_D A (w_FY_add cI cZ cL cB q q_numbers (k_total + a_1) g3) := hD
  cases hf
  exact ax_vret hx hb hr hP hD hS dFY_add_20 hlocks
abbrev wsFR_hasRoom : List Cond := Cond.code yFR_hasRoom cFR_hasRoom 2 (some .boolean) :: tt
set_option maxHeartbeats 4000000 in
set_option maxRecDepth 100000 in
theorem cc_FR_hasRoom (l : Launch) (dC : Nat → ClassId) (dI : Nat → Nat → Nat) (cI cZ cL cB : ClassId) (q q_cells : Nat) (sz : Nat) (k_size : Int32) (k_place : Int32) (a_0 : Int32) (r : Int32) (hf : f_FR_hasRoom k_size k_place a_0 = some r) : Met l yFR_hasRoom wsFR_hasRoom ({ frames := 0, cells := 0, slots := 0, locals := 0 }) (va_Pc [.ref q, .int a_0] (kz_P dC dI cI cZ cL cB sz (w_FR_hasRoom cI cZ cL cB q q_cells k_size k_place))) (va_Qi (fun (r' : Int32) (_ : Unit) => r' = r) (fun _ t => va_P (dC, dI) vwCl (w_FR_hasRoom cI cZ cL cB q q_cells k_size k_place) t.heap ∧ va_D (va_A (w_FR_hasRoom cI cZ cL cB q q_cells k_size k_place) sz) (w_FR_hasRoom cI cZ cL cB q q_cells k_size k_place)) (va_A (w_FR_hasRoom cI cZ cL cB q q_cells k_size k_place) sz)) 0 0 (va_A (w_FR_hasRoom cI cZ cL cB q q_cells k_size k_place) sz) := by
  refine Met.ofW (cc := cFR_hasRoom) (maxL := 2) (ret := (some .boolean)) (by decide) rfl ?_
  intro p e s m args below meth c s₁ B hml hv
  obtain ⟨rfl, hsz, hP, hZ, hD0⟩ := hv
  have hK := hZ.1
  have hx := B.exec
  have hb := B.bytes
  have hr := B.returns
  have hts : ∀ w ∈ tt, w.before _ s = true := fun w h => atoms_spec (ws := wsFR_hasRoom) B.pre w (List.mem_cons_of_mem _ h)
  have hown : s.vm.findClass RFR = some m.cls := findClass_of_methodNamed B.named
  have hlocks := B.notSynchronized
  subst hsz
  have hD := hD0.self (sz := s.heap.size)
  generalize hAe : va_A (w_FR_hasRoom cI cZ cL cB q q_cells k_size k_place) s.heap.size = A at hD ⊢
  have hA : ∀ q : Nat, s.heap.size ≤ q → A q := fun q h => by rw [← hAe]; exact Or.inr h
  have hS : va_S A s.heap s.heap [] := va_S.rf
  have hl := lv_entry [.ref q, .int a_0] (n := 2) (Nat.le_of_ble_eq_true rfl)
  rw [lg_entry_eq]
  generalize (lg_sl [.ref q, .int a_0] ++ List.replicate (2 - (lg_sl [.ref q, .int a_0]).length) Slot.unset).toArray = ls at hl ⊢
  have hl : lv_has ls 2 [(0, .ref q), (1, .int a_0)] := hl
  unfold f_FR_hasRoom at hf
  refine lv_iload_n hx hb dFR_hasRoom_0 rfl (lv_at hl 1 rfl) ?_
  refine lv_ldc (v := 65536) hx hb hown (hts _ tw_321) dFR_hasRoom_1 ?_
  refine lv_aload_n hx hb dFR_hasRoom_3 rfl (lv_at hl 0 rfl) ?_
  refine va_get (D := (dC, dI)) (ci := 1) (v := .int k_size) (C := RFR) (T := TFR) (N := 3) hx hb hts hi_FR hown hK hP 0 rfl rfl 1 (by decide) (hts _ tw_118) (fun _ h9 => h9) rfl dFR_hasRoom_4 ?_
  refine lv_isub hx hb dFR_hasRoom_7 ?_
  refine lv_icmp_gt (tgt := 15) hx hb dFR_hasRoom_8 (by decide) (fun c_1 => ?_) (fun c_1 => ?_)
  · have hf := ifT hf c_1
    refine lv_iconst (v := 0) hx hb dFR_hasRoom_15 (by decide) ?_
    cases hf
    exact ax_zret hx hb hr rfl hP hD hS dFR_hasRoom_16 hlocks
  · have hf := ifF hf c_1
    refine lv_iconst (v := 1) hx hb dFR_hasRoom_11 (by decide) ?_
    refine lv_goto (tgt := 16) hx hb dFR_hasRoom_12 (by decide) ?_
    cases hf
    exact ax_zret hx hb hr rfl hP hD hS dFR_hasRoom_16 hlocks
