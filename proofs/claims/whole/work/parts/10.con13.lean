abbrev wsMM_raw : List Cond := Cond.code yMM_raw cMM_raw 3 (some .int) :: tt
set_option maxHeartbeats 4000000 in
set_option maxRecDepth 100000 in
theorem cc_MM_raw (l : Launch) (dC : Nat → ClassId) (dI : Nat → Nat → Nat) (cI cZ cL cB : ClassId) (q q_draft q_drafted q_counts q_symbols q_lengths q_codes q_often q_row q_number q_group q_bitsOf q_many : Nat) (sz : Nat) (k_thrown : Int32) (k_drafts : Int32) (k_words : Int32) (k_total : Int32) (k_size : Int32) (k_place : Int32) (k_row : Nat → Int32) (a_0 : Int32) (a_1 : Int32) (r : Int32) (o_thrown : Int32) (o_size : Int32) (o_row : Nat → Int32) (hf : f_MM_raw k_thrown k_drafts k_words k_total k_size k_place k_row a_0 a_1 = some (r, o_thrown, o_size, o_row)) : Met l yMM_raw wsMM_raw ({ frames := 1, cells := 0, slots := 0, locals := 23 }) (va_Pc [.ref q, .int a_0, .int a_1] (kz_P dC dI cI cZ cL cB sz (w_MM_raw cI cZ cL cB q q_draft q_drafted q_counts q_symbols q_lengths q_codes q_often q_row q_number q_group q_bitsOf q_many k_thrown k_drafts k_words k_total k_size k_place k_row))) (va_Qi (fun (r' : Int32) (_ : Unit) => r' = r) (fun _ t => va_P (dC, dI) vwCl (w_MM_raw cI cZ cL cB q q_draft q_drafted q_counts q_symbols q_lengths q_codes q_often q_row q_number q_group q_bitsOf q_many o_thrown k_drafts k_words k_total o_size k_place o_row) t.heap ∧ va_D (va_A (w_MM_raw cI cZ cL cB q q_draft q_drafted q_counts q_symbols q_lengths q_codes q_often q_row q_number q_group q_bitsOf q_many k_thrown k_drafts k_words k_total k_size k_place k_row) sz) (w_MM_raw cI cZ cL cB q q_draft q_drafted q_counts q_symbols q_lengths q_codes q_often q_row q_number q_group q_bitsOf q_many o_thrown k_drafts k_words k_total o_size k_place o_row)) (va_A (w_MM_raw cI cZ cL cB q q_draft q_drafted q_counts q_symbols q_lengths q_codes q_often q_row q_number q_group q_bitsOf q_many k_thrown k_drafts k_words k_total k_size k_place k_row) sz)) 0 0 (va_A (w_MM_raw cI cZ cL cB q q_draft q_drafted q_counts q_symbols q_lengths q_codes q_often q_row q_number q_group q_bitsOf q_many k_thrown k_drafts k_words k_total k_size k_place k_row) sz) := by
  refine Met.ofW (cc := cMM_raw) (maxL := 3) (ret := (some .int)) (by decide) rfl ?_
  intro p e s m args below meth c s₁ B hml hv
  obtain ⟨rfl, hsz, hP, hZ, hD0⟩ := hv
  have hK := hZ.1
  have hx := B.exec
  have hb := B.bytes
  have hr := B.returns
  have hts : ∀ w ∈ tt, w.before _ s = true := fun w h => atoms_spec (ws := wsMM_raw) B.pre w (List.mem_cons_of_mem _ h)
  have hown : s.vm.findClass RMM = some m.cls := findClass_of_methodNamed B.named
  have hlocks := B.notSynchronized
  subst hsz
  have hD := hD0.self (sz := s.heap.size)
  generalize hAe : va_A (w_MM_raw cI cZ cL cB q q_draft q_drafted q_counts q_symbols q_lengths q_codes q_often q_row q_number q_group q_bitsOf q_many k_thrown k_drafts k_words k_total k_size k_place k_row) s.heap.size = A at hD ⊢
  have hA : ∀ q : Nat, s.heap.size ≤ q → A q := fun q h => by rw [← hAe]; exact Or.inr h
  have hS : va_S A s.heap s.heap [] := va_S.rf
  have hl := lv_entry [.ref q, .int a_0, .int a_1] (n := 3) (Nat.le_of_ble_eq_true rfl)
  rw [lg_entry_eq]
  generalize (lg_sl [.ref q, .int a_0, .int a_1] ++ List.replicate (3 - (lg_sl [.ref q, .int a_0, .int a_1]).length) Slot.unset).toArray = ls at hl ⊢
  have hl : lv_has ls 3 [(0, .ref q), (1, .int a_0), (2, .int a_1)] := hl
  unfold f_MM_raw at hf
  refine lv_aload_n hx hb dMM_raw_0 rfl (lv_at hl 0 rfl) ?_
  refine lv_iload_n hx hb dMM_raw_1 rfl (lv_at hl 2 rfl) ?_
  refine lv_if_lt (tgt := 11) hx hb dMM_raw_2 (by decide) (fun c_1 => ?_) (fun c_1 => ?_)
  · have hf := ifT hf c_1
    refine lv_iconst (v := 1) hx hb dMM_raw_11 (by decide) ?_
    refine lv_goto (tgt := 31) hx hb dMM_raw_12 (by decide) ?_
    refine va_put (D := (dC, dI)) (ci := 6) (v := .int 1) (ty := .int) (C := RMM) (T := TMM) (N := 18) hx hb hts hi_MM tyMM tyMM_ok nmMM hown hK hP hD hS 0 rfl rfl 0 (by decide) (hts _ tw_340) (fun _ h9 => h9) rfl (by decide +kernel) rfl rfl (Nat.le_of_ble_eq_true rfl) dMM_raw_31 (fun H locs hP hD hS => ?_)
    have hP : va_P (dC, dI) vwCl (w_MM_raw cI cZ cL cB q q_draft q_drafted q_counts q_symbols q_lengths q_codes q_often q_row q_number q_group q_bitsOf q_many 1 k_drafts k_words k_total k_size k_place k_row) H := hP
    have hD : va_D A (w_MM_raw cI cZ cL cB q q_draft q_drafted q_counts q_symbols q_lengths q_codes q_often q_row q_number q_group q_bitsOf q_many 1 k_drafts k_words k_total k_size k_place k_row) := hD
    refine lv_aload_n hx hb dMM_raw_34 rfl (lv_at hl 0 rfl) ?_
    refine va_get (D := (dC, dI)) (ci := 6) (v := .int 1) (C := RMM) (T := TMM) (N := 18) hx hb hts hi_MM hown hK hP 0 rfl rfl 0 (by decide) (hts _ tw_340) (fun _ h9 => h9) rfl dMM_raw_35 ?_
    refine lv_if_le (tgt := 43) hx hb dMM_raw_38 (by decide) (fun c_2 => ?_) (fun c_2 => ?_)
    · have hf := ifT hf c_2
      refine lv_aload_n hx hb dMM_raw_43 rfl (lv_at hl 0 rfl) ?_
      refine lv_iload_n hx hb dMM_raw_44 rfl (lv_at hl 1 rfl) ?_
      refine lv_iload_n hx hb dMM_raw_45 rfl (lv_at hl 2 rfl) ?_
      obtain ⟨o3, o4, h5, hf⟩ := bd2_some hf
      have hPc := hP.sub (ws' := (w_MM_lay cI cZ cL cB q q_draft q_drafted q_counts q_symbols q_lengths q_codes q_often q_row q_number q_group q_bitsOf q_many 1 k_drafts k_words k_total k_size k_place k_row)) [0, 1] rfl
      have hDc := hD.sub (ws' := (w_MM_lay cI cZ cL cB q q_draft q_drafted q_counts q_symbols q_lengths q_codes q_often q_row q_number q_group q_bitsOf q_many 1 k_drafts k_words k_total k_size k_place k_row)) [0, 1] (by decide) rfl
      refine ax_callv (wr := []) (w2 := (w_MM_raw cI cZ cL cB q q_draft q_drafted q_counts q_symbols q_lengths q_codes q_often q_row q_number q_group q_bitsOf q_many 1 k_drafts k_words k_total o3 k_place o4)) (va_runV (As := [.int a_0, .int a_1]) (rest := []) ⟨hx, hb, hml, hown, hts⟩ (cc_MM_lay l dC dI cI cZ cL cB q q_draft q_drafted q_counts q_symbols q_lengths q_codes q_often q_row q_number q_group q_bitsOf q_many H.size 1 k_drafts k_words k_total k_size k_place k_row a_0 a_1 o3 o4 h5) (cwV 2 hts (tt_V tw_444 tw_445 tw_18 tw_27 tw_446) rfl rfl rfl (by decide +kernel) ⟨Nat.le_of_ble_eq_true rfl, Nat.le_of_ble_eq_true rfl⟩) ⟨kz_fb, va_recv hK hPc (ci := 6) (q0 := 0) rfl rfl, kz_pre hPc hZ hDc⟩ rfl rfl hl.1 rfl (lv_room (Nat.le_of_ble_eq_true rfl)) dMM_raw_46 ⟨Nat.zero_le _, Nat.zero_le _⟩) hP hD hS hA [0, 1] [] [0, 1] rfl rfl (by decide) (by decide) rfl (by decide) (fun H locs hP hD hS => ?_)
      refine lv_aload_n hx hb dMM_raw_49 rfl (lv_at hl 0 rfl) ?_
      refine va_get (D := (dC, dI)) (ci := 6) (v := .int o3) (C := RMM) (T := TMM) (N := 18) hx hb hts hi_MM hown hK hP 0 rfl rfl 12 (by decide) (hts _ tw_352) (fun _ h9 => h9) rfl dMM_raw_50 ?_
      cases hf
      exact ax_iret hx hb hr hP hD hS dMM_raw_53 hlocks
    · have hf := ifF hf c_2
      refine lv_iconst (v := 0) hx hb dMM_raw_41 (by decide) ?_
      cases hf
      exact ax_iret hx hb hr hP hD hS dMM_raw_42 hlocks
  · have hf := ifF hf c_1
    refine lv_iload_n hx hb dMM_raw_5 rfl (lv_at hl 2 rfl) ?_
    refine lv_bipush (v := 16) hx hb dMM_raw_6 (by decide) ?_
    refine lv_icmp_le (tgt := 15) hx hb dMM_raw_8 (by decide) (fun c_6 => ?_) (fun c_6 => ?_)
    · have hf := ifT hf c_6
      refine lv_aload_n hx hb dMM_raw_15 rfl (lv_at hl 0 rfl) ?_
      refine va_get (D := (dC, dI)) (ci := 6) (v := .int k_size) (C := RMM) (T := TMM) (N := 18) hx hb hts hi_MM hown hK hP 0 rfl rfl 12 (by decide) (hts _ tw_352) (fun _ h9 => h9) rfl dMM_raw_16 ?_
      refine lv_iload_n hx hb dMM_raw_19 rfl (lv_at hl 2 rfl) ?_
      refine lv_iadd hx hb dMM_raw_20 ?_
      refine lv_ldc (v := 65536) hx hb hown (hts _ tw_339) dMM_raw_21 ?_
      refine lv_icmp_le (tgt := 30) hx hb dMM_raw_23 (by decide) (fun c_7 => ?_) (fun c_7 => ?_)
      · have hf := ifT hf c_7
        refine lv_iconst (v := 0) hx hb dMM_raw_30 (by decide) ?_
        refine va_put (D := (dC, dI)) (ci := 6) (v := .int 0) (ty := .int) (C := RMM) (T := TMM) (N := 18) hx hb hts hi_MM tyMM tyMM_ok nmMM hown hK hP hD hS 0 rfl rfl 0 (by decide) (hts _ tw_340) (fun _ h9 => h9) rfl (by decide +kernel) rfl rfl (Nat.le_of_ble_eq_true rfl) dMM_raw_31 (fun H locs hP hD hS => ?_)
        have hP : va_P (dC, dI) vwCl (w_MM_raw cI cZ cL cB q q_draft q_drafted q_counts q_symbols q_lengths q_codes q_often q_row q_number q_group q_bitsOf q_many 0 k_drafts k_words k_total k_size k_place k_row) H := hP
        have hD : va_D A (w_MM_raw cI cZ cL cB q q_draft q_drafted q_counts q_symbols q_lengths q_codes q_often q_row q_number q_group q_bitsOf q_many 0 k_drafts k_words k_total k_size k_place k_row) := hD
        refine lv_aload_n hx hb dMM_raw_34 rfl (lv_at hl 0 rfl) ?_
        refine va_get (D := (dC, dI)) (ci := 6) (v := .int 0) (C := RMM) (T := TMM) (N := 18) hx hb hts hi_MM hown hK hP 0 rfl rfl 0 (by decide) (hts _ tw_340) (fun _ h9 => h9) rfl dMM_raw_35 ?_
        refine lv_if_le (tgt := 43) hx hb dMM_raw_38 (by decide) (fun c_8 => ?_) (fun c_8 => ?_)
        · have hf := ifT hf c_8
          refine lv_aload_n hx hb dMM_raw_43 rfl (lv_at hl 0 rfl) ?_
          refine lv_iload_n hx hb dMM_raw_44 rfl (lv_at hl 1 rfl) ?_
          refine lv_iload_n hx hb dMM_raw_45 rfl (lv_at hl 2 rfl) ?_
          obtain ⟨o9, o10, h11, hf⟩ := bd2_some hf
          have hPc := hP.sub (ws' := (w_MM_lay cI cZ cL cB q q_draft q_drafted q_counts q_symbols q_lengths q_codes q_often q_row q_number q_group q_bitsOf q_many 0 k_drafts k_words k_total k_size k_place k_row)) [0, 1] rfl
          have hDc := hD.sub (ws' := (w_MM_lay cI cZ cL cB q q_draft q_drafted q_counts q_symbols q_lengths q_codes q_often q_row q_number q_group q_bitsOf q_many 0 k_drafts k_words k_total k_size k_place k_row)) [0, 1] (by decide) rfl
          refine ax_callv (wr := []) (w2 := (w_MM_raw cI cZ cL cB q q_draft q_drafted q_counts q_symbols q_lengths q_codes q_often q_row q_number q_group q_bitsOf q_many 0 k_drafts k_words k_total o9 k_place o10)) (va_runV (As := [.int a_0, .int a_1]) (rest := []) ⟨hx, hb, hml, hown, hts⟩ (cc_MM_lay l dC dI cI cZ cL cB q q_draft q_drafted q_counts q_symbols q_lengths q_codes q_often q_row q_number q_group q_bitsOf q_many H.size 0 k_drafts k_words k_total k_size k_place k_row a_0 a_1 o9 o10 h11) (cwV 2 hts (tt_V tw_444 tw_445 tw_18 tw_27 tw_446) rfl rfl rfl (by decide +kernel) ⟨Nat.le_of_ble_eq_true rfl, Nat.le_of_ble_eq_true rfl⟩) ⟨kz_fb, va_recv hK hPc (ci := 6) (q0 := 0) rfl rfl, kz_pre hPc hZ hDc⟩ rfl rfl hl.1 rfl (lv_room (Nat.le_of_ble_eq_true rfl)) dMM_raw_46 ⟨Nat.zero_le _, Nat.zero_le _⟩) hP hD hS hA [0, 1] [] [0, 1] rfl rfl (by decide) (by decide) rfl (by decide) (fun H locs hP hD hS => ?_)
          refine lv_aload_n hx hb dMM_raw_49 rfl (lv_at hl 0 rfl) ?_
          refine va_get (D := (dC, dI)) (ci := 6) (v := .int o9) (C := RMM) (T := TMM) (N := 18) hx hb hts hi_MM hown hK hP 0 rfl rfl 12 (by decide) (hts _ tw_352) (fun _ h9 => h9) rfl dMM_raw_50 ?_
          cases hf
          exact ax_iret hx hb hr hP hD hS dMM_raw_53 hlocks
        · have hf := ifF hf c_8
          refine lv_iconst (v := 0) hx hb dMM_raw_41 (by decide) ?_
          cases hf
          exact ax_iret hx hb hr hP hD hS dMM_raw_42 hlocks
      · have hf := ifF hf c_7
        refine lv_iconst (v := 2) hx hb dMM_raw_26 (by decide) ?_
        refine lv_goto (tgt := 31) hx hb dMM_raw_27 (by decide) ?_
        refine va_put (D := (dC, dI)) (ci := 6) (v := .int 2) (ty := .int) (C := RMM) (T := TMM) (N := 18) hx hb hts hi_MM tyMM tyMM_ok nmMM hown hK hP hD hS 0 rfl rfl 0 (by decide) (hts _ tw_340) (fun _ h9 => h9) rfl (by decide +kernel) rfl rfl (Nat.le_of_ble_eq_true rfl) dMM_raw_31 (fun H locs hP hD hS => ?_)
        have hP : va_P (dC, dI) vwCl (w_MM_raw cI cZ cL cB q q_draft q_drafted q_counts q_symbols q_lengths q_codes q_often q_row q_number q_group q_bitsOf q_many 2 k_drafts k_words k_total k_size k_place k_row) H := hP
        have hD : va_D A (w_MM_raw cI cZ cL cB q q_draft q_drafted q_counts q_symbols q_lengths q_codes q_often q_row q_number q_group q_bitsOf q_many 2 k_drafts k_words k_total k_size k_place k_row) := hD
        refine lv_aload_n hx hb dMM_raw_34 rfl (lv_at hl 0 rfl) ?_
        refine va_get (D := (dC, dI)) (ci := 6) (v := .int 2) (C := RMM) (T := TMM) (N := 18) hx hb hts hi_MM hown hK hP 0 rfl rfl 0 (by decide) (hts _ tw_340) (fun _ h9 => h9) rfl dMM_raw_35 ?_
        refine lv_if_le (tgt := 43) hx hb dMM_raw_38 (by decide) (fun c_12 => ?_) (fun c_12 => ?_)
        · have hf := ifT hf c_12
          refine lv_aload_n hx hb dMM_raw_43 rfl (lv_at hl 0 rfl) ?_
          refine lv_iload_n hx hb dMM_raw_44 rfl (lv_at hl 1 rfl) ?_
          refine lv_iload_n hx hb dMM_raw_45 rfl (lv_at hl 2 rfl) ?_
          obtain ⟨o13, o14, h15, hf⟩ := bd2_some hf
          have hPc := hP.sub (ws' := (w_MM_lay cI cZ cL cB q q_draft q_drafted q_counts q_symbols q_lengths q_codes q_often q_row q_number q_group q_bitsOf q_many 2 k_drafts k_words k_total k_size k_place k_row)) [0, 1] rfl
          have hDc := hD.sub (ws' := (w_MM_lay cI cZ cL cB q q_draft q_drafted q_counts q_symbols q_lengths q_codes q_often q_row q_number q_group q_bitsOf q_many 2 k_drafts k_words k_total k_size k_place k_row)) [0, 1] (by decide) rfl
          refine ax_callv (wr := []) (w2 := (w_MM_raw cI cZ cL cB q q_draft q_drafted q_counts q_symbols q_lengths q_codes q_often q_row q_number q_group q_bitsOf q_many 2 k_drafts k_words k_total o13 k_place o14)) (va_runV (As := [.int a_0, .int a_1]) (rest := []) ⟨hx, hb, hml, hown, hts⟩ (cc_MM_lay l dC dI cI cZ cL cB q q_draft q_drafted q_counts q_symbols q_lengths q_codes q_often q_row q_number q_group q_bitsOf q_many H.size 2 k_drafts k_words k_total k_size k_place k_row a_0 a_1 o13 o14 h15) (cwV 2 hts (tt_V tw_444 tw_445 tw_18 tw_27 tw_446) rfl rfl rfl (by decide +kernel) ⟨Nat.le_of_ble_eq_true rfl, Nat.le_of_ble_eq_true rfl⟩) ⟨kz_fb, va_recv hK hPc (ci := 6) (q0 := 0) rfl rfl, kz_pre hPc hZ hDc⟩ rfl rfl hl.1 rfl (lv_room (Nat.le_of_ble_eq_true rfl)) dMM_raw_46 ⟨Nat.zero_le _, Nat.zero_le _⟩) hP hD hS hA [0, 1] [] [0, 1] rfl rfl (by decide) (by decide) rfl (by decide) (fun H locs hP hD hS => ?_)
          refine lv_aload_n hx hb dMM_raw_49 rfl (lv_at hl 0 rfl) ?_
          refine va_get (D := (dC, dI)) (ci := 6) (v := .int o13) (C := RMM) (T := TMM) (N := 18) hx hb hts hi_MM hown hK hP 0 rfl rfl 12 (by decide) (hts _ tw_352) (fun _ h9 => h9) rfl dMM_raw_50 ?_
          cases hf
          exact ax_iret hx hb hr hP hD hS dMM_raw_53 hlocks
        · have hf := ifF hf c_12
          refine lv_iconst (v := 0) hx hb dMM_raw_41 (by decide) ?_
          cases hf
          exact ax_iret hx hb hr hP hD hS dMM_raw_42 hlocks
    · have hf := ifF hf c_6
      refine lv_iconst (v := 1) hx hb dMM_raw_11 (by decide) ?_
      refine lv_goto (tgt := 31) hx hb dMM_raw_12 (by decide) ?_
      refine va_put (D := (dC, dI)) (ci := 6) (v := .int 1) (ty := .int) (C := RMM) (T := TMM) (N := 18) hx hb hts hi_MM tyMM tyMM_ok nmMM hown hK hP hD hS 0 rfl rfl 0 (by decide) (hts _ tw_340) (fun _ h9 => h9) rfl (by decide +kernel) rfl rfl (Nat.le_of_ble_eq_true rfl) dMM_raw_31 (fun H locs hP hD hS => ?_)
      have hP : va_P (dC, dI) vwCl (w_MM_raw cI cZ cL cB q q_draft q_drafted q_counts q_symbols q_lengths q_codes q_often q_row q_number q_group q_bitsOf q_many 1 k_drafts k_words k_total k_size k_place k_row) H := hP
      have hD : va_D A (w_MM_raw cI cZ cL cB q q_draft q_drafted q_counts q_symbols q_lengths q_codes q_often q_row q_number q_group q_bitsOf q_many 1 k_drafts k_words k_total k_size k_place k_row) := hD
      refine lv_aload_n hx hb dMM_raw_34 rfl (lv_at hl 0 rfl) ?_
      refine va_get (D := (dC, dI)) (ci := 6) (v := .int 1) (C := RMM) (T := TMM) (N := 18) hx hb hts hi_MM hown hK hP 0 rfl rfl 0 (by decide) (hts _ tw_340) (fun _ h9 => h9) rfl dMM_raw_35 ?_
      refine lv_if_le (tgt := 43) hx hb dMM_raw_38 (by decide) (fun c_16 => ?_) (fun c_16 => ?_)
      · have hf := ifT hf c_16
        refine lv_aload_n hx hb dMM_raw_43 rfl (lv_at hl 0 rfl) ?_
        refine lv_iload_n hx hb dMM_raw_44 rfl (lv_at hl 1 rfl) ?_
        refine lv_iload_n hx hb dMM_raw_45 rfl (lv_at hl 2 rfl) ?_
        obtain ⟨o17, o18, h19, hf⟩ := bd2_some hf
        have hPc := hP.sub (ws' := (w_MM_lay cI cZ cL cB q q_draft q_drafted q_counts q_symbols q_lengths q_codes q_often q_row q_number q_group q_bitsOf q_many 1 k_drafts k_words k_total k_size k_place k_row)) [0, 1] rfl
        have hDc := hD.sub (ws' := (w_MM_lay cI cZ cL cB q q_draft q_drafted q_counts q_symbols q_lengths q_codes q_often q_row q_number q_group q_bitsOf q_many 1 k_drafts k_words k_total k_size k_place k_row)) [0, 1] (by decide) rfl
        refine ax_callv (wr := []) (w2 := (w_MM_raw cI cZ cL cB q q_draft q_drafted q_counts q_symbols q_lengths q_codes q_often q_row q_number q_group q_bitsOf q_many 1 k_drafts k_words k_total o17 k_place o18)) (va_runV (As := [.int a_0, .int a_1]) (rest := []) ⟨hx, hb, hml, hown, hts⟩ (cc_MM_lay l dC dI cI cZ cL cB q q_draft q_drafted q_counts q_symbols q_lengths q_codes q_often q_row q_number q_group q_bitsOf q_many H.size 1 k_drafts k_words k_total k_size k_place k_row a_0 a_1 o17 o18 h19) (cwV 2 hts (tt_V tw_444 tw_445 tw_18 tw_27 tw_446) rfl rfl rfl (by decide +kernel) ⟨Nat.le_of_ble_eq_true rfl, Nat.le_of_ble_eq_true rfl⟩) ⟨kz_fb, va_recv hK hPc (ci := 6) (q0 := 0) rfl rfl, kz_pre hPc hZ hDc⟩ rfl rfl hl.1 rfl (lv_room (Nat.le_of_ble_eq_true rfl)) dMM_raw_46 ⟨Nat.zero_le _, Nat.zero_le _⟩) hP hD hS hA [0, 1] [] [0, 1] rfl rfl (by decide) (by decide) rfl (by decide) (fun H locs hP hD hS => ?_)
        refine lv_aload_n hx hb dMM_raw_49 rfl (lv_at hl 0 rfl) ?_
        refine va_get (D := (dC, dI)) (ci := 6) (v := .int o17) (C := RMM) (T := TMM) (N := 18) hx hb hts hi_MM hown hK hP 0 rfl rfl 12 (by decide) (hts _ tw_352) (fun _ h9 => h9) rfl dMM_raw_50 ?_
        cases hf
        exact ax_iret hx hb hr hP hD hS dMM_raw_53 hlocks
      · have hf := ifF hf c_16
        refine lv_iconst (v := 0) hx hb dMM_raw_41 (by decide) ?_
        cases hf
        exact ax_iret hx hb hr hP hD hS dMM_raw_42 hlocks
abbrev wsMM_stands : List Cond := Cond.code yMM_stands cMM_stands 5 (some .boolean) :: tt
set_option maxHeartbeats 4000000 in
set_option maxRecDepth 100000 in
theorem cc_MM_stands (l : Launch) (dC : Nat → ClassId) (dI : Nat → Nat → Nat) (cI cZ cL cB : ClassId) (q q_draft q_drafted q_counts q_symbols q_lengths q_codes q_often q_row q_number q_group q_bitsOf q_many : Nat) (sz : Nat) (k_thrown : Int32) (k_drafts : Int32) (k_words : Int32) (k_total : Int32) (k_size : Int32) (k_place : Int32) (k_lengths : Nat → Int32) (k_codes : Nat → Int32) (k_row : Nat → Int32) (a_0 : Int32) (a_1 : Int32) (r : Int32) (hf : f_MM_stands k_thrown k_drafts k_words k_total k_size k_place k_lengths k_codes k_row a_0 a_1 = some r) : Met l yMM_stands wsMM_stands ({ frames := 0, cells := 0, slots := 0, locals := 0 }) (va_Pc [.ref q, .int a_0, .int a_1] (kz_P dC dI cI cZ cL cB sz (w_MM_stands cI cZ cL cB q q_draft q_drafted q_counts q_symbols q_lengths q_codes q_often q_row q_number q_group q_bitsOf q_many k_thrown k_drafts k_words k_total k_size k_place k_lengths k_codes k_row))) (va_Qi (fun (r' : Int32) (_ : Unit) => r' = r) (fun _ t => va_P (dC, dI) vwCl (w_MM_stands cI cZ cL cB q q_draft q_drafted q_counts q_symbols q_lengths q_codes q_often q_row q_number q_group q_bitsOf q_many k_thrown k_drafts k_words k_total k_size k_place k_lengths k_codes k_row) t.heap ∧ va_D (va_A (w_MM_stands cI cZ cL cB q q_draft q_drafted q_counts q_symbols q_lengths q_codes q_often q_row q_number q_group q_bitsOf q_many k_thrown k_drafts k_words k_total k_size k_place k_lengths k_codes k_row) sz) (w_MM_stands cI cZ cL cB q q_draft q_drafted q_counts q_symbols q_lengths q_codes q_often q_row q_number q_group q_bitsOf q_many k_thrown k_drafts k_words k_total k_size k_place k_lengths k_codes k_row)) (va_A (w_MM_stands cI cZ cL cB q q_draft q_drafted q_counts q_symbols q_lengths q_codes q_often q_row q_number q_group q_bitsOf q_many k_thrown k_drafts k_words k_total k_size k_place k_lengths k_codes k_row) sz)) 0 0 (va_A (w_MM_stands cI cZ cL cB q q_draft q_drafted q_counts q_symbols q_lengths q_codes q_often q_row q_number q_group q_bitsOf q_many k_thrown k_drafts k_words k_total k_size k_place k_lengths k_codes k_row) sz) := by
  refine Met.ofW (cc := cMM_stands) (maxL := 5) (ret := (some .boolean)) (by decide) rfl ?_
  intro p e s m args below meth c s₁ B hml hv
  obtain ⟨rfl, hsz, hP, hZ, hD0⟩ := hv
  have hK := hZ.1
  have hx := B.exec
  have hb := B.bytes
  have hr := B.returns
  have hts : ∀ w ∈ tt, w.before _ s = true := fun w h => atoms_spec (ws := wsMM_stands) B.pre w (List.mem_cons_of_mem _ h)
  have hown : s.vm.findClass RMM = some m.cls := findClass_of_methodNamed B.named
  have hlocks := B.notSynchronized
  subst hsz
  have hD := hD0.self (sz := s.heap.size)
  generalize hAe : va_A (w_MM_stands cI cZ cL cB q q_draft q_drafted q_counts q_symbols q_lengths q_codes q_often q_row q_number q_group q_bitsOf q_many k_thrown k_drafts k_words k_total k_size k_place k_lengths k_codes k_row) s.heap.size = A at hD ⊢
  have hA : ∀ q : Nat, s.heap.size ≤ q → A q := fun q h => by rw [← hAe]; exact Or.inr h
  have hS : va_S A s.heap s.heap [] := va_S.rf
  have hl := lv_entry [.ref q, .int a_0, .int a_1] (n := 5) (Nat.le_of_ble_eq_true rfl)
  rw [lg_entry_eq]
  generalize (lg_sl [.ref q, .int a_0, .int a_1] ++ List.replicate (5 - (lg_sl [.ref q, .int a_0, .int a_1]).length) Slot.unset).toArray = ls at hl ⊢
  have hl : lv_has ls 5 [(0, .ref q), (1, .int a_0), (2, .int a_1)] := hl
  unfold f_MM_stands at hf
  refine lv_iconst (v := 1) hx hb dMM_stands_0 (by decide) ?_
  refine lv_istore_n (lv' := [(3, .int 1), (0, .ref q), (1, .int a_0), (2, .int a_1)]) hx hb dMM_stands_1 rfl hl (by decide) rfl (fun ls hl => ?_)
  refine lv_iconst (v := 0) hx hb dMM_stands_2 (by decide) ?_
  refine lv_istore (lv' := [(4, .int 0), (3, .int 1), (0, .ref q), (1, .int a_0), (2, .int a_1)]) hx hb dMM_stands_3 hl (by decide) rfl (fun ls hl => ?_)
  refine Lp2_W (P := fun (x3 : Int32) (x4 : Int32) => ∀ (H : Heap) (locs : List Loc) (ls : Array Slot), va_P (dC, dI) vwCl (w_MM_stands cI cZ cL cB q q_draft q_drafted q_counts q_symbols q_lengths q_codes q_often q_row q_number q_group q_bitsOf q_many k_thrown k_drafts k_words k_total k_size k_place k_lengths k_codes k_row) H → va_D A (w_MM_stands cI cZ cL cB q q_draft q_drafted q_counts q_symbols q_lengths q_codes q_often q_row q_number q_group q_bitsOf q_many k_thrown k_drafts k_words k_total k_size k_place k_lengths k_codes k_row) → va_S A s.heap H locs → lv_has ls 5 [(0, .ref q), (1, .int a_0), (2, .int a_1), (3, .int x3), (4, .int x4)] → W p l e _ s m _ below meth c H locs 0 0 _ (F0 m 5 ls [])) ?_ _ _ _ hf _ _ _ hP hD hS (lv_sub hl [2, 3, 4, 1, 0] rfl)
  clear hf hP hD hS hl
  intro ag1 ih2 x3 x4 hf H locs ls hP hD hS hl
  refine lv_iload hx hb dMM_stands_5 (lv_at hl 4 rfl) ?_
  refine lv_aload_n hx hb dMM_stands_7 rfl (lv_at hl 0 rfl) ?_
  refine va_get (D := (dC, dI)) (ci := 6) (v := .ref q_lengths) (C := RMM) (T := TMM) (N := 18) hx hb hts hi_MM hown hK hP 0 rfl rfl 7 (by decide) (hts _ tw_347) (fun _ h9 => h9) rfl dMM_stands_8 ?_
  refine lv_iload_n hx hb dMM_stands_11 rfl (lv_at hl 1 rfl) ?_
  obtain ⟨v5, ev5, h6, hf⟩ := rd_some hf
  refine ax_iald hx hb hK hP 1 0 rfl rfl h6 ev5 dMM_stands_12 ?_
  refine lv_icmp_ge (tgt := 73) hx hb dMM_stands_13 (by decide) (fun c_7 => ?_) (fun c_7 => ?_)
  · have hf := ifT hf c_7
    refine lv_iload_n hx hb dMM_stands_73 rfl (lv_at hl 3 rfl) ?_
    by_cases c_8 : x3 = 0 ∨ x3 = 1
    · have hf := ifT hf c_8
      have hn : narrow .boolean (.int x3) = .int x3 := by rcases c_8 with h | h <;> rw [h] <;> rfl
      cases hf
      exact ax_zret hx hb hr hn hP hD hS dMM_stands_74 hlocks
    · have hf := ifF hf c_8
      cases hf
  · have hf := ifF hf c_7
    refine lv_iload hx hb dMM_stands_16 (lv_at hl 4 rfl) ?_
    refine lv_iload_n hx hb dMM_stands_18 rfl (lv_at hl 2 rfl) ?_
    refine lv_icmp_ge (tgt := 73) hx hb dMM_stands_19 (by decide) (fun c_9 => ?_) (fun c_9 => ?_)
    · have hf := ifT hf c_9
      refine lv_iload_n hx hb dMM_stands_73 rfl (lv_at hl 3 rfl) ?_
      by_cases c_10 : x3 = 0 ∨ x3 = 1
      · have hf := ifT hf c_10
        have hn : narrow .boolean (.int x3) = .int x3 := by rcases c_10 with h | h <;> rw [h] <;> rfl
        cases hf
        exact ax_zret hx hb hr hn hP hD hS dMM_stands_74 hlocks
      · have hf := ifF hf c_10
        cases hf
    · have hf := ifF hf c_9
      refine lv_iload_n hx hb dMM_stands_22 rfl (lv_at hl 3 rfl) ?_
      refine lv_if_eq (tgt := 65) hx hb dMM_stands_23 (by decide) (fun c_11 => ?_) (fun c_11 => ?_)
      · have hf := ifT hf c_11
        refine lv_iconst (v := 0) hx hb dMM_stands_65 (by decide) ?_
        refine lv_istore_n (lv' := [(3, .int 0), (0, .ref q), (1, .int a_0), (2, .int a_1), (4, .int x4)]) hx hb dMM_stands_66 rfl hl (by decide) rfl (fun ls hl => ?_)
        refine lv_iinc (v := (x4 + 1)) (lv' := [(4, .int (x4 + 1)), (3, .int 0), (0, .ref q), (1, .int a_0), (2, .int a_1)]) hx hb dMM_stands_67 hl (k := 4) rfl rfl (by decide) rfl (fun ls hl => ?_)
        refine lv_goto (tgt := 5) hx hb dMM_stands_70 (by decide) ?_
        exact ih2 0 (x4 + 1) hf _ _ _ hP hD hS (lv_sub hl [2, 3, 4, 1, 0] rfl)
      · have hf := ifF hf c_11
        refine lv_aload_n hx hb dMM_stands_26 rfl (lv_at hl 0 rfl) ?_
        refine va_get (D := (dC, dI)) (ci := 6) (v := .ref q_codes) (C := RMM) (T := TMM) (N := 18) hx hb hts hi_MM hown hK hP 0 rfl rfl 8 (by decide) (hts _ tw_348) (fun _ h9 => h9) rfl dMM_stands_27 ?_
        refine lv_iload_n hx hb dMM_stands_30 rfl (lv_at hl 1 rfl) ?_
        obtain ⟨v12, ev12, h13, hf⟩ := rd_some hf
        refine ax_iald hx hb hK hP 2 0 rfl rfl h13 ev12 dMM_stands_31 ?_
        refine lv_aload_n hx hb dMM_stands_32 rfl (lv_at hl 0 rfl) ?_
        refine va_get (D := (dC, dI)) (ci := 6) (v := .ref q_lengths) (C := RMM) (T := TMM) (N := 18) hx hb hts hi_MM hown hK hP 0 rfl rfl 7 (by decide) (hts _ tw_347) (fun _ h9 => h9) rfl dMM_stands_33 ?_
        refine lv_iload_n hx hb dMM_stands_36 rfl (lv_at hl 1 rfl) ?_
        obtain ⟨v14, ev14, h15, hf⟩ := rd_some hf
        refine ax_iald hx hb hK hP 1 0 rfl rfl h15 ev14 dMM_stands_37 ?_
        refine lv_iconst (v := 1) hx hb dMM_stands_38 (by decide) ?_
        refine lv_isub hx hb dMM_stands_39 ?_
        refine lv_iload hx hb dMM_stands_40 (lv_at hl 4 rfl) ?_
        refine lv_isub hx hb dMM_stands_42 ?_
        refine lv_ishr hx hb dMM_stands_43 ?_
        refine lv_iconst (v := 1) hx hb dMM_stands_44 (by decide) ?_
        refine lv_iand hx hb dMM_stands_45 ?_
        refine lv_aload_n hx hb dMM_stands_46 rfl (lv_at hl 0 rfl) ?_
        refine va_get (D := (dC, dI)) (ci := 6) (v := .ref q_row) (C := RMM) (T := TMM) (N := 18) hx hb hts hi_MM hown hK hP 0 rfl rfl 11 (by decide) (hts _ tw_351) (fun _ h9 => h9) rfl dMM_stands_47 ?_
        refine lv_aload_n hx hb dMM_stands_50 rfl (lv_at hl 0 rfl) ?_
        refine va_get (D := (dC, dI)) (ci := 6) (v := .int k_place) (C := RMM) (T := TMM) (N := 18) hx hb hts hi_MM hown hK hP 0 rfl rfl 13 (by decide) (hts _ tw_353) (fun _ h9 => h9) rfl dMM_stands_51 ?_
        refine lv_iload hx hb dMM_stands_54 (lv_at hl 4 rfl) ?_
        refine lv_iadd hx hb dMM_stands_56 ?_
        obtain ⟨v16, ev16, h17, hf⟩ := rd_some hf
        refine ax_bald hx hb hK hP 3 3 rfl rfl h17 ev16 dMM_stands_57 ?_
        refine lv_icmp_ne (tgt := 65) hx hb dMM_stands_58 (by decide) (fun c_18 => ?_) (fun c_18 => ?_)
        · have hf := ifF hf c_18
          refine lv_iconst (v := 0) hx hb dMM_stands_65 (by decide) ?_
          refine lv_istore_n (lv' := [(3, .int 0), (0, .ref q), (1, .int a_0), (2, .int a_1), (4, .int x4)]) hx hb dMM_stands_66 rfl hl (by decide) rfl (fun ls hl => ?_)
          refine lv_iinc (v := (x4 + 1)) (lv' := [(4, .int (x4 + 1)), (3, .int 0), (0, .ref q), (1, .int a_0), (2, .int a_1)]) hx hb dMM_stands_67 hl (k := 4) rfl rfl (by decide) rfl (fun ls hl => ?_)
          refine lv_goto (tgt := 5) hx hb dMM_stands_70 (by decide) ?_
          exact ih2 0 (x4 + 1) hf _ _ _ hP hD hS (lv_sub hl [2, 3, 4, 1, 0] rfl)
        · have hf := ifT hf c_18
          refine lv_iconst (v := 1) hx hb dMM_stands_61 (by decide) ?_
          refine lv_goto (tgt := 66) hx hb dMM_stands_62 (by decide) ?_
          refine lv_istore_n (lv' := [(3, .int 1), (0, .ref q), (1, .int a_0), (2, .int a_1), (4, .int x4)]) hx hb dMM_stands_66 rfl hl (by decide) rfl (fun ls hl => ?_)
          refine lv_iinc (v := (x4 + 1)) (lv' := [(4, .int (x4 + 1)), (3, .int 1), (0, .ref q), (1, .int a_0), (2, .int a_1)]) hx hb dMM_stands_67 hl (k := 4) rfl rfl (by decide) rfl (fun ls hl => ?_)
          refine lv_goto (tgt := 5) hx hb dMM_stands_70 (by decide) ?_
          exact ih2 1 (x4 + 1) hf _ _ _ hP hD hS (lv_sub hl [2, 3, 4, 1, 0] rfl)
abbrev wsMM_get : List Cond := Cond.code yMM_get cMM_get 4 (some .int) :: tt
set_option maxHeartbeats 4000000 in
set_option maxRecDepth 100000 in
theorem cc_MM_get (l : Launch) (dC : Nat → ClassId) (dI : Nat → Nat → Nat) (cI cZ cL cB : ClassId) (q q_draft q_drafted q_counts q_symbols q_lengths q_codes q_often q_row q_number q_group q_bitsOf q_many : Nat) (sz : Nat) (k_thrown : Int32) (k_drafts : Int32) (k_words : Int32) (k_total : Int32) (k_size : Int32) (k_place : Int32) (k_lengths : Nat → Int32) (k_codes : Nat → Int32) (k_row : Nat → Int32) (r : Int32) (o_thrown : Int32) (o_place : Int32) (hf : f_MM_get k_thrown k_drafts k_words k_total k_size k_place k_lengths k_codes k_row = some (r, o_thrown, o_place)) : Met l yMM_get wsMM_get ({ frames := 1, cells := 0, slots := 0, locals := 24 }) (va_Pc [.ref q] (kz_P dC dI cI cZ cL cB sz (w_MM_get cI cZ cL cB q q_draft q_drafted q_counts q_symbols q_lengths q_codes q_often q_row q_number q_group q_bitsOf q_many k_thrown k_drafts k_words k_total k_size k_place k_lengths k_codes k_row))) (va_Qi (fun (r' : Int32) (_ : Unit) => r' = r) (fun _ t => va_P (dC, dI) vwCl (w_MM_get cI cZ cL cB q q_draft q_drafted q_counts q_symbols q_lengths q_codes q_often q_row q_number q_group q_bitsOf q_many o_thrown k_drafts k_words k_total k_size o_place k_lengths k_codes k_row) t.heap ∧ va_D (va_A (w_MM_get cI cZ cL cB q q_draft q_drafted q_counts q_symbols q_lengths q_codes q_often q_row q_number q_group q_bitsOf q_many k_thrown k_drafts k_words k_total k_size k_place k_lengths k_codes k_row) sz) (w_MM_get cI cZ cL cB q q_draft q_drafted q_counts q_symbols q_lengths q_codes q_often q_row q_number q_group q_bitsOf q_many o_thrown k_drafts k_words k_total k_size o_place k_lengths k_codes k_row)) (va_A (w_MM_get cI cZ cL cB q q_draft q_drafted q_counts q_symbols q_lengths q_codes q_often q_row q_number q_group q_bitsOf q_many k_thrown k_drafts k_words k_total k_size k_place k_lengths k_codes k_row) sz)) 0 0 (va_A (w_MM_get cI cZ cL cB q q_draft q_drafted q_counts q_symbols q_lengths q_codes q_often q_row q_number q_group q_bitsOf q_many k_thrown k_drafts k_words k_total k_size k_place k_lengths k_codes k_row) sz) := by
  refine Met.ofW (cc := cMM_get) (maxL := 4) (ret := (some .int)) (by decide) rfl ?_
  intro p e s m args below meth c s₁ B hml hv
  obtain ⟨rfl, hsz, hP, hZ, hD0⟩ := hv
  have hK := hZ.1
  have hx := B.exec
  have hb := B.bytes
  have hr := B.returns
  have hts : ∀ w ∈ tt, w.before _ s = true := fun w h => atoms_spec (ws := wsMM_get) B.pre w (List.mem_cons_of_mem _ h)
  have hown : s.vm.findClass RMM = some m.cls := findClass_of_methodNamed B.named
  have hlocks := B.notSynchronized
  subst hsz
  have hD := hD0.self (sz := s.heap.size)
  generalize hAe : va_A (w_MM_get cI cZ cL cB q q_draft q_drafted q_counts q_symbols q_lengths q_codes q_often q_row q_number q_group q_bitsOf q_many k_thrown k_drafts k_words k_total k_size k_place k_lengths k_codes k_row) s.heap.size = A at hD ⊢
  have hA : ∀ q : Nat, s.heap.size ≤ q → A q := fun q h => by rw [← hAe]; exact Or.inr h
  have hS : va_S A s.heap s.heap [] := va_S.rf
  have hl := lv_entry [.ref q] (n := 4) (Nat.le_of_ble_eq_true rfl)
  rw [lg_entry_eq]
  generalize (lg_sl [.ref q] ++ List.replicate (4 - (lg_sl [.ref q]).length) Slot.unset).toArray = ls at hl ⊢
  have hl : lv_has ls 4 [(0, .ref q)] := hl
  unfold f_MM_get at hf
  refine lv_aload_n hx hb dMM_get_0 rfl (lv_at hl 0 rfl) ?_
  refine lv_iconst (v := 0) hx hb dMM_get_1 (by decide) ?_
  refine va_put (D := (dC, dI)) (ci := 6) (v := .int 0) (ty := .int) (C := RMM) (T := TMM) (N := 18) hx hb hts hi_MM tyMM tyMM_ok nmMM hown hK hP hD hS 0 rfl rfl 0 (by decide) (hts _ tw_340) (fun _ h9 => h9) rfl (by decide +kernel) rfl rfl (Nat.le_of_ble_eq_true rfl) dMM_get_2 (fun H locs hP hD hS => ?_)
  have hP : va_P (dC, dI) vwCl (w_MM_get cI cZ cL cB q q_draft q_drafted q_counts q_symbols q_lengths q_codes q_often q_row q_number q_group q_bitsOf q_many 0 k_drafts k_words k_total k_size k_place k_lengths k_codes k_row) H := hP
  have hD : va_D A (w_MM_get cI cZ cL cB q q_draft q_drafted q_counts q_symbols q_lengths q_codes q_often q_row q_number q_group q_bitsOf q_many 0 k_drafts k_words k_total k_size k_place k_lengths k_codes k_row) := hD
  refine lv_aload_n hx hb dMM_get_5 rfl (lv_at hl 0 rfl) ?_
  refine va_get (D := (dC, dI)) (ci := 6) (v := .int k_size) (C := RMM) (T := TMM) (N := 18) hx hb hts hi_MM hown hK hP 0 rfl rfl 12 (by decide) (hts _ tw_352) (fun _ h9 => h9) rfl dMM_get_6 ?_
  refine lv_aload_n hx hb dMM_get_9 rfl (lv_at hl 0 rfl) ?_
  refine va_get (D := (dC, dI)) (ci := 6) (v := .int k_place) (C := RMM) (T := TMM) (N := 18) hx hb hts hi_MM hown hK hP 0 rfl rfl 13 (by decide) (hts _ tw_353) (fun _ h9 => h9) rfl dMM_get_10 ?_
  refine lv_isub hx hb dMM_get_13 ?_
  refine lv_istore_n (lv' := [(1, .int (k_size - k_place)), (0, .ref q)]) hx hb dMM_get_14 rfl hl (by decide) rfl (fun ls hl => ?_)
  refine lv_iload_n hx hb dMM_get_15 rfl (lv_at hl 0 rfl) ?_
  refine lv_if_ne (tgt := 21) hx hb dMM_get_16 (by decide) (fun c_1 => ?_) (fun c_1 => ?_)
  · have hf := ifF hf c_1
    refine lv_iconst (v := 0) hx hb dMM_get_21 (by decide) ?_
    refine lv_istore_n (lv' := [(2, .int 0), (1, .int (k_size - k_place)), (0, .ref q)]) hx hb dMM_get_22 rfl hl (by decide) rfl (fun ls hl => ?_)
    refine lv_iconst (v := 0) hx hb dMM_get_23 (by decide) ?_
    refine lv_istore_n (lv' := [(3, .int 0), (2, .int 0), (1, .int (k_size - k_place)), (0, .ref q)]) hx hb dMM_get_24 rfl hl (by decide) rfl (fun ls hl => ?_)
    refine Lp2_W (P := fun (x4 : Int32) (x5 : Int32) => ∀ (H : Heap) (locs : List Loc) (ls : Array Slot), va_P (dC, dI) vwCl (w_MM_get cI cZ cL cB q q_draft q_drafted q_counts q_symbols q_lengths q_codes q_often q_row q_number q_group q_bitsOf q_many 0 k_drafts k_words k_total k_size k_place k_lengths k_codes k_row) H → va_D A (w_MM_get cI cZ cL cB q q_draft q_drafted q_counts q_symbols q_lengths q_codes q_often q_row q_number q_group q_bitsOf q_many 0 k_drafts k_words k_total k_size k_place k_lengths k_codes k_row) → va_S A s.heap H locs → lv_has ls 4 [(0, .ref q), (1, .int (k_size - k_place)), (2, .int x4), (3, .int x5)] → W p l e _ s m _ below meth c H locs 0 0 _ (F0 m 25 ls [])) ?_ _ _ _ hf _ _ _ hP hD hS (lv_sub hl [3, 2, 1, 0] rfl)
    clear hf hP hD hS hl
    intro ag2 ih3 x4 x5 hf H locs ls hP hD hS hl
    refine lv_iload_n hx hb dMM_get_25 rfl (lv_at hl 3 rfl) ?_
    refine lv_sipush (v := 256) hx hb dMM_get_26 (by decide) ?_
    refine lv_icmp_ge (tgt := 85) hx hb dMM_get_29 (by decide) (fun c_6 => ?_) (fun c_6 => ?_)
    · have hf := ifT hf c_6
      refine lv_iload_n hx hb dMM_get_85 rfl (lv_at hl 2 rfl) ?_
      refine lv_if_eq (tgt := 93) hx hb dMM_get_86 (by decide) (fun c_7 => ?_) (fun c_7 => ?_)
      · have hf := ifT hf c_7
        refine lv_bipush (v := (-2)) hx hb dMM_get_93 (by decide) ?_
        cases hf
        exact ax_iret hx hb hr hP hD hS dMM_get_95 hlocks
      · have hf := ifF hf c_7
        refine lv_iconst (v := (-1)) hx hb dMM_get_89 (by decide) ?_
        refine lv_goto (tgt := 95) hx hb dMM_get_90 (by decide) ?_
        cases hf
        exact ax_iret hx hb hr hP hD hS dMM_get_95 hlocks
    · have hf := ifF hf c_6
      refine lv_aload_n hx hb dMM_get_32 rfl (lv_at hl 0 rfl) ?_
      refine va_get (D := (dC, dI)) (ci := 6) (v := .ref q_lengths) (C := RMM) (T := TMM) (N := 18) hx hb hts hi_MM hown hK hP 0 rfl rfl 7 (by decide) (hts _ tw_347) (fun _ h9 => h9) rfl dMM_get_33 ?_
      refine lv_iload_n hx hb dMM_get_36 rfl (lv_at hl 3 rfl) ?_
      obtain ⟨v8, ev8, h9, hf⟩ := rd_some hf
      refine ax_iald hx hb hK hP 1 0 rfl rfl h9 ev8 dMM_get_37 ?_
      refine lv_if_le (tgt := 79) hx hb dMM_get_38 (by decide) (fun c_10 => ?_) (fun c_10 => ?_)
      · have hf := ifT hf c_10
        refine lv_iinc (v := (x5 + 1)) (lv' := [(3, .int (x5 + 1)), (0, .ref q), (1, .int (k_size - k_place)), (2, .int x4)]) hx hb dMM_get_79 hl (k := 3) rfl rfl (by decide) rfl (fun ls hl => ?_)
        refine lv_goto (tgt := 25) hx hb dMM_get_82 (by decide) ?_
        exact ih3 x4 (x5 + 1) hf _ _ _ hP hD hS (lv_sub hl [1, 2, 3, 0] rfl)
      · have hf := ifF hf c_10
        refine lv_aload_n hx hb dMM_get_41 rfl (lv_at hl 0 rfl) ?_
        refine lv_iload_n hx hb dMM_get_42 rfl (lv_at hl 3 rfl) ?_
        refine lv_iload_n hx hb dMM_get_43 rfl (lv_at hl 1 rfl) ?_
        obtain ⟨r11, h12, hf⟩ := bd1_some hf
        have hPc := hP.sub (ws' := (w_MM_stands cI cZ cL cB q q_draft q_drafted q_counts q_symbols q_lengths q_codes q_often q_row q_number q_group q_bitsOf q_many 0 k_drafts k_words k_total k_size k_place k_lengths k_codes k_row)) [0, 1, 2, 3] rfl
        have hDc := hD.sub (ws' := (w_MM_stands cI cZ cL cB q q_draft q_drafted q_counts q_symbols q_lengths q_codes q_often q_row q_number q_group q_bitsOf q_many 0 k_drafts k_words k_total k_size k_place k_lengths k_codes k_row)) [0, 1, 2, 3] (by decide) rfl
        refine ax_calli (wr := []) (w2 := (w_MM_get cI cZ cL cB q q_draft q_drafted q_counts q_symbols q_lengths q_codes q_often q_row q_number q_group q_bitsOf q_many 0 k_drafts k_words k_total k_size k_place k_lengths k_codes k_row)) (va_runV (As := [.int x5, .int (k_size - k_place)]) (rest := []) ⟨hx, hb, hml, hown, hts⟩ (cc_MM_stands l dC dI cI cZ cL cB q q_draft q_drafted q_counts q_symbols q_lengths q_codes q_often q_row q_number q_group q_bitsOf q_many H.size 0 k_drafts k_words k_total k_size k_place k_lengths k_codes k_row x5 (k_size - k_place) r11 h12) (cwV 2 hts (tt_V tw_455 tw_456 tw_19 tw_27 tw_457) rfl rfl rfl (by decide +kernel) ⟨Nat.le_of_ble_eq_true rfl, Nat.le_of_ble_eq_true rfl⟩) ⟨kz_fb, va_recv hK hPc (ci := 6) (q0 := 0) rfl rfl, kz_pre hPc hZ hDc⟩ rfl rfl hl.1 rfl (lv_room (Nat.le_of_ble_eq_true rfl)) dMM_get_44 ⟨Nat.zero_le _, Nat.zero_le _⟩) hP hD hS hA [0, 1, 2, 3] [] [0, 1, 2, 3] rfl rfl (by decide) (by decide) rfl (by decide) (fun H locs hP hD hS => ?_)
        refine lv_if_eq (tgt := 79) hx hb dMM_get_47 (by decide) (fun c_13 => ?_) (fun c_13 => ?_)
        · have hf := ifT hf c_13
          refine lv_iinc (v := (x5 + 1)) (lv' := [(3, .int (x5 + 1)), (0, .ref q), (1, .int (k_size - k_place)), (2, .int x4)]) hx hb dMM_get_79 hl (k := 3) rfl rfl (by decide) rfl (fun ls hl => ?_)
          refine lv_goto (tgt := 25) hx hb dMM_get_82 (by decide) ?_
          exact ih3 x4 (x5 + 1) hf _ _ _ hP hD hS (lv_sub hl [1, 2, 3, 0] rfl)
        · have hf := ifF hf c_13
          refine lv_aload_n hx hb dMM_get_50 rfl (lv_at hl 0 rfl) ?_
          refine va_get (D := (dC, dI)) (ci := 6) (v := .ref q_lengths) (C := RMM) (T := TMM) (N := 18) hx hb hts hi_MM hown hK hP 0 rfl rfl 7 (by decide) (hts _ tw_347) (fun _ h9 => h9) rfl dMM_get_51 ?_
          refine lv_iload_n hx hb dMM_get_54 rfl (lv_at hl 3 rfl) ?_
          obtain ⟨v14, ev14, h15, hf⟩ := rd_some hf
          refine ax_iald hx hb hK hP 1 0 rfl rfl h15 ev14 dMM_get_55 ?_
          refine lv_iload_n hx hb dMM_get_56 rfl (lv_at hl 1 rfl) ?_
          refine lv_icmp_gt (tgt := 77) hx hb dMM_get_57 (by decide) (fun c_16 => ?_) (fun c_16 => ?_)
          · have hf := ifT hf c_16
            refine lv_iconst (v := 1) hx hb dMM_get_77 (by decide) ?_
            refine lv_istore_n (lv' := [(2, .int 1), (0, .ref q), (1, .int (k_size - k_place)), (3, .int x5)]) hx hb dMM_get_78 rfl hl (by decide) rfl (fun ls hl => ?_)
            refine lv_iinc (v := (x5 + 1)) (lv' := [(3, .int (x5 + 1)), (2, .int 1), (0, .ref q), (1, .int (k_size - k_place))]) hx hb dMM_get_79 hl (k := 3) rfl rfl (by decide) rfl (fun ls hl => ?_)
            refine lv_goto (tgt := 25) hx hb dMM_get_82 (by decide) ?_
            exact ih3 1 (x5 + 1) hf _ _ _ hP hD hS (lv_sub hl [2, 3, 1, 0] rfl)
          · have hf := ifF hf c_16
            refine lv_aload_n hx hb dMM_get_60 rfl (lv_at hl 0 rfl) ?_
            refine lv_dup hx hb dMM_get_61 rfl ?_
            refine va_get (D := (dC, dI)) (ci := 6) (v := .int k_place) (C := RMM) (T := TMM) (N := 18) hx hb hts hi_MM hown hK hP 0 rfl rfl 13 (by decide) (hts _ tw_353) (fun _ h9 => h9) rfl dMM_get_62 ?_
            refine lv_aload_n hx hb dMM_get_65 rfl (lv_at hl 0 rfl) ?_
            refine va_get (D := (dC, dI)) (ci := 6) (v := .ref q_lengths) (C := RMM) (T := TMM) (N := 18) hx hb hts hi_MM hown hK hP 0 rfl rfl 7 (by decide) (hts _ tw_347) (fun _ h9 => h9) rfl dMM_get_66 ?_
            refine lv_iload_n hx hb dMM_get_69 rfl (lv_at hl 3 rfl) ?_
            obtain ⟨v17, ev17, h18, hf⟩ := rd_some hf
            refine ax_iald hx hb hK hP 1 0 rfl rfl h18 ev17 dMM_get_70 ?_
            refine lv_iadd hx hb dMM_get_71 ?_
            refine va_put (D := (dC, dI)) (ci := 6) (v := .int (k_place + v17)) (ty := .int) (C := RMM) (T := TMM) (N := 18) hx hb hts hi_MM tyMM tyMM_ok nmMM hown hK hP hD hS 0 rfl rfl 13 (by decide) (hts _ tw_353) (fun _ h9 => h9) rfl (by decide +kernel) rfl rfl (Nat.le_of_ble_eq_true rfl) dMM_get_72 (fun H locs hP hD hS => ?_)
            have hP : va_P (dC, dI) vwCl (w_MM_get cI cZ cL cB q q_draft q_drafted q_counts q_symbols q_lengths q_codes q_often q_row q_number q_group q_bitsOf q_many 0 k_drafts k_words k_total k_size (k_place + v17) k_lengths k_codes k_row) H := hP
            have hD : va_D A (w_MM_get cI cZ cL cB q q_draft q_drafted q_counts q_symbols q_lengths q_codes q_often q_row q_number q_group q_bitsOf q_many 0 k_drafts k_words k_total k_size (k_place + v17) k_lengths k_codes k_row) := hD
            refine lv_iload_n hx hb dMM_get_75 rfl (lv_at hl 3 rfl) ?_
            cases hf
            exact ax_iret hx hb hr hP hD hS dMM_get_76 hlocks
  · have hf := ifT hf c_1
    refine lv_iconst (v := (-1)) hx hb dMM_get_19 (by decide) ?_
    cases hf
    exact ax_iret hx hb hr hP hD hS dMM_get_20 hlocks
abbrev wsMM_bits : List Cond := Cond.code yMM_bits cMM_bits 4 (some .int) :: tt
set_option maxHeartbeats 4000000 in
set_option maxRecDepth 100000 in
theorem cc_MM_bits (l : Launch) (dC : Nat → ClassId) (dI : Nat → Nat → Nat) (cI cZ cL cB : ClassId) (q q_draft q_drafted q_counts q_symbols q_lengths q_codes q_often q_row q_number q_group q_bitsOf q_many : Nat) (sz : Nat) (k_thrown : Int32) (k_drafts : Int32) (k_words : Int32) (k_total : Int32) (k_size : Int32) (k_place : Int32) (k_row : Nat → Int32) (a_0 : Int32) (r : Int32) (o_thrown : Int32) (o_place : Int32) (hf : f_MM_bits k_thrown k_drafts k_words k_total k_size k_place k_row a_0 = some (r, o_thrown, o_place)) : Met l yMM_bits wsMM_bits ({ frames := 0, cells := 0, slots := 0, locals := 0 }) (va_Pc [.ref q, .int a_0] (kz_P dC dI cI cZ cL cB sz (w_MM_bits cI cZ cL cB q q_draft q_drafted q_counts q_symbols q_lengths q_codes q_often q_row q_number q_group q_bitsOf q_many k_thrown k_drafts k_words k_total k_size k_place k_row))) (va_Qi (fun (r' : Int32) (_ : Unit) => r' = r) (fun _ t => va_P (dC, dI) vwCl (w_MM_bits cI cZ cL cB q q_draft q_drafted q_counts q_symbols q_lengths q_codes q_often q_row q_number q_group q_bitsOf q_many o_thrown k_drafts k_words k_total k_size o_place k_row) t.heap ∧ va_D (va_A (w_MM_bits cI cZ cL cB q q_draft q_drafted q_counts q_symbols q_lengths q_codes q_often q_row q_number q_group q_bitsOf q_many k_thrown k_drafts k_words k_total k_size k_place k_row) sz) (w_MM_bits cI cZ cL cB q q_draft q_drafted q_counts q_symbols q_lengths q_codes q_often q_row q_number q_group q_bitsOf q_many o_thrown k_drafts k_words k_total k_size o_place k_row)) (va_A (w_MM_bits cI cZ cL cB q q_draft q_drafted q_counts q_symbols q_lengths q_codes q_often q_row q_number q_group q_bitsOf q_many k_thrown k_drafts k_words k_total k_size k_place k_row) sz)) 0 0 (va_A (w_MM_bits cI cZ cL cB q q_draft q_drafted q_counts q_symbols q_lengths q_codes q_often q_row q_number q_group q_bitsOf q_many k_thrown k_drafts k_words k_total k_size k_place k_row) sz) := by
  refine Met.ofW (cc := cMM_bits) (maxL := 4) (ret := (some .int)) (by decide) rfl ?_
  intro p e s m args below meth c s₁ B hml hv
  obtain ⟨rfl, hsz, hP, hZ, hD0⟩ := hv
  have hK := hZ.1
  have hx := B.exec
  have hb := B.bytes
  have hr := B.returns
  have hts : ∀ w ∈ tt, w.before _ s = true := fun w h => atoms_spec (ws := wsMM_bits) B.pre w (List.mem_cons_of_mem _ h)
  have hown : s.vm.findClass RMM = some m.cls := findClass_of_methodNamed B.named
  have hlocks := B.notSynchronized
  subst hsz
  have hD := hD0.self (sz := s.heap.size)
  generalize hAe : va_A (w_MM_bits cI cZ cL cB q q_draft q_drafted q_counts q_symbols q_lengths q_codes q_often q_row q_number q_group q_bitsOf q_many k_thrown k_drafts k_words k_total k_size k_place k_row) s.heap.size = A at hD ⊢
  have hA : ∀ q : Nat, s.heap.size ≤ q → A q := fun q h => by rw [← hAe]; exact Or.inr h
  have hS : va_S A s.heap s.heap [] := va_S.rf
  have hl := lv_entry [.ref q, .int a_0] (n := 4) (Nat.le_of_ble_eq_true rfl)
  rw [lg_entry_eq]
  generalize (lg_sl [.ref q, .int a_0] ++ List.replicate (4 - (lg_sl [.ref q, .int a_0]).length) Slot.unset).toArray = ls at hl ⊢
  have hl : lv_has ls 4 [(0, .ref q), (1, .int a_0)] := hl
  unfold f_MM_bits at hf
  refine lv_aload_n hx hb dMM_bits_0 rfl (lv_at hl 0 rfl) ?_
  refine lv_iconst (v := 0) hx hb dMM_bits_1 (by decide) ?_
  refine va_put (D := (dC, dI)) (ci := 6) (v := .int 0) (ty := .int) (C := RMM) (T := TMM) (N := 18) hx hb hts hi_MM tyMM tyMM_ok nmMM hown hK hP hD hS 0 rfl rfl 0 (by decide) (hts _ tw_340) (fun _ h9 => h9) rfl (by decide +kernel) rfl rfl (Nat.le_of_ble_eq_true rfl) dMM_bits_2 (fun H locs hP hD hS => ?_)
  have hP : va_P (dC, dI) vwCl (w_MM_bits cI cZ cL cB q q_draft q_drafted q_counts q_symbols q_lengths q_codes q_often q_row q_number q_group q_bitsOf q_many 0 k_drafts k_words k_total k_size k_place k_row) H := hP
  have hD : va_D A (w_MM_bits cI cZ cL cB q q_draft q_drafted q_counts q_symbols q_lengths q_codes q_often q_row q_number q_group q_bitsOf q_many 0 k_drafts k_words k_total k_size k_place k_row) := hD
  refine lv_iload_n hx hb dMM_bits_5 rfl (lv_at hl 1 rfl) ?_
  refine lv_if_lt (tgt := 28) hx hb dMM_bits_6 (by decide) (fun c_1 => ?_) (fun c_1 => ?_)
  · have hf := ifT hf c_1
    refine lv_iconst (v := (-1)) hx hb dMM_bits_28 (by decide) ?_
    cases hf
    exact ax_iret hx hb hr hP hD hS dMM_bits_29 hlocks
  · have hf := ifF hf c_1
    refine lv_iload_n hx hb dMM_bits_9 rfl (lv_at hl 1 rfl) ?_
    refine lv_bipush (v := 16) hx hb dMM_bits_10 (by decide) ?_
    refine lv_icmp_gt (tgt := 28) hx hb dMM_bits_12 (by decide) (fun c_2 => ?_) (fun c_2 => ?_)
    · have hf := ifT hf c_2
      refine lv_iconst (v := (-1)) hx hb dMM_bits_28 (by decide) ?_
      cases hf
      exact ax_iret hx hb hr hP hD hS dMM_bits_29 hlocks
    · have hf := ifF hf c_2
      refine lv_iload_n hx hb dMM_bits_15 rfl (lv_at hl 1 rfl) ?_
      refine lv_aload_n hx hb dMM_bits_16 rfl (lv_at hl 0 rfl) ?_
      refine va_get (D := (dC, dI)) (ci := 6) (v := .int k_size) (C := RMM) (T := TMM) (N := 18) hx hb hts hi_MM hown hK hP 0 rfl rfl 12 (by decide) (hts _ tw_352) (fun _ h9 => h9) rfl dMM_bits_17 ?_
      refine lv_aload_n hx hb dMM_bits_20 rfl (lv_at hl 0 rfl) ?_
      refine va_get (D := (dC, dI)) (ci := 6) (v := .int k_place) (C := RMM) (T := TMM) (N := 18) hx hb hts hi_MM hown hK hP 0 rfl rfl 13 (by decide) (hts _ tw_353) (fun _ h9 => h9) rfl dMM_bits_21 ?_
      refine lv_isub hx hb dMM_bits_24 ?_
      refine lv_icmp_le (tgt := 30) hx hb dMM_bits_25 (by decide) (fun c_3 => ?_) (fun c_3 => ?_)
      · have hf := ifT hf c_3
        refine lv_iconst (v := 0) hx hb dMM_bits_30 (by decide) ?_
        refine lv_istore_n (lv' := [(2, .int 0), (0, .ref q), (1, .int a_0)]) hx hb dMM_bits_31 rfl hl (by decide) rfl (fun ls hl => ?_)
        refine lv_iconst (v := 0) hx hb dMM_bits_32 (by decide) ?_
        refine lv_istore_n (lv' := [(3, .int 0), (2, .int 0), (0, .ref q), (1, .int a_0)]) hx hb dMM_bits_33 rfl hl (by decide) rfl (fun ls hl => ?_)
        refine Lp3_W (P := fun (x6 : Int32) (x7 : Int32) (x8 : Int32) => ∀ (H : Heap) (locs : List Loc) (ls : Array Slot), va_P (dC, dI) vwCl (w_MM_bits cI cZ cL cB q q_draft q_drafted q_counts q_symbols q_lengths q_codes q_often q_row q_number q_group q_bitsOf q_many 0 k_drafts k_words k_total k_size x8 k_row) H → va_D A (w_MM_bits cI cZ cL cB q q_draft q_drafted q_counts q_symbols q_lengths q_codes q_often q_row q_number q_group q_bitsOf q_many 0 k_drafts k_words k_total k_size x8 k_row) → va_S A s.heap H locs → lv_has ls 4 [(0, .ref q), (1, .int a_0), (2, .int x6), (3, .int x7)] → W p l e _ s m _ below meth c H locs 0 0 _ (F0 m 34 ls [])) ?_ _ _ _ _ hf _ _ _ hP hD hS (lv_sub hl [2, 3, 1, 0] rfl)
        clear hf hP hD hS hl
        intro ag4 ih5 x6 x7 x8 hf H locs ls hP hD hS hl
        refine lv_iload_n hx hb dMM_bits_34 rfl (lv_at hl 3 rfl) ?_
        refine lv_iload_n hx hb dMM_bits_35 rfl (lv_at hl 1 rfl) ?_
        refine lv_icmp_ge (tgt := 69) hx hb dMM_bits_36 (by decide) (fun c_9 => ?_) (fun c_9 => ?_)
        · have hf := ifT hf c_9
          refine lv_iload_n hx hb dMM_bits_69 rfl (lv_at hl 2 rfl) ?_
          cases hf
          exact ax_iret hx hb hr hP hD hS dMM_bits_70 hlocks
        · have hf := ifF hf c_9
          refine lv_iconst (v := 2) hx hb dMM_bits_39 (by decide) ?_
          refine lv_iload_n hx hb dMM_bits_40 rfl (lv_at hl 2 rfl) ?_
          refine lv_imul hx hb dMM_bits_41 ?_
          refine lv_aload_n hx hb dMM_bits_42 rfl (lv_at hl 0 rfl) ?_
          refine va_get (D := (dC, dI)) (ci := 6) (v := .ref q_row) (C := RMM) (T := TMM) (N := 18) hx hb hts hi_MM hown hK hP 0 rfl rfl 11 (by decide) (hts _ tw_351) (fun _ h9 => h9) rfl dMM_bits_43 ?_
          refine lv_aload_n hx hb dMM_bits_46 rfl (lv_at hl 0 rfl) ?_
          refine va_get (D := (dC, dI)) (ci := 6) (v := .int x8) (C := RMM) (T := TMM) (N := 18) hx hb hts hi_MM hown hK hP 0 rfl rfl 13 (by decide) (hts _ tw_353) (fun _ h9 => h9) rfl dMM_bits_47 ?_
          obtain ⟨v10, ev10, h11, hf⟩ := rd_some hf
          refine ax_bald hx hb hK hP 1 3 rfl rfl h11 ev10 dMM_bits_50 ?_
          refine lv_iadd hx hb dMM_bits_51 ?_
          refine lv_istore_n (lv' := [(2, .int ((2 * x6) + v10)), (0, .ref q), (1, .int a_0), (3, .int x7)]) hx hb dMM_bits_52 rfl hl (by decide) rfl (fun ls hl => ?_)
          refine lv_aload_n hx hb dMM_bits_53 rfl (lv_at hl 1 rfl) ?_
          refine lv_dup hx hb dMM_bits_54 rfl ?_
          refine va_get (D := (dC, dI)) (ci := 6) (v := .int x8) (C := RMM) (T := TMM) (N := 18) hx hb hts hi_MM hown hK hP 0 rfl rfl 13 (by decide) (hts _ tw_353) (fun _ h9 => h9) rfl dMM_bits_55 ?_
          refine lv_iconst (v := 1) hx hb dMM_bits_58 (by decide) ?_
          refine lv_iadd hx hb dMM_bits_59 ?_
          refine va_put (D := (dC, dI)) (ci := 6) (v := .int (x8 + 1)) (ty := .int) (C := RMM) (T := TMM) (N := 18) hx hb hts hi_MM tyMM tyMM_ok nmMM hown hK hP hD hS 0 rfl rfl 13 (by decide) (hts _ tw_353) (fun _ h9 => h9) rfl (by decide +kernel) rfl rfl (Nat.le_of_ble_eq_true rfl) dMM_bits_60 (fun H locs hP hD hS => ?_)
          have hP : va_P (dC, dI) vwCl (w_MM_bits cI cZ cL cB q q_draft q_drafted q_counts q_symbols q_lengths q_codes q_often q_row q_number q_group q_bitsOf q_many 0 k_drafts k_words k_total k_size (x8 + 1) k_row) H := hP
          have hD : va_D A (w_MM_bits cI cZ cL cB q q_draft q_drafted q_counts q_symbols q_lengths q_codes q_often q_row q_number q_group q_bitsOf q_many 0 k_drafts k_words k_total k_size (x8 + 1) k_row) := hD
          refine lv_iinc (v := (x7 + 1)) (lv' := [(3, .int (x7 + 1)), (2, .int ((2 * x6) + v10)), (0, .ref q), (1, .int a_0)]) hx hb dMM_bits_63 hl (k := 3) rfl rfl (by decide) rfl (fun ls hl => ?_)
          refine lv_goto (tgt := 34) hx hb dMM_bits_66 (by decide) ?_
          exact ih5 ((2 * x6) + v10) (x7 + 1) (x8 + 1) hf _ _ _ hP hD hS (lv_sub hl [2, 3, 1, 0] rfl)
      · have hf := ifF hf c_3
        refine lv_iconst (v := (-1)) hx hb dMM_bits_28 (by decide) ?_
        cases hf
        exact ax_iret hx hb hr hP hD hS dMM_bits_29 hlocks
abbrev wsMM_seek : List Cond := Cond.code yMM_seek cMM_seek 2 (some .boolean) :: tt
set_option maxHeartbeats 4000000 in
set_option maxRecDepth 100000 in
theorem cc_MM_seek (l : Launch) (dC : Nat → ClassId) (dI : Nat → Nat → Nat) (cI cZ cL cB : ClassId) (q q_draft q_drafted q_counts q_symbols q_lengths q_codes q_often q_row q_number q_group q_bitsOf q_many : Nat) (sz : Nat) (k_thrown : Int32) (k_drafts : Int32) (k_words : Int32) (k_total : Int32) (k_size : Int32) (k_place : Int32) (a_0 : Int32) (r : Int32) (o_thrown : Int32) (o_place : Int32) (hf : f_MM_seek k_thrown k_drafts k_words k_total k_size k_place a_0 = some (r, o_thrown, o_place)) : Met l yMM_seek wsMM_seek ({ frames := 0, cells := 0, slots := 0, locals := 0 }) (va_Pc [.ref q, .int a_0] (kz_P dC dI cI cZ cL cB sz (w_MM_seek cI cZ cL cB q q_draft q_drafted q_counts q_symbols q_lengths q_codes q_often q_row q_number q_group q_bitsOf q_many k_thrown k_drafts k_words k_total k_size k_place))) (va_Qi (fun (r' : Int32) (_ : Unit) => r' = r) (fun _ t => va_P (dC, dI) vwCl (w_MM_seek cI cZ cL cB q q_draft q_drafted q_counts q_symbols q_lengths q_codes q_often q_row q_number q_group q_bitsOf q_many o_thrown k_drafts k_words k_total k_size o_place) t.heap ∧ va_D (va_A (w_MM_seek cI cZ cL cB q q_draft q_drafted q_counts q_symbols q_lengths q_codes q_often q_row q_number q_group q_bitsOf q_many k_thrown k_drafts k_words k_total k_size k_place) sz) (w_MM_seek cI cZ cL cB q q_draft q_drafted q_counts q_symbols q_lengths q_codes q_often q_row q_number q_group q_bitsOf q_many o_thrown k_drafts k_words k_total k_size o_place)) (va_A (w_MM_seek cI cZ cL cB q q_draft q_drafted q_counts q_symbols q_lengths q_codes q_often q_row q_number q_group q_bitsOf q_many k_thrown k_drafts k_words k_total k_size k_place) sz)) 0 0 (va_A (w_MM_seek cI cZ cL cB q q_draft q_drafted q_counts q_symbols q_lengths q_codes q_often q_row q_number q_group q_bitsOf q_many k_thrown k_drafts k_words k_total k_size k_place) sz) := by
  refine Met.ofW (cc := cMM_seek) (maxL := 2) (ret := (some .boolean)) (by decide) rfl ?_
  intro p e s m args below meth c s₁ B hml hv
  obtain ⟨rfl, hsz, hP, hZ, hD0⟩ := hv
  have hK := hZ.1
  have hx := B.exec
  have hb := B.bytes
  have hr := B.returns
  have hts : ∀ w ∈ tt, w.before _ s = true := fun w h => atoms_spec (ws := wsMM_seek) B.pre w (List.mem_cons_of_mem _ h)
  have hown : s.vm.findClass RMM = some m.cls := findClass_of_methodNamed B.named
  have hlocks := B.notSynchronized
  subst hsz
  have hD := hD0.self (sz := s.heap.size)
  generalize hAe : va_A (w_MM_seek cI cZ cL cB q q_draft q_drafted q_counts q_symbols q_lengths q_codes q_often q_row q_number q_group q_bitsOf q_many k_thrown k_drafts k_words k_total k_size k_place) s.heap.size = A at hD ⊢
  have hA : ∀ q : Nat, s.heap.size ≤ q → A q := fun q h => by rw [← hAe]; exact Or.inr h
  have hS : va_S A s.heap s.heap [] := va_S.rf
  have hl := lv_entry [.ref q, .int a_0] (n := 2) (Nat.le_of_ble_eq_true rfl)
  rw [lg_entry_eq]
  generalize (lg_sl [.ref q, .int a_0] ++ List.replicate (2 - (lg_sl [.ref q, .int a_0]).length) Slot.unset).toArray = ls at hl ⊢
  have hl : lv_has ls 2 [(0, .ref q), (1, .int a_0)] := hl
  unfold f_MM_seek at hf
  refine lv_aload_n hx hb dMM_seek_0 rfl (lv_at hl 0 rfl) ?_
  refine lv_iconst (v := 0) hx hb dMM_seek_1 (by decide) ?_
  refine va_put (D := (dC, dI)) (ci := 6) (v := .int 0) (ty := .int) (C := RMM) (T := TMM) (N := 18) hx hb hts hi_MM tyMM tyMM_ok nmMM hown hK hP hD hS 0 rfl rfl 0 (by decide) (hts _ tw_340) (fun _ h9 => h9) rfl (by decide +kernel) rfl rfl (Nat.le_of_ble_eq_true rfl) dMM_seek_2 (fun H locs hP hD hS => ?_)
  have hP : va_P (dC, dI) vwCl (w_MM_seek cI cZ cL cB q q_draft q_drafted q_counts q_symbols q_lengths q_codes q_often q_row q_number q_group q_bitsOf q_many 0 k_drafts k_words k_total k_size k_place) H := hP
  have hD : va_D A (w_MM_seek cI cZ cL cB q q_draft q_drafted q_counts q_symbols q_lengths q_codes q_often q_row q_number q_group q_bitsOf q_many 0 k_drafts k_words k_total k_size k_place) := hD
  refine lv_iload_n hx hb dMM_seek_5 rfl (lv_at hl 1 rfl) ?_
  refine lv_if_lt (tgt := 17) hx hb dMM_seek_6 (by decide) (fun c_1 => ?_) (fun c_1 => ?_)
  · have hf := ifT hf c_1
    refine lv_iconst (v := 0) hx hb dMM_seek_17 (by decide) ?_
    cases hf
    exact ax_zret hx hb hr rfl hP hD hS dMM_seek_18 hlocks
  · have hf := ifF hf c_1
    refine lv_iload_n hx hb dMM_seek_9 rfl (lv_at hl 1 rfl) ?_
    refine lv_aload_n hx hb dMM_seek_10 rfl (lv_at hl 0 rfl) ?_
    refine va_get (D := (dC, dI)) (ci := 6) (v := .int k_size) (C := RMM) (T := TMM) (N := 18) hx hb hts hi_MM hown hK hP 0 rfl rfl 12 (by decide) (hts _ tw_352) (fun _ h9 => h9) rfl dMM_seek_11 ?_
    refine lv_icmp_le (tgt := 19) hx hb dMM_seek_14 (by decide) (fun c_2 => ?_) (fun c_2 => ?_)
    · have hf := ifT hf c_2
      refine lv_aload_n hx hb dMM_seek_19 rfl (lv_at hl 0 rfl) ?_
      refine lv_iload_n hx hb dMM_seek_20 rfl (lv_at hl 1 rfl) ?_
      refine va_put (D := (dC, dI)) (ci := 6) (v := .int a_0) (ty := .int) (C := RMM) (T := TMM) (N := 18) hx hb hts hi_MM tyMM tyMM_ok nmMM hown hK hP hD hS 0 rfl rfl 13 (by decide) (hts _ tw_353) (fun _ h9 => h9) rfl (by decide +kernel) rfl rfl (Nat.le_of_ble_eq_true rfl) dMM_seek_21 (fun H locs hP hD hS => ?_)
      have hP : va_P (dC, dI) vwCl (w_MM_seek cI cZ cL cB q q_draft q_drafted q_counts q_symbols q_lengths q_codes q_often q_row q_number q_group q_bitsOf q_many 0 k_drafts k_words k_total k_size a_0) H := hP
      have hD : va_D A (w_MM_seek cI cZ cL cB q q_draft q_drafted q_counts q_symbols q_lengths q_codes q_often q_row q_number q_group q_bitsOf q_many 0 k_drafts k_words k_total k_size a_0) := hD
      refine lv_iconst (v := 1) hx hb dMM_seek_24 (by decide) ?_
      cases hf
      exact ax_zret hx hb hr rfl hP hD hS dMM_seek_25 hlocks
    · have hf := ifF hf c_2
      refine lv_iconst (v := 0) hx hb dMM_seek_17 (by decide) ?_
      cases hf
      exact ax_zret hx hb hr rfl hP hD hS dMM_seek_18 hlocks
