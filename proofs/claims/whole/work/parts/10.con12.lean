abbrev wsMM_put : List Cond := Cond.code yMM_put cMM_put 3 (some .int) :: tt
set_option maxHeartbeats 4000000 in
set_option maxRecDepth 100000 in
theorem cc_MM_put (l : Launch) (dC : Nat → ClassId) (dI : Nat → Nat → Nat) (cI cZ cL cB : ClassId) (q q_draft q_drafted q_counts q_symbols q_lengths q_codes q_often q_row q_number q_group q_bitsOf q_many : Nat) (sz : Nat) (k_thrown : Int32) (k_drafts : Int32) (k_words : Int32) (k_total : Int32) (k_size : Int32) (k_place : Int32) (k_lengths : Nat → Int32) (k_codes : Nat → Int32) (k_row : Nat → Int32) (a_0 : Int32) (r : Int32) (o_thrown : Int32) (o_size : Int32) (o_row : Nat → Int32) (hf : f_MM_put k_thrown k_drafts k_words k_total k_size k_place k_lengths k_codes k_row a_0 = some (r, o_thrown, o_size, o_row)) : Met l yMM_put wsMM_put ({ frames := 1, cells := 0, slots := 0, locals := 23 }) (va_Pc [.ref q, .int a_0] (kz_P dC dI cI cZ cL cB sz (w_MM_put cI cZ cL cB q q_draft q_drafted q_counts q_symbols q_lengths q_codes q_often q_row q_number q_group q_bitsOf q_many k_thrown k_drafts k_words k_total k_size k_place k_lengths k_codes k_row))) (va_Qi (fun (r' : Int32) (_ : Unit) => r' = r) (fun _ t => va_P (dC, dI) vwCl (w_MM_put cI cZ cL cB q q_draft q_drafted q_counts q_symbols q_lengths q_codes q_often q_row q_number q_group q_bitsOf q_many o_thrown k_drafts k_words k_total o_size k_place k_lengths k_codes o_row) t.heap ∧ va_D (va_A (w_MM_put cI cZ cL cB q q_draft q_drafted q_counts q_symbols q_lengths q_codes q_often q_row q_number q_group q_bitsOf q_many k_thrown k_drafts k_words k_total k_size k_place k_lengths k_codes k_row) sz) (w_MM_put cI cZ cL cB q q_draft q_drafted q_counts q_symbols q_lengths q_codes q_often q_row q_number q_group q_bitsOf q_many o_thrown k_drafts k_words k_total o_size k_place k_lengths k_codes o_row)) (va_A (w_MM_put cI cZ cL cB q q_draft q_drafted q_counts q_symbols q_lengths q_codes q_often q_row q_number q_group q_bitsOf q_many k_thrown k_drafts k_words k_total k_size k_place k_lengths k_codes k_row) sz)) 0 0 (va_A (w_MM_put cI cZ cL cB q q_draft q_drafted q_counts q_symbols q_lengths q_codes q_often q_row q_number q_group q_bitsOf q_many k_thrown k_drafts k_words k_total k_size k_place k_lengths k_codes k_row) sz) := by
  refine Met.ofW (cc := cMM_put) (maxL := 3) (ret := (some .int)) (by decide) rfl ?_
  intro p e s m args below meth c s₁ B hml hv
  obtain ⟨rfl, hsz, hP, hZ, hD0⟩ := hv
  have hK := hZ.1
  have hx := B.exec
  have hb := B.bytes
  have hr := B.returns
  have hts : ∀ w ∈ tt, w.before _ s = true := fun w h => atoms_spec (ws := wsMM_put) B.pre w (List.mem_cons_of_mem _ h)
  have hown : s.vm.findClass RMM = some m.cls := findClass_of_methodNamed B.named
  have hlocks := B.notSynchronized
  subst hsz
  have hD := hD0.self (sz := s.heap.size)
  generalize hAe : va_A (w_MM_put cI cZ cL cB q q_draft q_drafted q_counts q_symbols q_lengths q_codes q_often q_row q_number q_group q_bitsOf q_many k_thrown k_drafts k_words k_total k_size k_place k_lengths k_codes k_row) s.heap.size = A at hD ⊢
  have hA : ∀ q : Nat, s.heap.size ≤ q → A q := fun q h => by rw [← hAe]; exact Or.inr h
  have hS : va_S A s.heap s.heap [] := va_S.rf
  have hl := lv_entry [.ref q, .int a_0] (n := 3) (Nat.le_of_ble_eq_true rfl)
  rw [lg_entry_eq]
  generalize (lg_sl [.ref q, .int a_0] ++ List.replicate (3 - (lg_sl [.ref q, .int a_0]).length) Slot.unset).toArray = ls at hl ⊢
  have hl : lv_has ls 3 [(0, .ref q), (1, .int a_0)] := hl
  unfold f_MM_put at hf
  refine lv_iload_n hx hb dMM_put_0 rfl (lv_at hl 1 rfl) ?_
  obtain ⟨r1, h2, hf⟩ := bd1_some hf
  have hPc := hP.sub (ws' := (w_MM_isSymbol cI cZ cL cB )) [] rfl
  have hDc := hD.sub (ws' := (w_MM_isSymbol cI cZ cL cB )) [] (by decide) rfl
  refine ax_calli (wr := [(q, .inr (6, [.int k_thrown, .ref q_draft, .ref q_drafted, .int k_drafts, .ref q_counts, .ref q_symbols, .int k_words, .ref q_lengths, .ref q_codes, .ref q_often, .int k_total, .ref q_row, .int k_size, .int k_place, .ref q_number, .ref q_group, .ref q_bitsOf, .ref q_many])), (q_lengths, .inl (cI, 256, .inl k_lengths)), (q_codes, .inl (cI, 256, .inl k_codes)), (q_row, .inl (cB, 65536, .inl k_row))]) (w2 := (w_MM_put cI cZ cL cB q q_draft q_drafted q_counts q_symbols q_lengths q_codes q_often q_row q_number q_group q_bitsOf q_many k_thrown k_drafts k_words k_total k_size k_place k_lengths k_codes k_row)) (va_runS (As := [.int a_0]) (rest := []) ⟨hx, hb, hml, hown, hts⟩ (cc_MM_isSymbol l dC dI cI cZ cL cB  s.heap.size a_0 r1 h2) (va_cwS 1 hts (tt_S tw_388 tw_389 tw_27 tw_390) rfl rfl rfl (by decide +kernel) ⟨Nat.le_of_ble_eq_true rfl, Nat.le_of_ble_eq_true rfl⟩) ⟨kz_fb, kz_pre hPc hZ hDc⟩ rfl rfl hl.1 rfl (lv_room (Nat.le_of_ble_eq_true rfl)) dMM_put_1 ⟨Nat.zero_le _, Nat.zero_le _⟩) hP hD hS hA [] [0, 1, 2, 3] [0, 1, 2, 3] rfl rfl (by decide) (by decide) rfl (by decide) (fun H locs hP hD hS => ?_)
  refine lv_if_eq (tgt := 31) hx hb dMM_put_4 (by decide) (fun c_3 => ?_) (fun c_3 => ?_)
  · have hf := ifT hf c_3
    refine lv_iconst (v := 0) hx hb dMM_put_31 (by decide) ?_
    refine lv_istore_n (lv' := [(2, .int 0), (0, .ref q), (1, .int a_0)]) hx hb dMM_put_32 rfl hl (by decide) rfl (fun ls hl => ?_)
    refine lv_aload_n hx hb dMM_put_33 rfl (lv_at hl 1 rfl) ?_
    refine lv_iload_n hx hb dMM_put_34 rfl (lv_at hl 0 rfl) ?_
    refine lv_if_ne (tgt := 42) hx hb dMM_put_35 (by decide) (fun c_4 => ?_) (fun c_4 => ?_)
    · have hf := ifF hf c_4
      refine lv_aload_n hx hb dMM_put_42 rfl (lv_at hl 1 rfl) ?_
      refine va_get (D := (dC, dI)) (ci := 6) (v := .int k_size) (C := RMM) (T := TMM) (N := 18) hx hb hts hi_MM hown hK hP 0 rfl rfl 12 (by decide) (hts _ tw_352) (fun _ h9 => h9) rfl dMM_put_43 ?_
      refine lv_aload_n hx hb dMM_put_46 rfl (lv_at hl 1 rfl) ?_
      refine va_get (D := (dC, dI)) (ci := 6) (v := .ref q_lengths) (C := RMM) (T := TMM) (N := 18) hx hb hts hi_MM hown hK hP 0 rfl rfl 7 (by decide) (hts _ tw_347) (fun _ h9 => h9) rfl dMM_put_47 ?_
      refine lv_iload_n hx hb dMM_put_50 rfl (lv_at hl 2 rfl) ?_
      obtain ⟨v5, ev5, h6, hf⟩ := rd_some hf
      refine ax_iald hx hb hK hP 1 0 rfl rfl h6 ev5 dMM_put_51 ?_
      refine lv_iadd hx hb dMM_put_52 ?_
      refine lv_ldc (v := 65536) hx hb hown (hts _ tw_339) dMM_put_53 ?_
      refine lv_icmp_le (tgt := 62) hx hb dMM_put_55 (by decide) (fun c_7 => ?_) (fun c_7 => ?_)
      · have hf := ifT hf c_7
        refine lv_iconst (v := 0) hx hb dMM_put_62 (by decide) ?_
        refine va_put (D := (dC, dI)) (ci := 6) (v := .int 0) (ty := .int) (C := RMM) (T := TMM) (N := 18) hx hb hts hi_MM tyMM tyMM_ok nmMM hown hK hP hD hS 0 rfl rfl 0 (by decide) (hts _ tw_340) (fun _ h9 => h9) rfl (by decide +kernel) rfl rfl (Nat.le_of_ble_eq_true rfl) dMM_put_63 (fun H locs hP hD hS => ?_)
        have hP : va_P (dC, dI) vwCl (w_MM_put cI cZ cL cB q q_draft q_drafted q_counts q_symbols q_lengths q_codes q_often q_row q_number q_group q_bitsOf q_many 0 k_drafts k_words k_total k_size k_place k_lengths k_codes k_row) H := hP
        have hD : va_D A (w_MM_put cI cZ cL cB q q_draft q_drafted q_counts q_symbols q_lengths q_codes q_often q_row q_number q_group q_bitsOf q_many 0 k_drafts k_words k_total k_size k_place k_lengths k_codes k_row) := hD
        refine lv_aload_n hx hb dMM_put_66 rfl (lv_at hl 1 rfl) ?_
        refine va_get (D := (dC, dI)) (ci := 6) (v := .int 0) (C := RMM) (T := TMM) (N := 18) hx hb hts hi_MM hown hK hP 0 rfl rfl 0 (by decide) (hts _ tw_340) (fun _ h9 => h9) rfl dMM_put_67 ?_
        refine lv_if_le (tgt := 75) hx hb dMM_put_70 (by decide) (fun c_8 => ?_) (fun c_8 => ?_)
        · have hf := ifT hf c_8
          refine lv_aload_n hx hb dMM_put_75 rfl (lv_at hl 1 rfl) ?_
          refine lv_aload_n hx hb dMM_put_76 rfl (lv_at hl 1 rfl) ?_
          refine va_get (D := (dC, dI)) (ci := 6) (v := .ref q_codes) (C := RMM) (T := TMM) (N := 18) hx hb hts hi_MM hown hK hP 0 rfl rfl 8 (by decide) (hts _ tw_348) (fun _ h9 => h9) rfl dMM_put_77 ?_
          refine lv_iload_n hx hb dMM_put_80 rfl (lv_at hl 2 rfl) ?_
          obtain ⟨v9, ev9, h10, hf⟩ := rd_some hf
          refine ax_iald hx hb hK hP 2 0 rfl rfl h10 ev9 dMM_put_81 ?_
          refine lv_aload_n hx hb dMM_put_82 rfl (lv_at hl 1 rfl) ?_
          refine va_get (D := (dC, dI)) (ci := 6) (v := .ref q_lengths) (C := RMM) (T := TMM) (N := 18) hx hb hts hi_MM hown hK hP 0 rfl rfl 7 (by decide) (hts _ tw_347) (fun _ h9 => h9) rfl dMM_put_83 ?_
          refine lv_iload_n hx hb dMM_put_86 rfl (lv_at hl 2 rfl) ?_
          obtain ⟨v11, ev11, h12, hf⟩ := rd_some hf
          refine ax_iald hx hb hK hP 1 0 rfl rfl h12 ev11 dMM_put_87 ?_
          obtain ⟨o13, o14, h15, hf⟩ := bd2_some hf
          have hPc := hP.sub (ws' := (w_MM_lay cI cZ cL cB q q_draft q_drafted q_counts q_symbols q_lengths q_codes q_often q_row q_number q_group q_bitsOf q_many 0 k_drafts k_words k_total k_size k_place k_row)) [0, 3] rfl
          have hDc := hD.sub (ws' := (w_MM_lay cI cZ cL cB q q_draft q_drafted q_counts q_symbols q_lengths q_codes q_often q_row q_number q_group q_bitsOf q_many 0 k_drafts k_words k_total k_size k_place k_row)) [0, 3] (by decide) rfl
          refine ax_callv (wr := [(q_lengths, .inl (cI, 256, .inl k_lengths)), (q_codes, .inl (cI, 256, .inl k_codes))]) (w2 := (w_MM_put cI cZ cL cB q q_draft q_drafted q_counts q_symbols q_lengths q_codes q_often q_row q_number q_group q_bitsOf q_many 0 k_drafts k_words k_total o13 k_place k_lengths k_codes o14)) (va_runV (As := [.int v9, .int v11]) (rest := []) ⟨hx, hb, hml, hown, hts⟩ (cc_MM_lay l dC dI cI cZ cL cB q q_draft q_drafted q_counts q_symbols q_lengths q_codes q_often q_row q_number q_group q_bitsOf q_many H.size 0 k_drafts k_words k_total k_size k_place k_row v9 v11 o13 o14 h15) (cwV 2 hts (tt_V tw_444 tw_445 tw_18 tw_27 tw_446) rfl rfl rfl (by decide +kernel) ⟨Nat.le_of_ble_eq_true rfl, Nat.le_of_ble_eq_true rfl⟩) ⟨kz_fb, va_recv hK hPc (ci := 6) (q0 := 0) rfl rfl, kz_pre hPc hZ hDc⟩ rfl rfl hl.1 rfl (lv_room (Nat.le_of_ble_eq_true rfl)) dMM_put_88 ⟨Nat.zero_le _, Nat.zero_le _⟩) hP hD hS hA [0, 3] [1, 2] [2, 0, 1, 3] rfl rfl (by decide) (by decide) rfl (by decide) (fun H locs hP hD hS => ?_)
          refine lv_aload_n hx hb dMM_put_91 rfl (lv_at hl 1 rfl) ?_
          refine va_get (D := (dC, dI)) (ci := 6) (v := .int o13) (C := RMM) (T := TMM) (N := 18) hx hb hts hi_MM hown hK hP 0 rfl rfl 12 (by decide) (hts _ tw_352) (fun _ h9 => h9) rfl dMM_put_92 ?_
          cases hf
          exact ax_iret hx hb hr hP hD hS dMM_put_95 hlocks
        · have hf := ifF hf c_8
          refine lv_iconst (v := 0) hx hb dMM_put_73 (by decide) ?_
          cases hf
          exact ax_iret hx hb hr hP hD hS dMM_put_74 hlocks
      · have hf := ifF hf c_7
        refine lv_iconst (v := 2) hx hb dMM_put_58 (by decide) ?_
        refine lv_goto (tgt := 63) hx hb dMM_put_59 (by decide) ?_
        refine va_put (D := (dC, dI)) (ci := 6) (v := .int 2) (ty := .int) (C := RMM) (T := TMM) (N := 18) hx hb hts hi_MM tyMM tyMM_ok nmMM hown hK hP hD hS 0 rfl rfl 0 (by decide) (hts _ tw_340) (fun _ h9 => h9) rfl (by decide +kernel) rfl rfl (Nat.le_of_ble_eq_true rfl) dMM_put_63 (fun H locs hP hD hS => ?_)
        have hP : va_P (dC, dI) vwCl (w_MM_put cI cZ cL cB q q_draft q_drafted q_counts q_symbols q_lengths q_codes q_often q_row q_number q_group q_bitsOf q_many 2 k_drafts k_words k_total k_size k_place k_lengths k_codes k_row) H := hP
        have hD : va_D A (w_MM_put cI cZ cL cB q q_draft q_drafted q_counts q_symbols q_lengths q_codes q_often q_row q_number q_group q_bitsOf q_many 2 k_drafts k_words k_total k_size k_place k_lengths k_codes k_row) := hD
        refine lv_aload_n hx hb dMM_put_66 rfl (lv_at hl 1 rfl) ?_
        refine va_get (D := (dC, dI)) (ci := 6) (v := .int 2) (C := RMM) (T := TMM) (N := 18) hx hb hts hi_MM hown hK hP 0 rfl rfl 0 (by decide) (hts _ tw_340) (fun _ h9 => h9) rfl dMM_put_67 ?_
        refine lv_if_le (tgt := 75) hx hb dMM_put_70 (by decide) (fun c_16 => ?_) (fun c_16 => ?_)
        · have hf := ifT hf c_16
          refine lv_aload_n hx hb dMM_put_75 rfl (lv_at hl 1 rfl) ?_
          refine lv_aload_n hx hb dMM_put_76 rfl (lv_at hl 1 rfl) ?_
          refine va_get (D := (dC, dI)) (ci := 6) (v := .ref q_codes) (C := RMM) (T := TMM) (N := 18) hx hb hts hi_MM hown hK hP 0 rfl rfl 8 (by decide) (hts _ tw_348) (fun _ h9 => h9) rfl dMM_put_77 ?_
          refine lv_iload_n hx hb dMM_put_80 rfl (lv_at hl 2 rfl) ?_
          obtain ⟨v17, ev17, h18, hf⟩ := rd_some hf
          refine ax_iald hx hb hK hP 2 0 rfl rfl h18 ev17 dMM_put_81 ?_
          refine lv_aload_n hx hb dMM_put_82 rfl (lv_at hl 1 rfl) ?_
          refine va_get (D := (dC, dI)) (ci := 6) (v := .ref q_lengths) (C := RMM) (T := TMM) (N := 18) hx hb hts hi_MM hown hK hP 0 rfl rfl 7 (by decide) (hts _ tw_347) (fun _ h9 => h9) rfl dMM_put_83 ?_
          refine lv_iload_n hx hb dMM_put_86 rfl (lv_at hl 2 rfl) ?_
          obtain ⟨v19, ev19, h20, hf⟩ := rd_some hf
          refine ax_iald hx hb hK hP 1 0 rfl rfl h20 ev19 dMM_put_87 ?_
          obtain ⟨o21, o22, h23, hf⟩ := bd2_some hf
          have hPc := hP.sub (ws' := (w_MM_lay cI cZ cL cB q q_draft q_drafted q_counts q_symbols q_lengths q_codes q_often q_row q_number q_group q_bitsOf q_many 2 k_drafts k_words k_total k_size k_place k_row)) [0, 3] rfl
          have hDc := hD.sub (ws' := (w_MM_lay cI cZ cL cB q q_draft q_drafted q_counts q_symbols q_lengths q_codes q_often q_row q_number q_group q_bitsOf q_many 2 k_drafts k_words k_total k_size k_place k_row)) [0, 3] (by decide) rfl
          refine ax_callv (wr := [(q_lengths, .inl (cI, 256, .inl k_lengths)), (q_codes, .inl (cI, 256, .inl k_codes))]) (w2 := (w_MM_put cI cZ cL cB q q_draft q_drafted q_counts q_symbols q_lengths q_codes q_often q_row q_number q_group q_bitsOf q_many 2 k_drafts k_words k_total o21 k_place k_lengths k_codes o22)) (va_runV (As := [.int v17, .int v19]) (rest := []) ⟨hx, hb, hml, hown, hts⟩ (cc_MM_lay l dC dI cI cZ cL cB q q_draft q_drafted q_counts q_symbols q_lengths q_codes q_often q_row q_number q_group q_bitsOf q_many H.size 2 k_drafts k_words k_total k_size k_place k_row v17 v19 o21 o22 h23) (cwV 2 hts (tt_V tw_444 tw_445 tw_18 tw_27 tw_446) rfl rfl rfl (by decide +kernel) ⟨Nat.le_of_ble_eq_true rfl, Nat.le_of_ble_eq_true rfl⟩) ⟨kz_fb, va_recv hK hPc (ci := 6) (q0 := 0) rfl rfl, kz_pre hPc hZ hDc⟩ rfl rfl hl.1 rfl (lv_room (Nat.le_of_ble_eq_true rfl)) dMM_put_88 ⟨Nat.zero_le _, Nat.zero_le _⟩) hP hD hS hA [0, 3] [1, 2] [2, 0, 1, 3] rfl rfl (by decide) (by decide) rfl (by decide) (fun H locs hP hD hS => ?_)
          refine lv_aload_n hx hb dMM_put_91 rfl (lv_at hl 1 rfl) ?_
          refine va_get (D := (dC, dI)) (ci := 6) (v := .int o21) (C := RMM) (T := TMM) (N := 18) hx hb hts hi_MM hown hK hP 0 rfl rfl 12 (by decide) (hts _ tw_352) (fun _ h9 => h9) rfl dMM_put_92 ?_
          cases hf
          exact ax_iret hx hb hr hP hD hS dMM_put_95 hlocks
        · have hf := ifF hf c_16
          refine lv_iconst (v := 0) hx hb dMM_put_73 (by decide) ?_
          cases hf
          exact ax_iret hx hb hr hP hD hS dMM_put_74 hlocks
    · have hf := ifT hf c_4
      refine lv_iconst (v := 1) hx hb dMM_put_38 (by decide) ?_
      refine lv_goto (tgt := 63) hx hb dMM_put_39 (by decide) ?_
      refine va_put (D := (dC, dI)) (ci := 6) (v := .int 1) (ty := .int) (C := RMM) (T := TMM) (N := 18) hx hb hts hi_MM tyMM tyMM_ok nmMM hown hK hP hD hS 0 rfl rfl 0 (by decide) (hts _ tw_340) (fun _ h9 => h9) rfl (by decide +kernel) rfl rfl (Nat.le_of_ble_eq_true rfl) dMM_put_63 (fun H locs hP hD hS => ?_)
      have hP : va_P (dC, dI) vwCl (w_MM_put cI cZ cL cB q q_draft q_drafted q_counts q_symbols q_lengths q_codes q_often q_row q_number q_group q_bitsOf q_many 1 k_drafts k_words k_total k_size k_place k_lengths k_codes k_row) H := hP
      have hD : va_D A (w_MM_put cI cZ cL cB q q_draft q_drafted q_counts q_symbols q_lengths q_codes q_often q_row q_number q_group q_bitsOf q_many 1 k_drafts k_words k_total k_size k_place k_lengths k_codes k_row) := hD
      refine lv_aload_n hx hb dMM_put_66 rfl (lv_at hl 1 rfl) ?_
      refine va_get (D := (dC, dI)) (ci := 6) (v := .int 1) (C := RMM) (T := TMM) (N := 18) hx hb hts hi_MM hown hK hP 0 rfl rfl 0 (by decide) (hts _ tw_340) (fun _ h9 => h9) rfl dMM_put_67 ?_
      refine lv_if_le (tgt := 75) hx hb dMM_put_70 (by decide) (fun c_24 => ?_) (fun c_24 => ?_)
      · have hf := ifT hf c_24
        refine lv_aload_n hx hb dMM_put_75 rfl (lv_at hl 1 rfl) ?_
        refine lv_aload_n hx hb dMM_put_76 rfl (lv_at hl 1 rfl) ?_
        refine va_get (D := (dC, dI)) (ci := 6) (v := .ref q_codes) (C := RMM) (T := TMM) (N := 18) hx hb hts hi_MM hown hK hP 0 rfl rfl 8 (by decide) (hts _ tw_348) (fun _ h9 => h9) rfl dMM_put_77 ?_
        refine lv_iload_n hx hb dMM_put_80 rfl (lv_at hl 2 rfl) ?_
        obtain ⟨v25, ev25, h26, hf⟩ := rd_some hf
        refine ax_iald hx hb hK hP 2 0 rfl rfl h26 ev25 dMM_put_81 ?_
        refine lv_aload_n hx hb dMM_put_82 rfl (lv_at hl 1 rfl) ?_
        refine va_get (D := (dC, dI)) (ci := 6) (v := .ref q_lengths) (C := RMM) (T := TMM) (N := 18) hx hb hts hi_MM hown hK hP 0 rfl rfl 7 (by decide) (hts _ tw_347) (fun _ h9 => h9) rfl dMM_put_83 ?_
        refine lv_iload_n hx hb dMM_put_86 rfl (lv_at hl 2 rfl) ?_
        obtain ⟨v27, ev27, h28, hf⟩ := rd_some hf
        refine ax_iald hx hb hK hP 1 0 rfl rfl h28 ev27 dMM_put_87 ?_
        obtain ⟨o29, o30, h31, hf⟩ := bd2_some hf
        have hPc := hP.sub (ws' := (w_MM_lay cI cZ cL cB q q_draft q_drafted q_counts q_symbols q_lengths q_codes q_often q_row q_number q_group q_bitsOf q_many 1 k_drafts k_words k_total k_size k_place k_row)) [0, 3] rfl
        have hDc := hD.sub (ws' := (w_MM_lay cI cZ cL cB q q_draft q_drafted q_counts q_symbols q_lengths q_codes q_often q_row q_number q_group q_bitsOf q_many 1 k_drafts k_words k_total k_size k_place k_row)) [0, 3] (by decide) rfl
        refine ax_callv (wr := [(q_lengths, .inl (cI, 256, .inl k_lengths)), (q_codes, .inl (cI, 256, .inl k_codes))]) (w2 := (w_MM_put cI cZ cL cB q q_draft q_drafted q_counts q_symbols q_lengths q_codes q_often q_row q_number q_group q_bitsOf q_many 1 k_drafts k_words k_total o29 k_place k_lengths k_codes o30)) (va_runV (As := [.int v25, .int v27]) (rest := []) ⟨hx, hb, hml, hown, hts⟩ (cc_MM_lay l dC dI cI cZ cL cB q q_draft q_drafted q_counts q_symbols q_lengths q_codes q_often q_row q_number q_group q_bitsOf q_many H.size 1 k_drafts k_words k_total k_size k_place k_row v25 v27 o29 o30 h31) (cwV 2 hts (tt_V tw_444 tw_445 tw_18 tw_27 tw_446) rfl rfl rfl (by decide +kernel) ⟨Nat.le_of_ble_eq_true rfl, Nat.le_of_ble_eq_true rfl⟩) ⟨kz_fb, va_recv hK hPc (ci := 6) (q0 := 0) rfl rfl, kz_pre hPc hZ hDc⟩ rfl rfl hl.1 rfl (lv_room (Nat.le_of_ble_eq_true rfl)) dMM_put_88 ⟨Nat.zero_le _, Nat.zero_le _⟩) hP hD hS hA [0, 3] [1, 2] [2, 0, 1, 3] rfl rfl (by decide) (by decide) rfl (by decide) (fun H locs hP hD hS => ?_)
        refine lv_aload_n hx hb dMM_put_91 rfl (lv_at hl 1 rfl) ?_
        refine va_get (D := (dC, dI)) (ci := 6) (v := .int o29) (C := RMM) (T := TMM) (N := 18) hx hb hts hi_MM hown hK hP 0 rfl rfl 12 (by decide) (hts _ tw_352) (fun _ h9 => h9) rfl dMM_put_92 ?_
        cases hf
        exact ax_iret hx hb hr hP hD hS dMM_put_95 hlocks
      · have hf := ifF hf c_24
        refine lv_iconst (v := 0) hx hb dMM_put_73 (by decide) ?_
        cases hf
        exact ax_iret hx hb hr hP hD hS dMM_put_74 hlocks
  · have hf := ifF hf c_3
    refine lv_aload_n hx hb dMM_put_7 rfl (lv_at hl 0 rfl) ?_
    refine va_get (D := (dC, dI)) (ci := 6) (v := .ref q_lengths) (C := RMM) (T := TMM) (N := 18) hx hb hts hi_MM hown hK hP 0 rfl rfl 7 (by decide) (hts _ tw_347) (fun _ h9 => h9) rfl dMM_put_8 ?_
    refine lv_iload_n hx hb dMM_put_11 rfl (lv_at hl 1 rfl) ?_
    obtain ⟨r32, h33, hf⟩ := bd1_some hf
    have hPc := hP.sub (ws' := (w_MM_isSymbol cI cZ cL cB )) [] rfl
    have hDc := hD.sub (ws' := (w_MM_isSymbol cI cZ cL cB )) [] (by decide) rfl
    refine ax_calli (wr := [(q, .inr (6, [.int k_thrown, .ref q_draft, .ref q_drafted, .int k_drafts, .ref q_counts, .ref q_symbols, .int k_words, .ref q_lengths, .ref q_codes, .ref q_often, .int k_total, .ref q_row, .int k_size, .int k_place, .ref q_number, .ref q_group, .ref q_bitsOf, .ref q_many])), (q_lengths, .inl (cI, 256, .inl k_lengths)), (q_codes, .inl (cI, 256, .inl k_codes)), (q_row, .inl (cB, 65536, .inl k_row))]) (w2 := (w_MM_put cI cZ cL cB q q_draft q_drafted q_counts q_symbols q_lengths q_codes q_often q_row q_number q_group q_bitsOf q_many k_thrown k_drafts k_words k_total k_size k_place k_lengths k_codes k_row)) (va_runS (As := [.int a_0]) (rest := [.ref q_lengths]) ⟨hx, hb, hml, hown, hts⟩ (cc_MM_isSymbol l dC dI cI cZ cL cB  H.size a_0 r32 h33) (va_cwS 1 hts (tt_S tw_388 tw_389 tw_27 tw_390) rfl rfl rfl (by decide +kernel) ⟨Nat.le_of_ble_eq_true rfl, Nat.le_of_ble_eq_true rfl⟩) ⟨kz_fb, kz_pre hPc hZ hDc⟩ rfl rfl hl.1 rfl (lv_room (Nat.le_of_ble_eq_true rfl)) dMM_put_12 ⟨Nat.zero_le _, Nat.zero_le _⟩) hP hD hS hA [] [0, 1, 2, 3] [0, 1, 2, 3] rfl rfl (by decide) (by decide) rfl (by decide) (fun H locs hP hD hS => ?_)
    refine lv_if_eq (tgt := 22) hx hb dMM_put_15 (by decide) (fun c_34 => ?_) (fun c_34 => ?_)
    · have hf := ifT hf c_34
      refine lv_iconst (v := 0) hx hb dMM_put_22 (by decide) ?_
      obtain ⟨v35, ev35, h36, hf⟩ := rd_some hf
      refine ax_iald hx hb hK hP 1 0 rfl rfl h36 ev35 dMM_put_23 ?_
      refine lv_if_le (tgt := 31) hx hb dMM_put_24 (by decide) (fun c_37 => ?_) (fun c_37 => ?_)
      · have hf := ifT hf c_37
        refine lv_iconst (v := 0) hx hb dMM_put_31 (by decide) ?_
        refine lv_istore_n (lv' := [(2, .int 0), (0, .ref q), (1, .int a_0)]) hx hb dMM_put_32 rfl hl (by decide) rfl (fun ls hl => ?_)
        refine lv_aload_n hx hb dMM_put_33 rfl (lv_at hl 1 rfl) ?_
        refine lv_iload_n hx hb dMM_put_34 rfl (lv_at hl 0 rfl) ?_
        refine lv_if_ne (tgt := 42) hx hb dMM_put_35 (by decide) (fun c_38 => ?_) (fun c_38 => ?_)
        · have hf := ifF hf c_38
          refine lv_aload_n hx hb dMM_put_42 rfl (lv_at hl 1 rfl) ?_
          refine va_get (D := (dC, dI)) (ci := 6) (v := .int k_size) (C := RMM) (T := TMM) (N := 18) hx hb hts hi_MM hown hK hP 0 rfl rfl 12 (by decide) (hts _ tw_352) (fun _ h9 => h9) rfl dMM_put_43 ?_
          refine lv_aload_n hx hb dMM_put_46 rfl (lv_at hl 1 rfl) ?_
          refine va_get (D := (dC, dI)) (ci := 6) (v := .ref q_lengths) (C := RMM) (T := TMM) (N := 18) hx hb hts hi_MM hown hK hP 0 rfl rfl 7 (by decide) (hts _ tw_347) (fun _ h9 => h9) rfl dMM_put_47 ?_
          refine lv_iload_n hx hb dMM_put_50 rfl (lv_at hl 2 rfl) ?_
          obtain ⟨v39, ev39, h40, hf⟩ := rd_some hf
          refine ax_iald hx hb hK hP 1 0 rfl rfl h40 ev39 dMM_put_51 ?_
          refine lv_iadd hx hb dMM_put_52 ?_
          refine lv_ldc (v := 65536) hx hb hown (hts _ tw_339) dMM_put_53 ?_
          refine lv_icmp_le (tgt := 62) hx hb dMM_put_55 (by decide) (fun c_41 => ?_) (fun c_41 => ?_)
          · have hf := ifT hf c_41
            refine lv_iconst (v := 0) hx hb dMM_put_62 (by decide) ?_
            refine va_put (D := (dC, dI)) (ci := 6) (v := .int 0) (ty := .int) (C := RMM) (T := TMM) (N := 18) hx hb hts hi_MM tyMM tyMM_ok nmMM hown hK hP hD hS 0 rfl rfl 0 (by decide) (hts _ tw_340) (fun _ h9 => h9) rfl (by decide +kernel) rfl rfl (Nat.le_of_ble_eq_true rfl) dMM_put_63 (fun H locs hP hD hS => ?_)
            have hP : va_P (dC, dI) vwCl (w_MM_put cI cZ cL cB q q_draft q_drafted q_counts q_symbols q_lengths q_codes q_often q_row q_number q_group q_bitsOf q_many 0 k_drafts k_words k_total k_size k_place k_lengths k_codes k_row) H := hP
            have hD : va_D A (w_MM_put cI cZ cL cB q q_draft q_drafted q_counts q_symbols q_lengths q_codes q_often q_row q_number q_group q_bitsOf q_many 0 k_drafts k_words k_total k_size k_place k_lengths k_codes k_row) := hD
            refine lv_aload_n hx hb dMM_put_66 rfl (lv_at hl 1 rfl) ?_
            refine va_get (D := (dC, dI)) (ci := 6) (v := .int 0) (C := RMM) (T := TMM) (N := 18) hx hb hts hi_MM hown hK hP 0 rfl rfl 0 (by decide) (hts _ tw_340) (fun _ h9 => h9) rfl dMM_put_67 ?_
            refine lv_if_le (tgt := 75) hx hb dMM_put_70 (by decide) (fun c_42 => ?_) (fun c_42 => ?_)
            · have hf := ifT hf c_42
              refine lv_aload_n hx hb dMM_put_75 rfl (lv_at hl 1 rfl) ?_
              refine lv_aload_n hx hb dMM_put_76 rfl (lv_at hl 1 rfl) ?_
              refine va_get (D := (dC, dI)) (ci := 6) (v := .ref q_codes) (C := RMM) (T := TMM) (N := 18) hx hb hts hi_MM hown hK hP 0 rfl rfl 8 (by decide) (hts _ tw_348) (fun _ h9 => h9) rfl dMM_put_77 ?_
              refine lv_iload_n hx hb dMM_put_80 rfl (lv_at hl 2 rfl) ?_
              obtain ⟨v43, ev43, h44, hf⟩ := rd_some hf
              refine ax_iald hx hb hK hP 2 0 rfl rfl h44 ev43 dMM_put_81 ?_
              refine lv_aload_n hx hb dMM_put_82 rfl (lv_at hl 1 rfl) ?_
              refine va_get (D := (dC, dI)) (ci := 6) (v := .ref q_lengths) (C := RMM) (T := TMM) (N := 18) hx hb hts hi_MM hown hK hP 0 rfl rfl 7 (by decide) (hts _ tw_347) (fun _ h9 => h9) rfl dMM_put_83 ?_
              refine lv_iload_n hx hb dMM_put_86 rfl (lv_at hl 2 rfl) ?_
              obtain ⟨v45, ev45, h46, hf⟩ := rd_some hf
              refine ax_iald hx hb hK hP 1 0 rfl rfl h46 ev45 dMM_put_87 ?_
              obtain ⟨o47, o48, h49, hf⟩ := bd2_some hf
              have hPc := hP.sub (ws' := (w_MM_lay cI cZ cL cB q q_draft q_drafted q_counts q_symbols q_lengths q_codes q_often q_row q_number q_group q_bitsOf q_many 0 k_drafts k_words k_total k_size k_place k_row)) [0, 3] rfl
              have hDc := hD.sub (ws' := (w_MM_lay cI cZ cL cB q q_draft q_drafted q_counts q_symbols q_lengths q_codes q_often q_row q_number q_group q_bitsOf q_many 0 k_drafts k_words k_total k_size k_place k_row)) [0, 3] (by decide) rfl
              refine ax_callv (wr := [(q_lengths, .inl (cI, 256, .inl k_lengths)), (q_codes, .inl (cI, 256, .inl k_codes))]) (w2 := (w_MM_put cI cZ cL cB q q_draft q_drafted q_counts q_symbols q_lengths q_codes q_often q_row q_number q_group q_bitsOf q_many 0 k_drafts k_words k_total o47 k_place k_lengths k_codes o48)) (va_runV (As := [.int v43, .int v45]) (rest := []) ⟨hx, hb, hml, hown, hts⟩ (cc_MM_lay l dC dI cI cZ cL cB q q_draft q_drafted q_counts q_symbols q_lengths q_codes q_often q_row q_number q_group q_bitsOf q_many H.size 0 k_drafts k_words k_total k_size k_place k_row v43 v45 o47 o48 h49) (cwV 2 hts (tt_V tw_444 tw_445 tw_18 tw_27 tw_446) rfl rfl rfl (by decide +kernel) ⟨Nat.le_of_ble_eq_true rfl, Nat.le_of_ble_eq_true rfl⟩) ⟨kz_fb, va_recv hK hPc (ci := 6) (q0 := 0) rfl rfl, kz_pre hPc hZ hDc⟩ rfl rfl hl.1 rfl (lv_room (Nat.le_of_ble_eq_true rfl)) dMM_put_88 ⟨Nat.zero_le _, Nat.zero_le _⟩) hP hD hS hA [0, 3] [1, 2] [2, 0, 1, 3] rfl rfl (by decide) (by decide) rfl (by decide) (fun H locs hP hD hS => ?_)
              refine lv_aload_n hx hb dMM_put_91 rfl (lv_at hl 1 rfl) ?_
              refine va_get (D := (dC, dI)) (ci := 6) (v := .int o47) (C := RMM) (T := TMM) (N := 18) hx hb hts hi_MM hown hK hP 0 rfl rfl 12 (by decide) (hts _ tw_352) (fun _ h9 => h9) rfl dMM_put_92 ?_
              cases hf
              exact ax_iret hx hb hr hP hD hS dMM_put_95 hlocks
            · have hf := ifF hf c_42
              refine lv_iconst (v := 0) hx hb dMM_put_73 (by decide) ?_
              cases hf
              exact ax_iret hx hb hr hP hD hS dMM_put_74 hlocks
          · have hf := ifF hf c_41
            refine lv_iconst (v := 2) hx hb dMM_put_58 (by decide) ?_
            refine lv_goto (tgt := 63) hx hb dMM_put_59 (by decide) ?_
            refine va_put (D := (dC, dI)) (ci := 6) (v := .int 2) (ty := .int) (C := RMM) (T := TMM) (N := 18) hx hb hts hi_MM tyMM tyMM_ok nmMM hown hK hP hD hS 0 rfl rfl 0 (by decide) (hts _ tw_340) (fun _ h9 => h9) rfl (by decide +kernel) rfl rfl (Nat.le_of_ble_eq_true rfl) dMM_put_63 (fun H locs hP hD hS => ?_)
            have hP : va_P (dC, dI) vwCl (w_MM_put cI cZ cL cB q q_draft q_drafted q_counts q_symbols q_lengths q_codes q_often q_row q_number q_group q_bitsOf q_many 2 k_drafts k_words k_total k_size k_place k_lengths k_codes k_row) H := hP
            have hD : va_D A (w_MM_put cI cZ cL cB q q_draft q_drafted q_counts q_symbols q_lengths q_codes q_often q_row q_number q_group q_bitsOf q_many 2 k_drafts k_words k_total k_size k_place k_lengths k_codes k_row) := hD
            refine lv_aload_n hx hb dMM_put_66 rfl (lv_at hl 1 rfl) ?_
            refine va_get (D := (dC, dI)) (ci := 6) (v := .int 2) (C := RMM) (T := TMM) (N := 18) hx hb hts hi_MM hown hK hP 0 rfl rfl 0 (by decide) (hts _ tw_340) (fun _ h9 => h9) rfl dMM_put_67 ?_
            refine lv_if_le (tgt := 75) hx hb dMM_put_70 (by decide) (fun c_50 => ?_) (fun c_50 => ?_)
            · have hf := ifT hf c_50
              refine lv_aload_n hx hb dMM_put_75 rfl (lv_at hl 1 rfl) ?_
              refine lv_aload_n hx hb dMM_put_76 rfl (lv_at hl 1 rfl) ?_
              refine va_get (D := (dC, dI)) (ci := 6) (v := .ref q_codes) (C := RMM) (T := TMM) (N := 18) hx hb hts hi_MM hown hK hP 0 rfl rfl 8 (by decide) (hts _ tw_348) (fun _ h9 => h9) rfl dMM_put_77 ?_
              refine lv_iload_n hx hb dMM_put_80 rfl (lv_at hl 2 rfl) ?_
              obtain ⟨v51, ev51, h52, hf⟩ := rd_some hf
              refine ax_iald hx hb hK hP 2 0 rfl rfl h52 ev51 dMM_put_81 ?_
              refine lv_aload_n hx hb dMM_put_82 rfl (lv_at hl 1 rfl) ?_
              refine va_get (D := (dC, dI)) (ci := 6) (v := .ref q_lengths) (C := RMM) (T := TMM) (N := 18) hx hb hts hi_MM hown hK hP 0 rfl rfl 7 (by decide) (hts _ tw_347) (fun _ h9 => h9) rfl dMM_put_83 ?_
              refine lv_iload_n hx hb dMM_put_86 rfl (lv_at hl 2 rfl) ?_
              obtain ⟨v53, ev53, h54, hf⟩ := rd_some hf
              refine ax_iald hx hb hK hP 1 0 rfl rfl h54 ev53 dMM_put_87 ?_
              obtain ⟨o55, o56, h57, hf⟩ := bd2_some hf
              have hPc := hP.sub (ws' := (w_MM_lay cI cZ cL cB q q_draft q_drafted q_counts q_symbols q_lengths q_codes q_often q_row q_number q_group q_bitsOf q_many 2 k_drafts k_words k_total k_size k_place k_row)) [0, 3] rfl
              have hDc := hD.sub (ws' := (w_MM_lay cI cZ cL cB q q_draft q_drafted q_counts q_symbols q_lengths q_codes q_often q_row q_number q_group q_bitsOf q_many 2 k_drafts k_words k_total k_size k_place k_row)) [0, 3] (by decide) rfl
              refine ax_callv (wr := [(q_lengths, .inl (cI, 256, .inl k_lengths)), (q_codes, .inl (cI, 256, .inl k_codes))]) (w2 := (w_MM_put cI cZ cL cB q q_draft q_drafted q_counts q_symbols q_lengths q_codes q_often q_row q_number q_group q_bitsOf q_many 2 k_drafts k_words k_total o55 k_place k_lengths k_codes o56)) (va_runV (As := [.int v51, .int v53]) (rest := []) ⟨hx, hb, hml, hown, hts⟩ (cc_MM_lay l dC dI cI cZ cL cB q q_draft q_drafted q_counts q_symbols q_lengths q_codes q_often q_row q_number q_group q_bitsOf q_many H.size 2 k_drafts k_words k_total k_size k_place k_row v51 v53 o55 o56 h57) (cwV 2 hts (tt_V tw_444 tw_445 tw_18 tw_27 tw_446) rfl rfl rfl (by decide +kernel) ⟨Nat.le_of_ble_eq_true rfl, Nat.le_of_ble_eq_true rfl⟩) ⟨kz_fb, va_recv hK hPc (ci := 6) (q0 := 0) rfl rfl, kz_pre hPc hZ hDc⟩ rfl rfl hl.1 rfl (lv_room (Nat.le_of_ble_eq_true rfl)) dMM_put_88 ⟨Nat.zero_le _, Nat.zero_le _⟩) hP hD hS hA [0, 3] [1, 2] [2, 0, 1, 3] rfl rfl (by decide) (by decide) rfl (by decide) (fun H locs hP hD hS => ?_)
              refine lv_aload_n hx hb dMM_put_91 rfl (lv_at hl 1 rfl) ?_
              refine va_get (D := (dC, dI)) (ci := 6) (v := .int o55) (C := RMM) (T := TMM) (N := 18) hx hb hts hi_MM hown hK hP 0 rfl rfl 12 (by decide) (hts _ tw_352) (fun _ h9 => h9) rfl dMM_put_92 ?_
              cases hf
              exact ax_iret hx hb hr hP hD hS dMM_put_95 hlocks
            · have hf := ifF hf c_50
              refine lv_iconst (v := 0) hx hb dMM_put_73 (by decide) ?_
              cases hf
              exact ax_iret hx hb hr hP hD hS dMM_put_74 hlocks
        · have hf := ifT hf c_38
          refine lv_iconst (v := 1) hx hb dMM_put_38 (by decide) ?_
          refine lv_goto (tgt := 63) hx hb dMM_put_39 (by decide) ?_
          refine va_put (D := (dC, dI)) (ci := 6) (v := .int 1) (ty := .int) (C := RMM) (T := TMM) (N := 18) hx hb hts hi_MM tyMM tyMM_ok nmMM hown hK hP hD hS 0 rfl rfl 0 (by decide) (hts _ tw_340) (fun _ h9 => h9) rfl (by decide +kernel) rfl rfl (Nat.le_of_ble_eq_true rfl) dMM_put_63 (fun H locs hP hD hS => ?_)
          have hP : va_P (dC, dI) vwCl (w_MM_put cI cZ cL cB q q_draft q_drafted q_counts q_symbols q_lengths q_codes q_often q_row q_number q_group q_bitsOf q_many 1 k_drafts k_words k_total k_size k_place k_lengths k_codes k_row) H := hP
          have hD : va_D A (w_MM_put cI cZ cL cB q q_draft q_drafted q_counts q_symbols q_lengths q_codes q_often q_row q_number q_group q_bitsOf q_many 1 k_drafts k_words k_total k_size k_place k_lengths k_codes k_row) := hD
          refine lv_aload_n hx hb dMM_put_66 rfl (lv_at hl 1 rfl) ?_
          refine va_get (D := (dC, dI)) (ci := 6) (v := .int 1) (C := RMM) (T := TMM) (N := 18) hx hb hts hi_MM hown hK hP 0 rfl rfl 0 (by decide) (hts _ tw_340) (fun _ h9 => h9) rfl dMM_put_67 ?_
          refine lv_if_le (tgt := 75) hx hb dMM_put_70 (by decide) (fun c_58 => ?_) (fun c_58 => ?_)
          · have hf := ifT hf c_58
            refine lv_aload_n hx hb dMM_put_75 rfl (lv_at hl 1 rfl) ?_
            refine lv_aload_n hx hb dMM_put_76 rfl (lv_at hl 1 rfl) ?_
            refine va_get (D := (dC, dI)) (ci := 6) (v := .ref q_codes) (C := RMM) (T := TMM) (N := 18) hx hb hts hi_MM hown hK hP 0 rfl rfl 8 (by decide) (hts _ tw_348) (fun _ h9 => h9) rfl dMM_put_77 ?_
            refine lv_iload_n hx hb dMM_put_80 rfl (lv_at hl 2 rfl) ?_
            obtain ⟨v59, ev59, h60, hf⟩ := rd_some hf
            refine ax_iald hx hb hK hP 2 0 rfl rfl h60 ev59 dMM_put_81 ?_
            refine lv_aload_n hx hb dMM_put_82 rfl (lv_at hl 1 rfl) ?_
            refine va_get (D := (dC, dI)) (ci := 6) (v := .ref q_lengths) (C := RMM) (T := TMM) (N := 18) hx hb hts hi_MM hown hK hP 0 rfl rfl 7 (by decide) (hts _ tw_347) (fun _ h9 => h9) rfl dMM_put_83 ?_
            refine lv_iload_n hx hb dMM_put_86 rfl (lv_at hl 2 rfl) ?_
            obtain ⟨v61, ev61, h62, hf⟩ := rd_some hf
            refine ax_iald hx hb hK hP 1 0 rfl rfl h62 ev61 dMM_put_87 ?_
            obtain ⟨o63, o64, h65, hf⟩ := bd2_some hf
            have hPc := hP.sub (ws' := (w_MM_lay cI cZ cL cB q q_draft q_drafted q_counts q_symbols q_lengths q_codes q_often q_row q_number q_group q_bitsOf q_many 1 k_drafts k_words k_total k_size k_place k_row)) [0, 3] rfl
            have hDc := hD.sub (ws' := (w_MM_lay cI cZ cL cB q q_draft q_drafted q_counts q_symbols q_lengths q_codes q_often q_row q_number q_group q_bitsOf q_many 1 k_drafts k_words k_total k_size k_place k_row)) [0, 3] (by decide) rfl
            refine ax_callv (wr := [(q_lengths, .inl (cI, 256, .inl k_lengths)), (q_codes, .inl (cI, 256, .inl k_codes))]) (w2 := (w_MM_put cI cZ cL cB q q_draft q_drafted q_counts q_symbols q_lengths q_codes q_often q_row q_number q_group q_bitsOf q_many 1 k_drafts k_words k_total o63 k_place k_lengths k_codes o64)) (va_runV (As := [.int v59, .int v61]) (rest := []) ⟨hx, hb, hml, hown, hts⟩ (cc_MM_lay l dC dI cI cZ cL cB q q_draft q_drafted q_counts q_symbols q_lengths q_codes q_often q_row q_number q_group q_bitsOf q_many H.size 1 k_drafts k_words k_total k_size k_place k_row v59 v61 o63 o64 h65) (cwV 2 hts (tt_V tw_444 tw_445 tw_18 tw_27 tw_446) rfl rfl rfl (by decide +kernel) ⟨Nat.le_of_ble_eq_true rfl, Nat.le_of_ble_eq_true rfl⟩) ⟨kz_fb, va_recv hK hPc (ci := 6) (q0 := 0) rfl rfl, kz_pre hPc hZ hDc⟩ rfl rfl hl.1 rfl (lv_room (Nat.le_of_ble_eq_true rfl)) dMM_put_88 ⟨Nat.zero_le _, Nat.zero_le _⟩) hP hD hS hA [0, 3] [1, 2] [2, 0, 1, 3] rfl rfl (by decide) (by decide) rfl (by decide) (fun H locs hP hD hS => ?_)
            refine lv_aload_n hx hb dMM_put_91 rfl (lv_at hl 1 rfl) ?_
            refine va_get (D := (dC, dI)) (ci := 6) (v := .int o63) (C := RMM) (T := TMM) (N := 18) hx hb hts hi_MM hown hK hP 0 rfl rfl 12 (by decide) (hts _ tw_352) (fun _ h9 => h9) rfl dMM_put_92 ?_
            cases hf
            exact ax_iret hx hb hr hP hD hS dMM_put_95 hlocks
          · have hf := ifF hf c_58
            refine lv_iconst (v := 0) hx hb dMM_put_73 (by decide) ?_
            cases hf
            exact ax_iret hx hb hr hP hD hS dMM_put_74 hlocks
      · have hf := ifF hf c_37
        refine lv_iconst (v := 1) hx hb dMM_put_27 (by decide) ?_
        refine lv_goto (tgt := 32) hx hb dMM_put_28 (by decide) ?_
        refine lv_istore_n (lv' := [(2, .int 1), (0, .ref q), (1, .int a_0)]) hx hb dMM_put_32 rfl hl (by decide) rfl (fun ls hl => ?_)
        refine lv_aload_n hx hb dMM_put_33 rfl (lv_at hl 1 rfl) ?_
        refine lv_iload_n hx hb dMM_put_34 rfl (lv_at hl 0 rfl) ?_
        refine lv_if_ne (tgt := 42) hx hb dMM_put_35 (by decide) (fun c_66 => ?_) (fun c_66 => ?_)
        · have hf := ifF hf c_66
          refine lv_aload_n hx hb dMM_put_42 rfl (lv_at hl 1 rfl) ?_
          refine va_get (D := (dC, dI)) (ci := 6) (v := .int k_size) (C := RMM) (T := TMM) (N := 18) hx hb hts hi_MM hown hK hP 0 rfl rfl 12 (by decide) (hts _ tw_352) (fun _ h9 => h9) rfl dMM_put_43 ?_
          refine lv_aload_n hx hb dMM_put_46 rfl (lv_at hl 1 rfl) ?_
          refine va_get (D := (dC, dI)) (ci := 6) (v := .ref q_lengths) (C := RMM) (T := TMM) (N := 18) hx hb hts hi_MM hown hK hP 0 rfl rfl 7 (by decide) (hts _ tw_347) (fun _ h9 => h9) rfl dMM_put_47 ?_
          refine lv_iload_n hx hb dMM_put_50 rfl (lv_at hl 2 rfl) ?_
          obtain ⟨v67, ev67, h68, hf⟩ := rd_some hf
          refine ax_iald hx hb hK hP 1 0 rfl rfl h68 ev67 dMM_put_51 ?_
          refine lv_iadd hx hb dMM_put_52 ?_
          refine lv_ldc (v := 65536) hx hb hown (hts _ tw_339) dMM_put_53 ?_
          refine lv_icmp_le (tgt := 62) hx hb dMM_put_55 (by decide) (fun c_69 => ?_) (fun c_69 => ?_)
          · have hf := ifT hf c_69
            refine lv_iconst (v := 0) hx hb dMM_put_62 (by decide) ?_
            refine va_put (D := (dC, dI)) (ci := 6) (v := .int 0) (ty := .int) (C := RMM) (T := TMM) (N := 18) hx hb hts hi_MM tyMM tyMM_ok nmMM hown hK hP hD hS 0 rfl rfl 0 (by decide) (hts _ tw_340) (fun _ h9 => h9) rfl (by decide +kernel) rfl rfl (Nat.le_of_ble_eq_true rfl) dMM_put_63 (fun H locs hP hD hS => ?_)
            have hP : va_P (dC, dI) vwCl (w_MM_put cI cZ cL cB q q_draft q_drafted q_counts q_symbols q_lengths q_codes q_often q_row q_number q_group q_bitsOf q_many 0 k_drafts k_words k_total k_size k_place k_lengths k_codes k_row) H := hP
            have hD : va_D A (w_MM_put cI cZ cL cB q q_draft q_drafted q_counts q_symbols q_lengths q_codes q_often q_row q_number q_group q_bitsOf q_many 0 k_drafts k_words k_total k_size k_place k_lengths k_codes k_row) := hD
            refine lv_aload_n hx hb dMM_put_66 rfl (lv_at hl 1 rfl) ?_
            refine va_get (D := (dC, dI)) (ci := 6) (v := .int 0) (C := RMM) (T := TMM) (N := 18) hx hb hts hi_MM hown hK hP 0 rfl rfl 0 (by decide) (hts _ tw_340) (fun _ h9 => h9) rfl dMM_put_67 ?_
            refine lv_if_le (tgt := 75) hx hb dMM_put_70 (by decide) (fun c_70 => ?_) (fun c_70 => ?_)
            · have hf := ifT hf c_70
              refine lv_aload_n hx hb dMM_put_75 rfl (lv_at hl 1 rfl) ?_
              refine lv_aload_n hx hb dMM_put_76 rfl (lv_at hl 1 rfl) ?_
              refine va_get (D := (dC, dI)) (ci := 6) (v := .ref q_codes) (C := RMM) (T := TMM) (N := 18) hx hb hts hi_MM hown hK hP 0 rfl rfl 8 (by decide) (hts _ tw_348) (fun _ h9 => h9) rfl dMM_put_77 ?_
              refine lv_iload_n hx hb dMM_put_80 rfl (lv_at hl 2 rfl) ?_
              obtain ⟨v71, ev71, h72, hf⟩ := rd_some hf
              refine ax_iald hx hb hK hP 2 0 rfl rfl h72 ev71 dMM_put_81 ?_
              refine lv_aload_n hx hb dMM_put_82 rfl (lv_at hl 1 rfl) ?_
              refine va_get (D := (dC, dI)) (ci := 6) (v := .ref q_lengths) (C := RMM) (T := TMM) (N := 18) hx hb hts hi_MM hown hK hP 0 rfl rfl 7 (by decide) (hts _ tw_347) (fun _ h9 => h9) rfl dMM_put_83 ?_
              refine lv_iload_n hx hb dMM_put_86 rfl (lv_at hl 2 rfl) ?_
              obtain ⟨v73, ev73, h74, hf⟩ := rd_some hf
              refine ax_iald hx hb hK hP 1 0 rfl rfl h74 ev73 dMM_put_87 ?_
              obtain ⟨o75, o76, h77, hf⟩ := bd2_some hf
              have hPc := hP.sub (ws' := (w_MM_lay cI cZ cL cB q q_draft q_drafted q_counts q_symbols q_lengths q_codes q_often q_row q_number q_group q_bitsOf q_many 0 k_drafts k_words k_total k_size k_place k_row)) [0, 3] rfl
              have hDc := hD.sub (ws' := (w_MM_lay cI cZ cL cB q q_draft q_drafted q_counts q_symbols q_lengths q_codes q_often q_row q_number q_group q_bitsOf q_many 0 k_drafts k_words k_total k_size k_place k_row)) [0, 3] (by decide) rfl
              refine ax_callv (wr := [(q_lengths, .inl (cI, 256, .inl k_lengths)), (q_codes, .inl (cI, 256, .inl k_codes))]) (w2 := (w_MM_put cI cZ cL cB q q_draft q_drafted q_counts q_symbols q_lengths q_codes q_often q_row q_number q_group q_bitsOf q_many 0 k_drafts k_words k_total o75 k_place k_lengths k_codes o76)) (va_runV (As := [.int v71, .int v73]) (rest := []) ⟨hx, hb, hml, hown, hts⟩ (cc_MM_lay l dC dI cI cZ cL cB q q_draft q_drafted q_counts q_symbols q_lengths q_codes q_often q_row q_number q_group q_bitsOf q_many H.size 0 k_drafts k_words k_total k_size k_place k_row v71 v73 o75 o76 h77) (cwV 2 hts (tt_V tw_444 tw_445 tw_18 tw_27 tw_446) rfl rfl rfl (by decide +kernel) ⟨Nat.le_of_ble_eq_true rfl, Nat.le_of_ble_eq_true rfl⟩) ⟨kz_fb, va_recv hK hPc (ci := 6) (q0 := 0) rfl rfl, kz_pre hPc hZ hDc⟩ rfl rfl hl.1 rfl (lv_room (Nat.le_of_ble_eq_true rfl)) dMM_put_88 ⟨Nat.zero_le _, Nat.zero_le _⟩) hP hD hS hA [0, 3] [1, 2] [2, 0, 1, 3] rfl rfl (by decide) (by decide) rfl (by decide) (fun H locs hP hD hS => ?_)
              refine lv_aload_n hx hb dMM_put_91 rfl (lv_at hl 1 rfl) ?_
              refine va_get (D := (dC, dI)) (ci := 6) (v := .int o75) (C := RMM) (T := TMM) (N := 18) hx hb hts hi_MM hown hK hP 0 rfl rfl 12 (by decide) (hts _ tw_352) (fun _ h9 => h9) rfl dMM_put_92 ?_
              cases hf
              exact ax_iret hx hb hr hP hD hS dMM_put_95 hlocks
            · have hf := ifF hf c_70
              refine lv_iconst (v := 0) hx hb dMM_put_73 (by decide) ?_
              cases hf
              exact ax_iret hx hb hr hP hD hS dMM_put_74 hlocks
          · have hf := ifF hf c_69
            refine lv_iconst (v := 2) hx hb dMM_put_58 (by decide) ?_
            refine lv_goto (tgt := 63) hx hb dMM_put_59 (by decide) ?_
            refine va_put (D := (dC, dI)) (ci := 6) (v := .int 2) (ty := .int) (C := RMM) (T := TMM) (N := 18) hx hb hts hi_MM tyMM tyMM_ok nmMM hown hK hP hD hS 0 rfl rfl 0 (by decide) (hts _ tw_340) (fun _ h9 => h9) rfl (by decide +kernel) rfl rfl (Nat.le_of_ble_eq_true rfl) dMM_put_63 (fun H locs hP hD hS => ?_)
            have hP : va_P (dC, dI) vwCl (w_MM_put cI cZ cL cB q q_draft q_drafted q_counts q_symbols q_lengths q_codes q_often q_row q_number q_group q_bitsOf q_many 2 k_drafts k_words k_total k_size k_place k_lengths k_codes k_row) H := hP
            have hD : va_D A (w_MM_put cI cZ cL cB q q_draft q_drafted q_counts q_symbols q_lengths q_codes q_often q_row q_number q_group q_bitsOf q_many 2 k_drafts k_words k_total k_size k_place k_lengths k_codes k_row) := hD
            refine lv_aload_n hx hb dMM_put_66 rfl (lv_at hl 1 rfl) ?_
            refine va_get (D := (dC, dI)) (ci := 6) (v := .int 2) (C := RMM) (T := TMM) (N := 18) hx hb hts hi_MM hown hK hP 0 rfl rfl 0 (by decide) (hts _ tw_340) (fun _ h9 => h9) rfl dMM_put_67 ?_
            refine lv_if_le (tgt := 75) hx hb dMM_put_70 (by decide) (fun c_78 => ?_) (fun c_78 => ?_)
            · have hf := ifT hf c_78
              refine lv_aload_n hx hb dMM_put_75 rfl (lv_at hl 1 rfl) ?_
              refine lv_aload_n hx hb dMM_put_76 rfl (lv_at hl 1 rfl) ?_
              refine va_get (D := (dC, dI)) (ci := 6) (v := .ref q_codes) (C := RMM) (T := TMM) (N := 18) hx hb hts hi_MM hown hK hP 0 rfl rfl 8 (by decide) (hts _ tw_348) (fun _ h9 => h9) rfl dMM_put_77 ?_
              refine lv_iload_n hx hb dMM_put_80 rfl (lv_at hl 2 rfl) ?_
              obtain ⟨v79, ev79, h80, hf⟩ := rd_some hf
              refine ax_iald hx hb hK hP 2 0 rfl rfl h80 ev79 dMM_put_81 ?_
              refine lv_aload_n hx hb dMM_put_82 rfl (lv_at hl 1 rfl) ?_
              refine va_get (D := (dC, dI)) (ci := 6) (v := .ref q_lengths) (C := RMM) (T := TMM) (N := 18) hx hb hts hi_MM hown hK hP 0 rfl rfl 7 (by decide) (hts _ tw_347) (fun _ h9 => h9) rfl dMM_put_83 ?_
              refine lv_iload_n hx hb dMM_put_86 rfl (lv_at hl 2 rfl) ?_
              obtain ⟨v81, ev81, h82, hf⟩ := rd_some hf
              refine ax_iald hx hb hK hP 1 0 rfl rfl h82 ev81 dMM_put_87 ?_
              obtain ⟨o83, o84, h85, hf⟩ := bd2_some hf
              have hPc := hP.sub (ws' := (w_MM_lay cI cZ cL cB q q_draft q_drafted q_counts q_symbols q_lengths q_codes q_often q_row q_number q_group q_bitsOf q_many 2 k_drafts k_words k_total k_size k_place k_row)) [0, 3] rfl
              have hDc := hD.sub (ws' := (w_MM_lay cI cZ cL cB q q_draft q_drafted q_counts q_symbols q_lengths q_codes q_often q_row q_number q_group q_bitsOf q_many 2 k_drafts k_words k_total k_size k_place k_row)) [0, 3] (by decide) rfl
              refine ax_callv (wr := [(q_lengths, .inl (cI, 256, .inl k_lengths)), (q_codes, .inl (cI, 256, .inl k_codes))]) (w2 := (w_MM_put cI cZ cL cB q q_draft q_drafted q_counts q_symbols q_lengths q_codes q_often q_row q_number q_group q_bitsOf q_many 2 k_drafts k_words k_total o83 k_place k_lengths k_codes o84)) (va_runV (As := [.int v79, .int v81]) (rest := []) ⟨hx, hb, hml, hown, hts⟩ (cc_MM_lay l dC dI cI cZ cL cB q q_draft q_drafted q_counts q_symbols q_lengths q_codes q_often q_row q_number q_group q_bitsOf q_many H.size 2 k_drafts k_words k_total k_size k_place k_row v79 v81 o83 o84 h85) (cwV 2 hts (tt_V tw_444 tw_445 tw_18 tw_27 tw_446) rfl rfl rfl (by decide +kernel) ⟨Nat.le_of_ble_eq_true rfl, Nat.le_of_ble_eq_true rfl⟩) ⟨kz_fb, va_recv hK hPc (ci := 6) (q0 := 0) rfl rfl, kz_pre hPc hZ hDc⟩ rfl rfl hl.1 rfl (lv_room (Nat.le_of_ble_eq_true rfl)) dMM_put_88 ⟨Nat.zero_le _, Nat.zero_le _⟩) hP hD hS hA [0, 3] [1, 2] [2, 0, 1, 3] rfl rfl (by decide) (by decide) rfl (by decide) (fun H locs hP hD hS => ?_)
              refine lv_aload_n hx hb dMM_put_91 rfl (lv_at hl 1 rfl) ?_
              refine va_get (D := (dC, dI)) (ci := 6) (v := .int o83) (C := RMM) (T := TMM) (N := 18) hx hb hts hi_MM hown hK hP 0 rfl rfl 12 (by decide) (hts _ tw_352) (fun _ h9 => h9) rfl dMM_put_92 ?_
              cases hf
              exact ax_iret hx hb hr hP hD hS dMM_put_95 hlocks
            · have hf := ifF hf c_78
              refine lv_iconst (v := 0) hx hb dMM_put_73 (by decide) ?_
              cases hf
              exact ax_iret hx hb hr hP hD hS dMM_put_74 hlocks
        · have hf := ifT hf c_66
          refine lv_iconst (v := 1) hx hb dMM_put_38 (by decide) ?_
          refine lv_goto (tgt := 63) hx hb dMM_put_39 (by decide) ?_
          refine va_put (D := (dC, dI)) (ci := 6) (v := .int 1) (ty := .int) (C := RMM) (T := TMM) (N := 18) hx hb hts hi_MM tyMM tyMM_ok nmMM hown hK hP hD hS 0 rfl rfl 0 (by decide) (hts _ tw_340) (fun _ h9 => h9) rfl (by decide +kernel) rfl rfl (Nat.le_of_ble_eq_true rfl) dMM_put_63 (fun H locs hP hD hS => ?_)
          have hP : va_P (dC, dI) vwCl (w_MM_put cI cZ cL cB q q_draft q_drafted q_counts q_symbols q_lengths q_codes q_often q_row q_number q_group q_bitsOf q_many 1 k_drafts k_words k_total k_size k_place k_lengths k_codes k_row) H := hP
          have hD : va_D A (w_MM_put cI cZ cL cB q q_draft q_drafted q_counts q_symbols q_lengths q_codes q_often q_row q_number q_group q_bitsOf q_many 1 k_drafts k_words k_total k_size k_place k_lengths k_codes k_row) := hD
          refine lv_aload_n hx hb dMM_put_66 rfl (lv_at hl 1 rfl) ?_
          refine va_get (D := (dC, dI)) (ci := 6) (v := .int 1) (C := RMM) (T := TMM) (N := 18) hx hb hts hi_MM hown hK hP 0 rfl rfl 0 (by decide) (hts _ tw_340) (fun _ h9 => h9) rfl dMM_put_67 ?_
          refine lv_if_le (tgt := 75) hx hb dMM_put_70 (by decide) (fun c_86 => ?_) (fun c_86 => ?_)
          · have hf := ifT hf c_86
            refine lv_aload_n hx hb dMM_put_75 rfl (lv_at hl 1 rfl) ?_
            refine lv_aload_n hx hb dMM_put_76 rfl (lv_at hl 1 rfl) ?_
            refine va_get (D := (dC, dI)) (ci := 6) (v := .ref q_codes) (C := RMM) (T := TMM) (N := 18) hx hb hts hi_MM hown hK hP 0 rfl rfl 8 (by decide) (hts _ tw_348) (fun _ h9 => h9) rfl dMM_put_77 ?_
            refine lv_iload_n hx hb dMM_put_80 rfl (lv_at hl 2 rfl) ?_
            obtain ⟨v87, ev87, h88, hf⟩ := rd_some hf
            refine ax_iald hx hb hK hP 2 0 rfl rfl h88 ev87 dMM_put_81 ?_
            refine lv_aload_n hx hb dMM_put_82 rfl (lv_at hl 1 rfl) ?_
            refine va_get (D := (dC, dI)) (ci := 6) (v := .ref q_lengths) (C := RMM) (T := TMM) (N := 18) hx hb hts hi_MM hown hK hP 0 rfl rfl 7 (by decide) (hts _ tw_347) (fun _ h9 => h9) rfl dMM_put_83 ?_
            refine lv_iload_n hx hb dMM_put_86 rfl (lv_at hl 2 rfl) ?_
            obtain ⟨v89, ev89, h90, hf⟩ := rd_some hf
            refine ax_iald hx hb hK hP 1 0 rfl rfl h90 ev89 dMM_put_87 ?_
            obtain ⟨o91, o92, h93, hf⟩ := bd2_some hf
            have hPc := hP.sub (ws' := (w_MM_lay cI cZ cL cB q q_draft q_drafted q_counts q_symbols q_lengths q_codes q_often q_row q_number q_group q_bitsOf q_many 1 k_drafts k_words k_total k_size k_place k_row)) [0, 3] rfl
            have hDc := hD.sub (ws' := (w_MM_lay cI cZ cL cB q q_draft q_drafted q_counts q_symbols q_lengths q_codes q_often q_row q_number q_group q_bitsOf q_many 1 k_drafts k_words k_total k_size k_place k_row)) [0, 3] (by decide) rfl
            refine ax_callv (wr := [(q_lengths, .inl (cI, 256, .inl k_lengths)), (q_codes, .inl (cI, 256, .inl k_codes))]) (w2 := (w_MM_put cI cZ cL cB q q_draft q_drafted q_counts q_symbols q_lengths q_codes q_often q_row q_number q_group q_bitsOf q_many 1 k_drafts k_words k_total o91 k_place k_lengths k_codes o92)) (va_runV (As := [.int v87, .int v89]) (rest := []) ⟨hx, hb, hml, hown, hts⟩ (cc_MM_lay l dC dI cI cZ cL cB q q_draft q_drafted q_counts q_symbols q_lengths q_codes q_often q_row q_number q_group q_bitsOf q_many H.size 1 k_drafts k_words k_total k_size k_place k_row v87 v89 o91 o92 h93) (cwV 2 hts (tt_V tw_444 tw_445 tw_18 tw_27 tw_446) rfl rfl rfl (by decide +kernel) ⟨Nat.le_of_ble_eq_true rfl, Nat.le_of_ble_eq_true rfl⟩) ⟨kz_fb, va_recv hK hPc (ci := 6) (q0 := 0) rfl rfl, kz_pre hPc hZ hDc⟩ rfl rfl hl.1 rfl (lv_room (Nat.le_of_ble_eq_true rfl)) dMM_put_88 ⟨Nat.zero_le _, Nat.zero_le _⟩) hP hD hS hA [0, 3] [1, 2] [2, 0, 1, 3] rfl rfl (by decide) (by decide) rfl (by decide) (fun H locs hP hD hS => ?_)
            refine lv_aload_n hx hb dMM_put_91 rfl (lv_at hl 1 rfl) ?_
            refine va_get (D := (dC, dI)) (ci := 6) (v := .int o91) (C := RMM) (T := TMM) (N := 18) hx hb hts hi_MM hown hK hP 0 rfl rfl 12 (by decide) (hts _ tw_352) (fun _ h9 => h9) rfl dMM_put_92 ?_
            cases hf
            exact ax_iret hx hb hr hP hD hS dMM_put_95 hlocks
          · have hf := ifF hf c_86
            refine lv_iconst (v := 0) hx hb dMM_put_73 (by decide) ?_
            cases hf
            exact ax_iret hx hb hr hP hD hS dMM_put_74 hlocks
    · have hf := ifF hf c_34
      refine lv_iload_n hx hb dMM_put_18 rfl (lv_at hl 1 rfl) ?_
      refine lv_goto (tgt := 23) hx hb dMM_put_19 (by decide) ?_
      obtain ⟨v94, ev94, h95, hf⟩ := rd_some hf
      refine ax_iald hx hb hK hP 1 0 rfl rfl h95 ev94 dMM_put_23 ?_
      refine lv_if_le (tgt := 31) hx hb dMM_put_24 (by decide) (fun c_96 => ?_) (fun c_96 => ?_)
      · have hf := ifT hf c_96
        refine lv_iconst (v := 0) hx hb dMM_put_31 (by decide) ?_
        refine lv_istore_n (lv' := [(2, .int 0), (0, .ref q), (1, .int a_0)]) hx hb dMM_put_32 rfl hl (by decide) rfl (fun ls hl => ?_)
        refine lv_aload_n hx hb dMM_put_33 rfl (lv_at hl 1 rfl) ?_
        refine lv_iload_n hx hb dMM_put_34 rfl (lv_at hl 0 rfl) ?_
        refine lv_if_ne (tgt := 42) hx hb dMM_put_35 (by decide) (fun c_97 => ?_) (fun c_97 => ?_)
        · have hf := ifF hf c_97
          refine lv_aload_n hx hb dMM_put_42 rfl (lv_at hl 1 rfl) ?_
          refine va_get (D := (dC, dI)) (ci := 6) (v := .int k_size) (C := RMM) (T := TMM) (N := 18) hx hb hts hi_MM hown hK hP 0 rfl rfl 12 (by decide) (hts _ tw_352) (fun _ h9 => h9) rfl dMM_put_43 ?_
          refine lv_aload_n hx hb dMM_put_46 rfl (lv_at hl 1 rfl) ?_
          refine va_get (D := (dC, dI)) (ci := 6) (v := .ref q_lengths) (C := RMM) (T := TMM) (N := 18) hx hb hts hi_MM hown hK hP 0 rfl rfl 7 (by decide) (hts _ tw_347) (fun _ h9 => h9) rfl dMM_put_47 ?_
          refine lv_iload_n hx hb dMM_put_50 rfl (lv_at hl 2 rfl) ?_
          obtain ⟨v98, ev98, h99, hf⟩ := rd_some hf
          refine ax_iald hx hb hK hP 1 0 rfl rfl h99 ev98 dMM_put_51 ?_
          refine lv_iadd hx hb dMM_put_52 ?_
          refine lv_ldc (v := 65536) hx hb hown (hts _ tw_339) dMM_put_53 ?_
          refine lv_icmp_le (tgt := 62) hx hb dMM_put_55 (by decide) (fun c_100 => ?_) (fun c_100 => ?_)
          · have hf := ifT hf c_100
            refine lv_iconst (v := 0) hx hb dMM_put_62 (by decide) ?_
            refine va_put (D := (dC, dI)) (ci := 6) (v := .int 0) (ty := .int) (C := RMM) (T := TMM) (N := 18) hx hb hts hi_MM tyMM tyMM_ok nmMM hown hK hP hD hS 0 rfl rfl 0 (by decide) (hts _ tw_340) (fun _ h9 => h9) rfl (by decide +kernel) rfl rfl (Nat.le_of_ble_eq_true rfl) dMM_put_63 (fun H locs hP hD hS => ?_)
            have hP : va_P (dC, dI) vwCl (w_MM_put cI cZ cL cB q q_draft q_drafted q_counts q_symbols q_lengths q_codes q_often q_row q_number q_group q_bitsOf q_many 0 k_drafts k_words k_total k_size k_place k_lengths k_codes k_row) H := hP
            have hD : va_D A (w_MM_put cI cZ cL cB q q_draft q_drafted q_counts q_symbols q_lengths q_codes q_often q_row q_number q_group q_bitsOf q_many 0 k_drafts k_words k_total k_size k_place k_lengths k_codes k_row) := hD
            refine lv_aload_n hx hb dMM_put_66 rfl (lv_at hl 1 rfl) ?_
            refine va_get (D := (dC, dI)) (ci := 6) (v := .int 0) (C := RMM) (T := TMM) (N := 18) hx hb hts hi_MM hown hK hP 0 rfl rfl 0 (by decide) (hts _ tw_340) (fun _ h9 => h9) rfl dMM_put_67 ?_
            refine lv_if_le (tgt := 75) hx hb dMM_put_70 (by decide) (fun c_101 => ?_) (fun c_101 => ?_)
            · have hf := ifT hf c_101
              refine lv_aload_n hx hb dMM_put_75 rfl (lv_at hl 1 rfl) ?_
              refine lv_aload_n hx hb dMM_put_76 rfl (lv_at hl 1 rfl) ?_
              refine va_get (D := (dC, dI)) (ci := 6) (v := .ref q_codes) (C := RMM) (T := TMM) (N := 18) hx hb hts hi_MM hown hK hP 0 rfl rfl 8 (by decide) (hts _ tw_348) (fun _ h9 => h9) rfl dMM_put_77 ?_
              refine lv_iload_n hx hb dMM_put_80 rfl (lv_at hl 2 rfl) ?_
              obtain ⟨v102, ev102, h103, hf⟩ := rd_some hf
              refine ax_iald hx hb hK hP 2 0 rfl rfl h103 ev102 dMM_put_81 ?_
              refine lv_aload_n hx hb dMM_put_82 rfl (lv_at hl 1 rfl) ?_
              refine va_get (D := (dC, dI)) (ci := 6) (v := .ref q_lengths) (C := RMM) (T := TMM) (N := 18) hx hb hts hi_MM hown hK hP 0 rfl rfl 7 (by decide) (hts _ tw_347) (fun _ h9 => h9) rfl dMM_put_83 ?_
              refine lv_iload_n hx hb dMM_put_86 rfl (lv_at hl 2 rfl) ?_
              obtain ⟨v104, ev104, h105, hf⟩ := rd_some hf
              refine ax_iald hx hb hK hP 1 0 rfl rfl h105 ev104 dMM_put_87 ?_
              obtain ⟨o106, o107, h108, hf⟩ := bd2_some hf
              have hPc := hP.sub (ws' := (w_MM_lay cI cZ cL cB q q_draft q_drafted q_counts q_symbols q_lengths q_codes q_often q_row q_number q_group q_bitsOf q_many 0 k_drafts k_words k_total k_size k_place k_row)) [0, 3] rfl
              have hDc := hD.sub (ws' := (w_MM_lay cI cZ cL cB q q_draft q_drafted q_counts q_symbols q_lengths q_codes q_often q_row q_number q_group q_bitsOf q_many 0 k_drafts k_words k_total k_size k_place k_row)) [0, 3] (by decide) rfl
              refine ax_callv (wr := [(q_lengths, .inl (cI, 256, .inl k_lengths)), (q_codes, .inl (cI, 256, .inl k_codes))]) (w2 := (w_MM_put cI cZ cL cB q q_draft q_drafted q_counts q_symbols q_lengths q_codes q_often q_row q_number q_group q_bitsOf q_many 0 k_drafts k_words k_total o106 k_place k_lengths k_codes o107)) (va_runV (As := [.int v102, .int v104]) (rest := []) ⟨hx, hb, hml, hown, hts⟩ (cc_MM_lay l dC dI cI cZ cL cB q q_draft q_drafted q_counts q_symbols q_lengths q_codes q_often q_row q_number q_group q_bitsOf q_many H.size 0 k_drafts k_words k_total k_size k_place k_row v102 v104 o106 o107 h108) (cwV 2 hts (tt_V tw_444 tw_445 tw_18 tw_27 tw_446) rfl rfl rfl (by decide +kernel) ⟨Nat.le_of_ble_eq_true rfl, Nat.le_of_ble_eq_true rfl⟩) ⟨kz_fb, va_recv hK hPc (ci := 6) (q0 := 0) rfl rfl, kz_pre hPc hZ hDc⟩ rfl rfl hl.1 rfl (lv_room (Nat.le_of_ble_eq_true rfl)) dMM_put_88 ⟨Nat.zero_le _, Nat.zero_le _⟩) hP hD hS hA [0, 3] [1, 2] [2, 0, 1, 3] rfl rfl (by decide) (by decide) rfl (by decide) (fun H locs hP hD hS => ?_)
              refine lv_aload_n hx hb dMM_put_91 rfl (lv_at hl 1 rfl) ?_
              refine va_get (D := (dC, dI)) (ci := 6) (v := .int o106) (C := RMM) (T := TMM) (N := 18) hx hb hts hi_MM hown hK hP 0 rfl rfl 12 (by decide) (hts _ tw_352) (fun _ h9 => h9) rfl dMM_put_92 ?_
              cases hf
              exact ax_iret hx hb hr hP hD hS dMM_put_95 hlocks
            · have hf := ifF hf c_101
              refine lv_iconst (v := 0) hx hb dMM_put_73 (by decide) ?_
              cases hf
              exact ax_iret hx hb hr hP hD hS dMM_put_74 hlocks
          · have hf := ifF hf c_100
            refine lv_iconst (v := 2) hx hb dMM_put_58 (by decide) ?_
            refine lv_goto (tgt := 63) hx hb dMM_put_59 (by decide) ?_
            refine va_put (D := (dC, dI)) (ci := 6) (v := .int 2) (ty := .int) (C := RMM) (T := TMM) (N := 18) hx hb hts hi_MM tyMM tyMM_ok nmMM hown hK hP hD hS 0 rfl rfl 0 (by decide) (hts _ tw_340) (fun _ h9 => h9) rfl (by decide +kernel) rfl rfl (Nat.le_of_ble_eq_true rfl) dMM_put_63 (fun H locs hP hD hS => ?_)
            have hP : va_P (dC, dI) vwCl (w_MM_put cI cZ cL cB q q_draft q_drafted q_counts q_symbols q_lengths q_codes q_often q_row q_number q_group q_bitsOf q_many 2 k_drafts k_words k_total k_size k_place k_lengths k_codes k_row) H := hP
            have hD : va_D A (w_MM_put cI cZ cL cB q q_draft q_drafted q_counts q_symbols q_lengths q_codes q_often q_row q_number q_group q_bitsOf q_many 2 k_drafts k_words k_total k_size k_place k_lengths k_codes k_row) := hD
            refine lv_aload_n hx hb dMM_put_66 rfl (lv_at hl 1 rfl) ?_
            refine va_get (D := (dC, dI)) (ci := 6) (v := .int 2) (C := RMM) (T := TMM) (N := 18) hx hb hts hi_MM hown hK hP 0 rfl rfl 0 (by decide) (hts _ tw_340) (fun _ h9 => h9) rfl dMM_put_67 ?_
            refine lv_if_le (tgt := 75) hx hb dMM_put_70 (by decide) (fun c_109 => ?_) (fun c_109 => ?_)
            · have hf := ifT hf c_109
              refine lv_aload_n hx hb dMM_put_75 rfl (lv_at hl 1 rfl) ?_
              refine lv_aload_n hx hb dMM_put_76 rfl (lv_at hl 1 rfl) ?_
              refine va_get (D := (dC, dI)) (ci := 6) (v := .ref q_codes) (C := RMM) (T := TMM) (N := 18) hx hb hts hi_MM hown hK hP 0 rfl rfl 8 (by decide) (hts _ tw_348) (fun _ h9 => h9) rfl dMM_put_77 ?_
              refine lv_iload_n hx hb dMM_put_80 rfl (lv_at hl 2 rfl) ?_
              obtain ⟨v110, ev110, h111, hf⟩ := rd_some hf
              refine ax_iald hx hb hK hP 2 0 rfl rfl h111 ev110 dMM_put_81 ?_
              refine lv_aload_n hx hb dMM_put_82 rfl (lv_at hl 1 rfl) ?_
              refine va_get (D := (dC, dI)) (ci := 6) (v := .ref q_lengths) (C := RMM) (T := TMM) (N := 18) hx hb hts hi_MM hown hK hP 0 rfl rfl 7 (by decide) (hts _ tw_347) (fun _ h9 => h9) rfl dMM_put_83 ?_
              refine lv_iload_n hx hb dMM_put_86 rfl (lv_at hl 2 rfl) ?_
              obtain ⟨v112, ev112, h113, hf⟩ := rd_some hf
              refine ax_iald hx hb hK hP 1 0 rfl rfl h113 ev112 dMM_put_87 ?_
              obtain ⟨o114, o115, h116, hf⟩ := bd2_some hf
              have hPc := hP.sub (ws' := (w_MM_lay cI cZ cL cB q q_draft q_drafted q_counts q_symbols q_lengths q_codes q_often q_row q_number q_group q_bitsOf q_many 2 k_drafts k_words k_total k_size k_place k_row)) [0, 3] rfl
              have hDc := hD.sub (ws' := (w_MM_lay cI cZ cL cB q q_draft q_drafted q_counts q_symbols q_lengths q_codes q_often q_row q_number q_group q_bitsOf q_many 2 k_drafts k_words k_total k_size k_place k_row)) [0, 3] (by decide) rfl
              refine ax_callv (wr := [(q_lengths, .inl (cI, 256, .inl k_lengths)), (q_codes, .inl (cI, 256, .inl k_codes))]) (w2 := (w_MM_put cI cZ cL cB q q_draft q_drafted q_counts q_symbols q_lengths q_codes q_often q_row q_number q_group q_bitsOf q_many 2 k_drafts k_words k_total o114 k_place k_lengths k_codes o115)) (va_runV (As := [.int v110, .int v112]) (rest := []) ⟨hx, hb, hml, hown, hts⟩ (cc_MM_lay l dC dI cI cZ cL cB q q_draft q_drafted q_counts q_symbols q_lengths q_codes q_often q_row q_number q_group q_bitsOf q_many H.size 2 k_drafts k_words k_total k_size k_place k_row v110 v112 o114 o115 h116) (cwV 2 hts (tt_V tw_444 tw_445 tw_18 tw_27 tw_446) rfl rfl rfl (by decide +kernel) ⟨Nat.le_of_ble_eq_true rfl, Nat.le_of_ble_eq_true rfl⟩) ⟨kz_fb, va_recv hK hPc (ci := 6) (q0 := 0) rfl rfl, kz_pre hPc hZ hDc⟩ rfl rfl hl.1 rfl (lv_room (Nat.le_of_ble_eq_true rfl)) dMM_put_88 ⟨Nat.zero_le _, Nat.zero_le _⟩) hP hD hS hA [0, 3] [1, 2] [2, 0, 1, 3] rfl rfl (by decide) (by decide) rfl (by decide) (fun H locs hP hD hS => ?_)
              refine lv_aload_n hx hb dMM_put_91 rfl (lv_at hl 1 rfl) ?_
              refine va_get (D := (dC, dI)) (ci := 6) (v := .int o114) (C := RMM) (T := TMM) (N := 18) hx hb hts hi_MM hown hK hP 0 rfl rfl 12 (by decide) (hts _ tw_352) (fun _ h9 => h9) rfl dMM_put_92 ?_
              cases hf
              exact ax_iret hx hb hr hP hD hS dMM_put_95 hlocks
            · have hf := ifF hf c_109
              refine lv_iconst (v := 0) hx hb dMM_put_73 (by decide) ?_
              cases hf
              exact ax_iret hx hb hr hP hD hS dMM_put_74 hlocks
        · have hf := ifT hf c_97
          refine lv_iconst (v := 1) hx hb dMM_put_38 (by decide) ?_
          refine lv_goto (tgt := 63) hx hb dMM_put_39 (by decide) ?_
          refine va_put (D := (dC, dI)) (ci := 6) (v := .int 1) (ty := .int) (C := RMM) (T := TMM) (N := 18) hx hb hts hi_MM tyMM tyMM_ok nmMM hown hK hP hD hS 0 rfl rfl 0 (by decide) (hts _ tw_340) (fun _ h9 => h9) rfl (by decide +kernel) rfl rfl (Nat.le_of_ble_eq_true rfl) dMM_put_63 (fun H locs hP hD hS => ?_)
          have hP : va_P (dC, dI) vwCl (w_MM_put cI cZ cL cB q q_draft q_drafted q_counts q_symbols q_lengths q_codes q_often q_row q_number q_group q_bitsOf q_many 1 k_drafts k_words k_total k_size k_place k_lengths k_codes k_row) H := hP
          have hD : va_D A (w_MM_put cI cZ cL cB q q_draft q_drafted q_counts q_symbols q_lengths q_codes q_often q_row q_number q_group q_bitsOf q_many 1 k_drafts k_words k_total k_size k_place k_lengths k_codes k_row) := hD
          refine lv_aload_n hx hb dMM_put_66 rfl (lv_at hl 1 rfl) ?_
          refine va_get (D := (dC, dI)) (ci := 6) (v := .int 1) (C := RMM) (T := TMM) (N := 18) hx hb hts hi_MM hown hK hP 0 rfl rfl 0 (by decide) (hts _ tw_340) (fun _ h9 => h9) rfl dMM_put_67 ?_
          refine lv_if_le (tgt := 75) hx hb dMM_put_70 (by decide) (fun c_117 => ?_) (fun c_117 => ?_)
          · have hf := ifT hf c_117
            refine lv_aload_n hx hb dMM_put_75 rfl (lv_at hl 1 rfl) ?_
            refine lv_aload_n hx hb dMM_put_76 rfl (lv_at hl 1 rfl) ?_
            refine va_get (D := (dC, dI)) (ci := 6) (v := .ref q_codes) (C := RMM) (T := TMM) (N := 18) hx hb hts hi_MM hown hK hP 0 rfl rfl 8 (by decide) (hts _ tw_348) (fun _ h9 => h9) rfl dMM_put_77 ?_
            refine lv_iload_n hx hb dMM_put_80 rfl (lv_at hl 2 rfl) ?_
            obtain ⟨v118, ev118, h119, hf⟩ := rd_some hf
            refine ax_iald hx hb hK hP 2 0 rfl rfl h119 ev118 dMM_put_81 ?_
            refine lv_aload_n hx hb dMM_put_82 rfl (lv_at hl 1 rfl) ?_
            refine va_get (D := (dC, dI)) (ci := 6) (v := .ref q_lengths) (C := RMM) (T := TMM) (N := 18) hx hb hts hi_MM hown hK hP 0 rfl rfl 7 (by decide) (hts _ tw_347) (fun _ h9 => h9) rfl dMM_put_83 ?_
            refine lv_iload_n hx hb dMM_put_86 rfl (lv_at hl 2 rfl) ?_
            obtain ⟨v120, ev120, h121, hf⟩ := rd_some hf
            refine ax_iald hx hb hK hP 1 0 rfl rfl h121 ev120 dMM_put_87 ?_
            obtain ⟨o122, o123, h124, hf⟩ := bd2_some hf
            have hPc := hP.sub (ws' := (w_MM_lay cI cZ cL cB q q_draft q_drafted q_counts q_symbols q_lengths q_codes q_often q_row q_number q_group q_bitsOf q_many 1 k_drafts k_words k_total k_size k_place k_row)) [0, 3] rfl
            have hDc := hD.sub (ws' := (w_MM_lay cI cZ cL cB q q_draft q_drafted q_counts q_symbols q_lengths q_codes q_often q_row q_number q_group q_bitsOf q_many 1 k_drafts k_words k_total k_size k_place k_row)) [0, 3] (by decide) rfl
            refine ax_callv (wr := [(q_lengths, .inl (cI, 256, .inl k_lengths)), (q_codes, .inl (cI, 256, .inl k_codes))]) (w2 := (w_MM_put cI cZ cL cB q q_draft q_drafted q_counts q_symbols q_lengths q_codes q_often q_row q_number q_group q_bitsOf q_many 1 k_drafts k_words k_total o122 k_place k_lengths k_codes o123)) (va_runV (As := [.int v118, .int v120]) (rest := []) ⟨hx, hb, hml, hown, hts⟩ (cc_MM_lay l dC dI cI cZ cL cB q q_draft q_drafted q_counts q_symbols q_lengths q_codes q_often q_row q_number q_group q_bitsOf q_many H.size 1 k_drafts k_words k_total k_size k_place k_row v118 v120 o122 o123 h124) (cwV 2 hts (tt_V tw_444 tw_445 tw_18 tw_27 tw_446) rfl rfl rfl (by decide +kernel) ⟨Nat.le_of_ble_eq_true rfl, Nat.le_of_ble_eq_true rfl⟩) ⟨kz_fb, va_recv hK hPc (ci := 6) (q0 := 0) rfl rfl, kz_pre hPc hZ hDc⟩ rfl rfl hl.1 rfl (lv_room (Nat.le_of_ble_eq_true rfl)) dMM_put_88 ⟨Nat.zero_le _, Nat.zero_le _⟩) hP hD hS hA [0, 3] [1, 2] [2, 0, 1, 3] rfl rfl (by decide) (by decide) rfl (by decide) (fun H locs hP hD hS => ?_)
            refine lv_aload_n hx hb dMM_put_91 rfl (lv_at hl 1 rfl) ?_
            refine va_get (D := (dC, dI)) (ci := 6) (v := .int o122) (C := RMM) (T := TMM) (N := 18) hx hb hts hi_MM hown hK hP 0 rfl rfl 12 (by decide) (hts _ tw_352) (fun _ h9 => h9) rfl dMM_put_92 ?_
            cases hf
            exact ax_iret hx hb hr hP hD hS dMM_put_95 hlocks
          · have hf := ifF hf c_117
            refine lv_iconst (v := 0) hx hb dMM_put_73 (by decide) ?_
            cases hf
            exact ax_iret hx hb hr hP hD hS dMM_put_74 hlocks
      · have hf := ifF hf c_96
        refine lv_iconst (v := 1) hx hb dMM_put_27 (by decide) ?_
        refine lv_goto (tgt := 32) hx hb dMM_put_28 (by decide) ?_
        refine lv_istore_n (lv' := [(2, .int 1), (0, .ref q), (1, .int a_0)]) hx hb dMM_put_32 rfl hl (by decide) rfl (fun ls hl => ?_)
        refine lv_aload_n hx hb dMM_put_33 rfl (lv_at hl 1 rfl) ?_
        refine lv_iload_n hx hb dMM_put_34 rfl (lv_at hl 0 rfl) ?_
        refine lv_if_ne (tgt := 42) hx hb dMM_put_35 (by decide) (fun c_125 => ?_) (fun c_125 => ?_)
        · have hf := ifF hf c_125
          refine lv_aload_n hx hb dMM_put_42 rfl (lv_at hl 1 rfl) ?_
          refine va_get (D := (dC, dI)) (ci := 6) (v := .int k_size) (C := RMM) (T := TMM) (N := 18) hx hb hts hi_MM hown hK hP 0 rfl rfl 12 (by decide) (hts _ tw_352) (fun _ h9 => h9) rfl dMM_put_43 ?_
          refine lv_aload_n hx hb dMM_put_46 rfl (lv_at hl 1 rfl) ?_
          refine va_get (D := (dC, dI)) (ci := 6) (v := .ref q_lengths) (C := RMM) (T := TMM) (N := 18) hx hb hts hi_MM hown hK hP 0 rfl rfl 7 (by decide) (hts _ tw_347) (fun _ h9 => h9) rfl dMM_put_47 ?_
          refine lv_iload_n hx hb dMM_put_50 rfl (lv_at hl 2 rfl) ?_
          obtain ⟨v126, ev126, h127, hf⟩ := rd_some hf
          refine ax_iald hx hb hK hP 1 0 rfl rfl h127 ev126 dMM_put_51 ?_
          refine lv_iadd hx hb dMM_put_52 ?_
          refine lv_ldc (v := 65536) hx hb hown (hts _ tw_339) dMM_put_53 ?_
          refine lv_icmp_le (tgt := 62) hx hb dMM_put_55 (by decide) (fun c_128 => ?_) (fun c_128 => ?_)
          · have hf := ifT hf c_128
            refine lv_iconst (v := 0) hx hb dMM_put_62 (by decide) ?_
            refine va_put (D := (dC, dI)) (ci := 6) (v := .int 0) (ty := .int) (C := RMM) (T := TMM) (N := 18) hx hb hts hi_MM tyMM tyMM_ok nmMM hown hK hP hD hS 0 rfl rfl 0 (by decide) (hts _ tw_340) (fun _ h9 => h9) rfl (by decide +kernel) rfl rfl (Nat.le_of_ble_eq_true rfl) dMM_put_63 (fun H locs hP hD hS => ?_)
            have hP : va_P (dC, dI) vwCl (w_MM_put cI cZ cL cB q q_draft q_drafted q_counts q_symbols q_lengths q_codes q_often q_row q_number q_group q_bitsOf q_many 0 k_drafts k_words k_total k_size k_place k_lengths k_codes k_row) H := hP
            have hD : va_D A (w_MM_put cI cZ cL cB q q_draft q_drafted q_counts q_symbols q_lengths q_codes q_often q_row q_number q_group q_bitsOf q_many 0 k_drafts k_words k_total k_size k_place k_lengths k_codes k_row) := hD
            refine lv_aload_n hx hb dMM_put_66 rfl (lv_at hl 1 rfl) ?_
            refine va_get (D := (dC, dI)) (ci := 6) (v := .int 0) (C := RMM) (T := TMM) (N := 18) hx hb hts hi_MM hown hK hP 0 rfl rfl 0 (by decide) (hts _ tw_340) (fun _ h9 => h9) rfl dMM_put_67 ?_
            refine lv_if_le (tgt := 75) hx hb dMM_put_70 (by decide) (fun c_129 => ?_) (fun c_129 => ?_)
            · have hf := ifT hf c_129
              refine lv_aload_n hx hb dMM_put_75 rfl (lv_at hl 1 rfl) ?_
              refine lv_aload_n hx hb dMM_put_76 rfl (lv_at hl 1 rfl) ?_
              refine va_get (D := (dC, dI)) (ci := 6) (v := .ref q_codes) (C := RMM) (T := TMM) (N := 18) hx hb hts hi_MM hown hK hP 0 rfl rfl 8 (by decide) (hts _ tw_348) (fun _ h9 => h9) rfl dMM_put_77 ?_
              refine lv_iload_n hx hb dMM_put_80 rfl (lv_at hl 2 rfl) ?_
              obtain ⟨v130, ev130, h131, hf⟩ := rd_some hf
              refine ax_iald hx hb hK hP 2 0 rfl rfl h131 ev130 dMM_put_81 ?_
              refine lv_aload_n hx hb dMM_put_82 rfl (lv_at hl 1 rfl) ?_
              refine va_get (D := (dC, dI)) (ci := 6) (v := .ref q_lengths) (C := RMM) (T := TMM) (N := 18) hx hb hts hi_MM hown hK hP 0 rfl rfl 7 (by decide) (hts _ tw_347) (fun _ h9 => h9) rfl dMM_put_83 ?_
              refine lv_iload_n hx hb dMM_put_86 rfl (lv_at hl 2 rfl) ?_
              obtain ⟨v132, ev132, h133, hf⟩ := rd_some hf
              refine ax_iald hx hb hK hP 1 0 rfl rfl h133 ev132 dMM_put_87 ?_
              obtain ⟨o134, o135, h136, hf⟩ := bd2_some hf
              have hPc := hP.sub (ws' := (w_MM_lay cI cZ cL cB q q_draft q_drafted q_counts q_symbols q_lengths q_codes q_often q_row q_number q_group q_bitsOf q_many 0 k_drafts k_words k_total k_size k_place k_row)) [0, 3] rfl
              have hDc := hD.sub (ws' := (w_MM_lay cI cZ cL cB q q_draft q_drafted q_counts q_symbols q_lengths q_codes q_often q_row q_number q_group q_bitsOf q_many 0 k_drafts k_words k_total k_size k_place k_row)) [0, 3] (by decide) rfl
              refine ax_callv (wr := [(q_lengths, .inl (cI, 256, .inl k_lengths)), (q_codes, .inl (cI, 256, .inl k_codes))]) (w2 := (w_MM_put cI cZ cL cB q q_draft q_drafted q_counts q_symbols q_lengths q_codes q_often q_row q_number q_group q_bitsOf q_many 0 k_drafts k_words k_total o134 k_place k_lengths k_codes o135)) (va_runV (As := [.int v130, .int v132]) (rest := []) ⟨hx, hb, hml, hown, hts⟩ (cc_MM_lay l dC dI cI cZ cL cB q q_draft q_drafted q_counts q_symbols q_lengths q_codes q_often q_row q_number q_group q_bitsOf q_many H.size 0 k_drafts k_words k_total k_size k_place k_row v130 v132 o134 o135 h136) (cwV 2 hts (tt_V tw_444 tw_445 tw_18 tw_27 tw_446) rfl rfl rfl (by decide +kernel) ⟨Nat.le_of_ble_eq_true rfl, Nat.le_of_ble_eq_true rfl⟩) ⟨kz_fb, va_recv hK hPc (ci := 6) (q0 := 0) rfl rfl, kz_pre hPc hZ hDc⟩ rfl rfl hl.1 rfl (lv_room (Nat.le_of_ble_eq_true rfl)) dMM_put_88 ⟨Nat.zero_le _, Nat.zero_le _⟩) hP hD hS hA [0, 3] [1, 2] [2, 0, 1, 3] rfl rfl (by decide) (by decide) rfl (by decide) (fun H locs hP hD hS => ?_)
              refine lv_aload_n hx hb dMM_put_91 rfl (lv_at hl 1 rfl) ?_
              refine va_get (D := (dC, dI)) (ci := 6) (v := .int o134) (C := RMM) (T := TMM) (N := 18) hx hb hts hi_MM hown hK hP 0 rfl rfl 12 (by decide) (hts _ tw_352) (fun _ h9 => h9) rfl dMM_put_92 ?_
              cases hf
              exact ax_iret hx hb hr hP hD hS dMM_put_95 hlocks
            · have hf := ifF hf c_129
              refine lv_iconst (v := 0) hx hb dMM_put_73 (by decide) ?_
              cases hf
              exact ax_iret hx hb hr hP hD hS dMM_put_74 hlocks
          · have hf := ifF hf c_128
            refine lv_iconst (v := 2) hx hb dMM_put_58 (by decide) ?_
            refine lv_goto (tgt := 63) hx hb dMM_put_59 (by decide) ?_
            refine va_put (D := (dC, dI)) (ci := 6) (v := .int 2) (ty := .int) (C := RMM) (T := TMM) (N := 18) hx hb hts hi_MM tyMM tyMM_ok nmMM hown hK hP hD hS 0 rfl rfl 0 (by decide) (hts _ tw_340) (fun _ h9 => h9) rfl (by decide +kernel) rfl rfl (Nat.le_of_ble_eq_true rfl) dMM_put_63 (fun H locs hP hD hS => ?_)
            have hP : va_P (dC, dI) vwCl (w_MM_put cI cZ cL cB q q_draft q_drafted q_counts q_symbols q_lengths q_codes q_often q_row q_number q_group q_bitsOf q_many 2 k_drafts k_words k_total k_size k_place k_lengths k_codes k_row) H := hP
            have hD : va_D A (w_MM_put cI cZ cL cB q q_draft q_drafted q_counts q_symbols q_lengths q_codes q_often q_row q_number q_group q_bitsOf q_many 2 k_drafts k_words k_total k_size k_place k_lengths k_codes k_row) := hD
            refine lv_aload_n hx hb dMM_put_66 rfl (lv_at hl 1 rfl) ?_
            refine va_get (D := (dC, dI)) (ci := 6) (v := .int 2) (C := RMM) (T := TMM) (N := 18) hx hb hts hi_MM hown hK hP 0 rfl rfl 0 (by decide) (hts _ tw_340) (fun _ h9 => h9) rfl dMM_put_67 ?_
            refine lv_if_le (tgt := 75) hx hb dMM_put_70 (by decide) (fun c_137 => ?_) (fun c_137 => ?_)
            · have hf := ifT hf c_137
              refine lv_aload_n hx hb dMM_put_75 rfl (lv_at hl 1 rfl) ?_
              refine lv_aload_n hx hb dMM_put_76 rfl (lv_at hl 1 rfl) ?_
              refine va_get (D := (dC, dI)) (ci := 6) (v := .ref q_codes) (C := RMM) (T := TMM) (N := 18) hx hb hts hi_MM hown hK hP 0 rfl rfl 8 (by decide) (hts _ tw_348) (fun _ h9 => h9) rfl dMM_put_77 ?_
              refine lv_iload_n hx hb dMM_put_80 rfl (lv_at hl 2 rfl) ?_
              obtain ⟨v138, ev138, h139, hf⟩ := rd_some hf
              refine ax_iald hx hb hK hP 2 0 rfl rfl h139 ev138 dMM_put_81 ?_
              refine lv_aload_n hx hb dMM_put_82 rfl (lv_at hl 1 rfl) ?_
              refine va_get (D := (dC, dI)) (ci := 6) (v := .ref q_lengths) (C := RMM) (T := TMM) (N := 18) hx hb hts hi_MM hown hK hP 0 rfl rfl 7 (by decide) (hts _ tw_347) (fun _ h9 => h9) rfl dMM_put_83 ?_
              refine lv_iload_n hx hb dMM_put_86 rfl (lv_at hl 2 rfl) ?_
              obtain ⟨v140, ev140, h141, hf⟩ := rd_some hf
              refine ax_iald hx hb hK hP 1 0 rfl rfl h141 ev140 dMM_put_87 ?_
              obtain ⟨o142, o143, h144, hf⟩ := bd2_some hf
              have hPc := hP.sub (ws' := (w_MM_lay cI cZ cL cB q q_draft q_drafted q_counts q_symbols q_lengths q_codes q_often q_row q_number q_group q_bitsOf q_many 2 k_drafts k_words k_total k_size k_place k_row)) [0, 3] rfl
              have hDc := hD.sub (ws' := (w_MM_lay cI cZ cL cB q q_draft q_drafted q_counts q_symbols q_lengths q_codes q_often q_row q_number q_group q_bitsOf q_many 2 k_drafts k_words k_total k_size k_place k_row)) [0, 3] (by decide) rfl
              refine ax_callv (wr := [(q_lengths, .inl (cI, 256, .inl k_lengths)), (q_codes, .inl (cI, 256, .inl k_codes))]) (w2 := (w_MM_put cI cZ cL cB q q_draft q_drafted q_counts q_symbols q_lengths q_codes q_often q_row q_number q_group q_bitsOf q_many 2 k_drafts k_words k_total o142 k_place k_lengths k_codes o143)) (va_runV (As := [.int v138, .int v140]) (rest := []) ⟨hx, hb, hml, hown, hts⟩ (cc_MM_lay l dC dI cI cZ cL cB q q_draft q_drafted q_counts q_symbols q_lengths q_codes q_often q_row q_number q_group q_bitsOf q_many H.size 2 k_drafts k_words k_total k_size k_place k_row v138 v140 o142 o143 h144) (cwV 2 hts (tt_V tw_444 tw_445 tw_18 tw_27 tw_446) rfl rfl rfl (by decide +kernel) ⟨Nat.le_of_ble_eq_true rfl, Nat.le_of_ble_eq_true rfl⟩) ⟨kz_fb, va_recv hK hPc (ci := 6) (q0 := 0) rfl rfl, kz_pre hPc hZ hDc⟩ rfl rfl hl.1 rfl (lv_room (Nat.le_of_ble_eq_true rfl)) dMM_put_88 ⟨Nat.zero_le _, Nat.zero_le _⟩) hP hD hS hA [0, 3] [1, 2] [2, 0, 1, 3] rfl rfl (by decide) (by decide) rfl (by decide) (fun H locs hP hD hS => ?_)
              refine lv_aload_n hx hb dMM_put_91 rfl (lv_at hl 1 rfl) ?_
              refine va_get (D := (dC, dI)) (ci := 6) (v := .int o142) (C := RMM) (T := TMM) (N := 18) hx hb hts hi_MM hown hK hP 0 rfl rfl 12 (by decide) (hts _ tw_352) (fun _ h9 => h9) rfl dMM_put_92 ?_
              cases hf
              exact ax_iret hx hb hr hP hD hS dMM_put_95 hlocks
            · have hf := ifF hf c_137
              refine lv_iconst (v := 0) hx hb dMM_put_73 (by decide) ?_
              cases hf
              exact ax_iret hx hb hr hP hD hS dMM_put_74 hlocks
        · have hf := ifT hf c_125
          refine lv_iconst (v := 1) hx hb dMM_put_38 (by decide) ?_
          refine lv_goto (tgt := 63) hx hb dMM_put_39 (by decide) ?_
          refine va_put (D := (dC, dI)) (ci := 6) (v := .int 1) (ty := .int) (C := RMM) (T := TMM) (N := 18) hx hb hts hi_MM tyMM tyMM_ok nmMM hown hK hP hD hS 0 rfl rfl 0 (by decide) (hts _ tw_340) (fun _ h9 => h9) rfl (by decide +kernel) rfl rfl (Nat.le_of_ble_eq_true rfl) dMM_put_63 (fun H locs hP hD hS => ?_)
          have hP : va_P (dC, dI) vwCl (w_MM_put cI cZ cL cB q q_draft q_drafted q_counts q_symbols q_lengths q_codes q_often q_row q_number q_group q_bitsOf q_many 1 k_drafts k_words k_total k_size k_place k_lengths k_codes k_row) H := hP
          have hD : va_D A (w_MM_put cI cZ cL cB q q_draft q_drafted q_counts q_symbols q_lengths q_codes q_often q_row q_number q_group q_bitsOf q_many 1 k_drafts k_words k_total k_size k_place k_lengths k_codes k_row) := hD
          refine lv_aload_n hx hb dMM_put_66 rfl (lv_at hl 1 rfl) ?_
          refine va_get (D := (dC, dI)) (ci := 6) (v := .int 1) (C := RMM) (T := TMM) (N := 18) hx hb hts hi_MM hown hK hP 0 rfl rfl 0 (by decide) (hts _ tw_340) (fun _ h9 => h9) rfl dMM_put_67 ?_
          refine lv_if_le (tgt := 75) hx hb dMM_put_70 (by decide) (fun c_145 => ?_) (fun c_145 => ?_)
          · have hf := ifT hf c_145
            refine lv_aload_n hx hb dMM_put_75 rfl (lv_at hl 1 rfl) ?_
            refine lv_aload_n hx hb dMM_put_76 rfl (lv_at hl 1 rfl) ?_
            refine va_get (D := (dC, dI)) (ci := 6) (v := .ref q_codes) (C := RMM) (T := TMM) (N := 18) hx hb hts hi_MM hown hK hP 0 rfl rfl 8 (by decide) (hts _ tw_348) (fun _ h9 => h9) rfl dMM_put_77 ?_
            refine lv_iload_n hx hb dMM_put_80 rfl (lv_at hl 2 rfl) ?_
            obtain ⟨v146, ev146, h147, hf⟩ := rd_some hf
            refine ax_iald hx hb hK hP 2 0 rfl rfl h147 ev146 dMM_put_81 ?_
            refine lv_aload_n hx hb dMM_put_82 rfl (lv_at hl 1 rfl) ?_
            refine va_get (D := (dC, dI)) (ci := 6) (v := .ref q_lengths) (C := RMM) (T := TMM) (N := 18) hx hb hts hi_MM hown hK hP 0 rfl rfl 7 (by decide) (hts _ tw_347) (fun _ h9 => h9) rfl dMM_put_83 ?_
            refine lv_iload_n hx hb dMM_put_86 rfl (lv_at hl 2 rfl) ?_
            obtain ⟨v148, ev148, h149, hf⟩ := rd_some hf
            refine ax_iald hx hb hK hP 1 0 rfl rfl h149 ev148 dMM_put_87 ?_
            obtain ⟨o150, o151, h152, hf⟩ := bd2_some hf
            have hPc := hP.sub (ws' := (w_MM_lay cI cZ cL cB q q_draft q_drafted q_counts q_symbols q_lengths q_codes q_often q_row q_number q_group q_bitsOf q_many 1 k_drafts k_words k_total k_size k_place k_row)) [0, 3] rfl
            have hDc := hD.sub (ws' := (w_MM_lay cI cZ cL cB q q_draft q_drafted q_counts q_symbols q_lengths q_codes q_often q_row q_number q_group q_bitsOf q_many 1 k_drafts k_words k_total k_size k_place k_row)) [0, 3] (by decide) rfl
            refine ax_callv (wr := [(q_lengths, .inl (cI, 256, .inl k_lengths)), (q_codes, .inl (cI, 256, .inl k_codes))]) (w2 := (w_MM_put cI cZ cL cB q q_draft q_drafted q_counts q_symbols q_lengths q_codes q_often q_row q_number q_group q_bitsOf q_many 1 k_drafts k_words k_total o150 k_place k_lengths k_codes o151)) (va_runV (As := [.int v146, .int v148]) (rest := []) ⟨hx, hb, hml, hown, hts⟩ (cc_MM_lay l dC dI cI cZ cL cB q q_draft q_drafted q_counts q_symbols q_lengths q_codes q_often q_row q_number q_group q_bitsOf q_many H.size 1 k_drafts k_words k_total k_size k_place k_row v146 v148 o150 o151 h152) (cwV 2 hts (tt_V tw_444 tw_445 tw_18 tw_27 tw_446) rfl rfl rfl (by decide +kernel) ⟨Nat.le_of_ble_eq_true rfl, Nat.le_of_ble_eq_true rfl⟩) ⟨kz_fb, va_recv hK hPc (ci := 6) (q0 := 0) rfl rfl, kz_pre hPc hZ hDc⟩ rfl rfl hl.1 rfl (lv_room (Nat.le_of_ble_eq_true rfl)) dMM_put_88 ⟨Nat.zero_le _, Nat.zero_le _⟩) hP hD hS hA [0, 3] [1, 2] [2, 0, 1, 3] rfl rfl (by decide) (by decide) rfl (by decide) (fun H locs hP hD hS => ?_)
            refine lv_aload_n hx hb dMM_put_91 rfl (lv_at hl 1 rfl) ?_
            refine va_get (D := (dC, dI)) (ci := 6) (v := .int o150) (C := RMM) (T := TMM) (N := 18) hx hb hts hi_MM hown hK hP 0 rfl rfl 12 (by decide) (hts _ tw_352) (fun _ h9 => h9) rfl dMM_put_92 ?_
            cases hf
            exact ax_iret hx hb hr hP hD hS dMM_put_95 hlocks
          · have hf := ifF hf c_145
            refine lv_iconst (v := 0) hx hb dMM_put_73 (by decide) ?_
            cases hf
            exact ax_iret hx hb hr hP hD hS dMM_put_74 hlocks
