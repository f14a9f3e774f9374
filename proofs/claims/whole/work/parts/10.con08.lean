abbrev wsMM_comes : List Cond := Cond.code yMM_comes cMM_comes 3 (some .int) :: tt
set_option maxHeartbeats 4000000 in
set_option maxRecDepth 100000 in
theorem cc_MM_comes (l : Launch) (dC : Nat → ClassId) (dI : Nat → Nat → Nat) (cI cZ cL cB : ClassId) (q q_draft q_drafted q_counts q_symbols q_lengths q_codes q_often q_row q_number q_group q_bitsOf q_many : Nat) (sz : Nat) (k_thrown : Int32) (k_drafts : Int32) (k_words : Int32) (k_total : Int32) (k_size : Int32) (k_place : Int32) (k_often : Nat → Int32) (a_0 : Int32) (a_1 : Int32) (r : Int32) (o_thrown : Int32) (o_total : Int32) (o_often : Nat → Int32) (hf : f_MM_comes k_thrown k_drafts k_words k_total k_size k_place k_often a_0 a_1 = some (r, o_thrown, o_total, o_often)) : Met l yMM_comes wsMM_comes ({ frames := 1, cells := 0, slots := 0, locals := 20 }) (va_Pc [.ref q, .int a_0, .int a_1] (kz_P dC dI cI cZ cL cB sz (w_MM_comes cI cZ cL cB q q_draft q_drafted q_counts q_symbols q_lengths q_codes q_often q_row q_number q_group q_bitsOf q_many k_thrown k_drafts k_words k_total k_size k_place k_often))) (va_Qi (fun (r' : Int32) (_ : Unit) => r' = r) (fun _ t => va_P (dC, dI) vwCl (w_MM_comes cI cZ cL cB q q_draft q_drafted q_counts q_symbols q_lengths q_codes q_often q_row q_number q_group q_bitsOf q_many o_thrown k_drafts k_words o_total k_size k_place o_often) t.heap ∧ va_D (va_A (w_MM_comes cI cZ cL cB q q_draft q_drafted q_counts q_symbols q_lengths q_codes q_often q_row q_number q_group q_bitsOf q_many k_thrown k_drafts k_words k_total k_size k_place k_often) sz) (w_MM_comes cI cZ cL cB q q_draft q_drafted q_counts q_symbols q_lengths q_codes q_often q_row q_number q_group q_bitsOf q_many o_thrown k_drafts k_words o_total k_size k_place o_often)) (va_A (w_MM_comes cI cZ cL cB q q_draft q_drafted q_counts q_symbols q_lengths q_codes q_often q_row q_number q_group q_bitsOf q_many k_thrown k_drafts k_words k_total k_size k_place k_often) sz)) 0 0 (va_A (w_MM_comes cI cZ cL cB q q_draft q_drafted q_counts q_symbols q_lengths q_codes q_often q_row q_number q_group q_bitsOf q_many k_thrown k_drafts k_words k_total k_size k_place k_often) sz) := by
  refine Met.ofW (cc := cMM_comes) (maxL := 3) (ret := (some .int)) (by decide) rfl ?_
  intro p e s m args below meth c s₁ B hml hv
  obtain ⟨rfl, hsz, hP, hZ, hD0⟩ := hv
  have hK := hZ.1
  have hx := B.exec
  have hb := B.bytes
  have hr := B.returns
  have hts : ∀ w ∈ tt, w.before _ s = true := fun w h => atoms_spec (ws := wsMM_comes) B.pre w (List.mem_cons_of_mem _ h)
  have hown : s.vm.findClass RMM = some m.cls := findClass_of_methodNamed B.named
  have hlocks := B.notSynchronized
  subst hsz
  have hD := hD0.self (sz := s.heap.size)
  generalize hAe : va_A (w_MM_comes cI cZ cL cB q q_draft q_drafted q_counts q_symbols q_lengths q_codes q_often q_row q_number q_group q_bitsOf q_many k_thrown k_drafts k_words k_total k_size k_place k_often) s.heap.size = A at hD ⊢
  have hA : ∀ q : Nat, s.heap.size ≤ q → A q := fun q h => by rw [← hAe]; exact Or.inr h
  have hS : va_S A s.heap s.heap [] := va_S.rf
  have hl := lv_entry [.ref q, .int a_0, .int a_1] (n := 3) (Nat.le_of_ble_eq_true rfl)
  rw [lg_entry_eq]
  generalize (lg_sl [.ref q, .int a_0, .int a_1] ++ List.replicate (3 - (lg_sl [.ref q, .int a_0, .int a_1]).length) Slot.unset).toArray = ls at hl ⊢
  have hl : lv_has ls 3 [(0, .ref q), (1, .int a_0), (2, .int a_1)] := hl
  unfold f_MM_comes at hf
  refine lv_aload_n hx hb dMM_comes_0 rfl (lv_at hl 0 rfl) ?_
  refine lv_iload_n hx hb dMM_comes_1 rfl (lv_at hl 1 rfl) ?_
  obtain ⟨r1, h2, hf⟩ := bd1_some hf
  have hPc := hP.sub (ws' := (w_MM_isSymbol cI cZ cL cB )) [] rfl
  have hDc := hD.sub (ws' := (w_MM_isSymbol cI cZ cL cB )) [] (by decide) rfl
  refine ax_calli (wr := [(q, .inr (6, [.int k_thrown, .ref q_draft, .ref q_drafted, .int k_drafts, .ref q_counts, .ref q_symbols, .int k_words, .ref q_lengths, .ref q_codes, .ref q_often, .int k_total, .ref q_row, .int k_size, .int k_place, .ref q_number, .ref q_group, .ref q_bitsOf, .ref q_many])), (q_often, .inl (cI, 256, .inl k_often))]) (w2 := (w_MM_comes cI cZ cL cB q q_draft q_drafted q_counts q_symbols q_lengths q_codes q_often q_row q_number q_group q_bitsOf q_many k_thrown k_drafts k_words k_total k_size k_place k_often)) (va_runS (As := [.int a_0]) (rest := [.ref q]) ⟨hx, hb, hml, hown, hts⟩ (cc_MM_isSymbol l dC dI cI cZ cL cB  s.heap.size a_0 r1 h2) (va_cwS 1 hts (tt_S tw_388 tw_389 tw_27 tw_390) rfl rfl rfl (by decide +kernel) ⟨Nat.le_of_ble_eq_true rfl, Nat.le_of_ble_eq_true rfl⟩) ⟨kz_fb, kz_pre hPc hZ hDc⟩ rfl rfl hl.1 rfl (lv_room (Nat.le_of_ble_eq_true rfl)) dMM_comes_2 ⟨Nat.zero_le _, Nat.zero_le _⟩) hP hD hS hA [] [0, 1] [0, 1] rfl rfl (by decide) (by decide) rfl (by decide) (fun H locs hP hD hS => ?_)
  refine lv_if_eq (tgt := 12) hx hb dMM_comes_5 (by decide) (fun c_3 => ?_) (fun c_3 => ?_)
  · have hf := ifT hf c_3
    refine lv_iconst (v := 1) hx hb dMM_comes_12 (by decide) ?_
    refine lv_goto (tgt := 32) hx hb dMM_comes_13 (by decide) ?_
    refine va_put (D := (dC, dI)) (ci := 6) (v := .int 1) (ty := .int) (C := RMM) (T := TMM) (N := 18) hx hb hts hi_MM tyMM tyMM_ok nmMM hown hK hP hD hS 0 rfl rfl 0 (by decide) (hts _ tw_340) (fun _ h9 => h9) rfl (by decide +kernel) rfl rfl (Nat.le_of_ble_eq_true rfl) dMM_comes_32 (fun H locs hP hD hS => ?_)
    have hP : va_P (dC, dI) vwCl (w_MM_comes cI cZ cL cB q q_draft q_drafted q_counts q_symbols q_lengths q_codes q_often q_row q_number q_group q_bitsOf q_many 1 k_drafts k_words k_total k_size k_place k_often) H := hP
    have hD : va_D A (w_MM_comes cI cZ cL cB q q_draft q_drafted q_counts q_symbols q_lengths q_codes q_often q_row q_number q_group q_bitsOf q_many 1 k_drafts k_words k_total k_size k_place k_often) := hD
    refine lv_aload_n hx hb dMM_comes_35 rfl (lv_at hl 0 rfl) ?_
    refine va_get (D := (dC, dI)) (ci := 6) (v := .int 1) (C := RMM) (T := TMM) (N := 18) hx hb hts hi_MM hown hK hP 0 rfl rfl 0 (by decide) (hts _ tw_340) (fun _ h9 => h9) rfl dMM_comes_36 ?_
    refine lv_if_le (tgt := 44) hx hb dMM_comes_39 (by decide) (fun c_4 => ?_) (fun c_4 => ?_)
    · have hf := ifT hf c_4
      refine lv_aload_n hx hb dMM_comes_44 rfl (lv_at hl 0 rfl) ?_
      refine va_get (D := (dC, dI)) (ci := 6) (v := .ref q_often) (C := RMM) (T := TMM) (N := 18) hx hb hts hi_MM hown hK hP 0 rfl rfl 9 (by decide) (hts _ tw_349) (fun _ h9 => h9) rfl dMM_comes_45 ?_
      refine lv_iload_n hx hb dMM_comes_48 rfl (lv_at hl 1 rfl) ?_
      refine lv_dup2_11 hx hb dMM_comes_49 rfl rfl ?_
      obtain ⟨v5, ev5, h6, hf⟩ := rd_some hf
      refine ax_iald hx hb hK hP 1 0 rfl rfl h6 ev5 dMM_comes_50 ?_
      refine lv_iload_n hx hb dMM_comes_51 rfl (lv_at hl 2 rfl) ?_
      refine lv_iadd hx hb dMM_comes_52 ?_
      obtain ⟨g7, eg7, h8, hf⟩ := wr_some hf
      refine ax_iast hx hb hK hP hD hS 1 0 rfl rfl h8 eg7 dMM_comes_53 (ws' := (w_MM_comes cI cZ cL cB q q_draft q_drafted q_counts q_symbols q_lengths q_codes q_often q_row q_number q_group q_bitsOf q_many 1 k_drafts k_words k_total k_size k_place g7)) rfl (fun H locs hP hD hS => ?_)
      refine lv_aload_n hx hb dMM_comes_54 rfl (lv_at hl 0 rfl) ?_
      refine lv_dup hx hb dMM_comes_55 rfl ?_
      refine va_get (D := (dC, dI)) (ci := 6) (v := .int k_total) (C := RMM) (T := TMM) (N := 18) hx hb hts hi_MM hown hK hP 0 rfl rfl 10 (by decide) (hts _ tw_350) (fun _ h9 => h9) rfl dMM_comes_56 ?_
      refine lv_iload_n hx hb dMM_comes_59 rfl (lv_at hl 2 rfl) ?_
      refine lv_iadd hx hb dMM_comes_60 ?_
      refine va_put (D := (dC, dI)) (ci := 6) (v := .int (k_total + a_1)) (ty := .int) (C := RMM) (T := TMM) (N := 18) hx hb hts hi_MM tyMM tyMM_ok nmMM hown hK hP hD hS 0 rfl rfl 10 (by decide) (hts _ tw_350) (fun _ h9 => h9) rfl (by decide +kernel) rfl rfl (Nat.le_of_ble_eq_true rfl) dMM_comes_61 (fun H locs hP hD hS => ?_)
      have hP : va_P (dC, dI) vwCl (w_MM_comes cI cZ cL cB q q_draft q_drafted q_counts q_symbols q_lengths q_codes q_often q_row q_number q_group q_bitsOf q_many 1 k_drafts k_words (k_total + a_1) k_size k_place g7) H := hP
      have hD : va_D A (w_MM_comes cI cZ cL cB q q_draft q_drafted q_counts q_symbols q_lengths q_codes q_often q_row q_number q_group q_bitsOf q_many 1 k_drafts k_words (k_total + a_1) k_size k_place g7) := hD
      refine lv_aload_n hx hb dMM_comes_64 rfl (lv_at hl 0 rfl) ?_
      refine va_get (D := (dC, dI)) (ci := 6) (v := .ref q_often) (C := RMM) (T := TMM) (N := 18) hx hb hts hi_MM hown hK hP 0 rfl rfl 9 (by decide) (hts _ tw_349) (fun _ h9 => h9) rfl dMM_comes_65 ?_
      refine lv_iload_n hx hb dMM_comes_68 rfl (lv_at hl 1 rfl) ?_
      obtain ⟨v9, ev9, h10, hf⟩ := rd_some hf
      refine ax_iald hx hb hK hP 1 0 rfl rfl h10 ev9 dMM_comes_69 ?_
      cases hf
      exact ax_iret hx hb hr hP hD hS dMM_comes_70 hlocks
    · have hf := ifF hf c_4
      refine lv_iconst (v := 0) hx hb dMM_comes_42 (by decide) ?_
      cases hf
      exact ax_iret hx hb hr hP hD hS dMM_comes_43 hlocks
  · have hf := ifF hf c_3
    refine lv_iload_n hx hb dMM_comes_8 rfl (lv_at hl 2 rfl) ?_
    refine lv_if_ge (tgt := 16) hx hb dMM_comes_9 (by decide) (fun c_11 => ?_) (fun c_11 => ?_)
    · have hf := ifT hf c_11
      refine lv_iload_n hx hb dMM_comes_16 rfl (lv_at hl 2 rfl) ?_
      refine lv_ldc (v := 1000000) hx hb hown (hts _ tw_410) dMM_comes_17 ?_
      refine lv_aload_n hx hb dMM_comes_19 rfl (lv_at hl 0 rfl) ?_
      refine va_get (D := (dC, dI)) (ci := 6) (v := .int k_total) (C := RMM) (T := TMM) (N := 18) hx hb hts hi_MM hown hK hP 0 rfl rfl 10 (by decide) (hts _ tw_350) (fun _ h9 => h9) rfl dMM_comes_20 ?_
      refine lv_isub hx hb dMM_comes_23 ?_
      refine lv_icmp_le (tgt := 31) hx hb dMM_comes_24 (by decide) (fun c_12 => ?_) (fun c_12 => ?_)
      · have hf := ifT hf c_12
        refine lv_iconst (v := 0) hx hb dMM_comes_31 (by decide) ?_
        refine va_put (D := (dC, dI)) (ci := 6) (v := .int 0) (ty := .int) (C := RMM) (T := TMM) (N := 18) hx hb hts hi_MM tyMM tyMM_ok nmMM hown hK hP hD hS 0 rfl rfl 0 (by decide) (hts _ tw_340) (fun _ h9 => h9) rfl (by decide +kernel) rfl rfl (Nat.le_of_ble_eq_true rfl) dMM_comes_32 (fun H locs hP hD hS => ?_)
        have hP : va_P (dC, dI) vwCl (w_MM_comes cI cZ cL cB q q_draft q_drafted q_counts q_symbols q_lengths q_codes q_often q_row q_number q_group q_bitsOf q_many 0 k_drafts k_words k_total k_size k_place k_often) H := hP
        have hD : va_D A (w_MM_comes cI cZ cL cB q q_draft q_drafted q_counts q_symbols q_lengths q_codes q_often q_row q_number q_group q_bitsOf q_many 0 k_drafts k_words k_total k_size k_place k_often) := hD
        refine lv_aload_n hx hb dMM_comes_35 rfl (lv_at hl 0 rfl) ?_
        refine va_get (D := (dC, dI)) (ci := 6) (v := .int 0) (C := RMM) (T := TMM) (N := 18) hx hb hts hi_MM hown hK hP 0 rfl rfl 0 (by decide) (hts _ tw_340) (fun _ h9 => h9) rfl dMM_comes_36 ?_
        refine lv_if_le (tgt := 44) hx hb dMM_comes_39 (by decide) (fun c_13 => ?_) (fun c_13 => ?_)
        · have hf := ifT hf c_13
          refine lv_aload_n hx hb dMM_comes_44 rfl (lv_at hl 0 rfl) ?_
          refine va_get (D := (dC, dI)) (ci := 6) (v := .ref q_often) (C := RMM) (T := TMM) (N := 18) hx hb hts hi_MM hown hK hP 0 rfl rfl 9 (by decide) (hts _ tw_349) (fun _ h9 => h9) rfl dMM_comes_45 ?_
          refine lv_iload_n hx hb dMM_comes_48 rfl (lv_at hl 1 rfl) ?_
          refine lv_dup2_11 hx hb dMM_comes_49 rfl rfl ?_
          obtain ⟨v14, ev14, h15, hf⟩ := rd_some hf
          refine ax_iald hx hb hK hP 1 0 rfl rfl h15 ev14 dMM_comes_50 ?_
          refine lv_iload_n hx hb dMM_comes_51 rfl (lv_at hl 2 rfl) ?_
          refine lv_iadd hx hb dMM_comes_52 ?_
          obtain ⟨g16, eg16, h17, hf⟩ := wr_some hf
          refine ax_iast hx hb hK hP hD hS 1 0 rfl rfl h17 eg16 dMM_comes_53 (ws' := (w_MM_comes cI cZ cL cB q q_draft q_drafted q_counts q_symbols q_lengths q_codes q_often q_row q_number q_group q_bitsOf q_many 0 k_drafts k_words k_total k_size k_place g16)) rfl (fun H locs hP hD hS => ?_)
          refine lv_aload_n hx hb dMM_comes_54 rfl (lv_at hl 0 rfl) ?_
          refine lv_dup hx hb dMM_comes_55 rfl ?_
          refine va_get (D := (dC, dI)) (ci := 6) (v := .int k_total) (C := RMM) (T := TMM) (N := 18) hx hb hts hi_MM hown hK hP 0 rfl rfl 10 (by decide) (hts _ tw_350) (fun _ h9 => h9) rfl dMM_comes_56 ?_
          refine lv_iload_n hx hb dMM_comes_59 rfl (lv_at hl 2 rfl) ?_
          refine lv_iadd hx hb dMM_comes_60 ?_
          refine va_put (D := (dC, dI)) (ci := 6) (v := .int (k_total + a_1)) (ty := .int) (C := RMM) (T := TMM) (N := 18) hx hb hts hi_MM tyMM tyMM_ok nmMM hown hK hP hD hS 0 rfl rfl 10 (by decide) (hts _ tw_350) (fun _ h9 => h9) rfl (by decide +kernel) rfl rfl (Nat.le_of_ble_eq_true rfl) dMM_comes_61 (fun H locs hP hD hS => ?_)
          have hP : va_P (dC, dI) vwCl (w_MM_comes cI cZ cL cB q q_draft q_drafted q_counts q_symbols q_lengths q_codes q_often q_row q_number q_group q_bitsOf q_many 0 k_drafts k_words (k_total + a_1) k_size k_place g16) H := hP
          have hD : va_D A (w_MM_comes cI cZ cL cB q q_draft q_drafted q_counts q_symbols q_lengths q_codes q_often q_row q_number q_group q_bitsOf q_many 0 k_drafts k_words (k_total + a_1) k_size k_place g16) := hD
          refine lv_aload_n hx hb dMM_comes_64 rfl (lv_at hl 0 rfl) ?_
          refine va_get (D := (dC, dI)) (ci := 6) (v := .ref q_often) (C := RMM) (T := TMM) (N := 18) hx hb hts hi_MM hown hK hP 0 rfl rfl 9 (by decide) (hts _ tw_349) (fun _ h9 => h9) rfl dMM_comes_65 ?_
          refine lv_iload_n hx hb dMM_comes_68 rfl (lv_at hl 1 rfl) ?_
          obtain ⟨v18, ev18, h19, hf⟩ := rd_some hf
          refine ax_iald hx hb hK hP 1 0 rfl rfl h19 ev18 dMM_comes_69 ?_
          cases hf
          exact ax_iret hx hb hr hP hD hS dMM_comes_70 hlocks
        · have hf := ifF hf c_13
          refine lv_iconst (v := 0) hx hb dMM_comes_42 (by decide) ?_
          cases hf
          exact ax_iret hx hb hr hP hD hS dMM_comes_43 hlocks
      · have hf := ifF hf c_12
        refine lv_iconst (v := 2) hx hb dMM_comes_27 (by decide) ?_
        refine lv_goto (tgt := 32) hx hb dMM_comes_28 (by decide) ?_
        refine va_put (D := (dC, dI)) (ci := 6) (v := .int 2) (ty := .int) (C := RMM) (T := TMM) (N := 18) hx hb hts hi_MM tyMM tyMM_ok nmMM hown hK hP hD hS 0 rfl rfl 0 (by decide) (hts _ tw_340) (fun _ h9 => h9) rfl (by decide +kernel) rfl rfl (Nat.le_of_ble_eq_true rfl) dMM_comes_32 (fun H locs hP hD hS => ?_)
        have hP : va_P (dC, dI) vwCl (w_MM_comes cI cZ cL cB q q_draft q_drafted q_counts q_symbols q_lengths q_codes q_often q_row q_number q_group q_bitsOf q_many 2 k_drafts k_words k_total k_size k_place k_often) H := hP
        have hD : va_D A (w_MM_comes cI cZ cL cB q q_draft q_drafted q_counts q_symbols q_lengths q_codes q_often q_row q_number q_group q_bitsOf q_many 2 k_drafts k_words k_total k_size k_place k_often) := hD
        refine lv_aload_n hx hb dMM_comes_35 rfl (lv_at hl 0 rfl) ?_
        refine va_get (D := (dC, dI)) (ci := 6) (v := .int 2) (C := RMM) (T := TMM) (N := 18) hx hb hts hi_MM hown hK hP 0 rfl rfl 0 (by decide) (hts _ tw_340) (fun _ h9 => h9) rfl dMM_comes_36 ?_
        refine lv_if_le (tgt := 44) hx hb dMM_comes_39 (by decide) (fun c_20 => ?_) (fun c_20 => ?_)
        · have hf := ifT hf c_20
          refine lv_aload_n hx hb dMM_comes_44 rfl (lv_at hl 0 rfl) ?_
          refine va_get (D := (dC, dI)) (ci := 6) (v := .ref q_often) (C := RMM) (T := TMM) (N := 18) hx hb hts hi_MM hown hK hP 0 rfl rfl 9 (by decide) (hts _ tw_349) (fun _ h9 => h9) rfl dMM_comes_45 ?_
          refine lv_iload_n hx hb dMM_comes_48 rfl (lv_at hl 1 rfl) ?_
          refine lv_dup2_11 hx hb dMM_comes_49 rfl rfl ?_
          obtain ⟨v21, ev21, h22, hf⟩ := rd_some hf
          refine ax_iald hx hb hK hP 1 0 rfl rfl h22 ev21 dMM_comes_50 ?_
          refine lv_iload_n hx hb dMM_comes_51 rfl (lv_at hl 2 rfl) ?_
          refine lv_iadd hx hb dMM_comes_52 ?_
          obtain ⟨g23, eg23, h24, hf⟩ := wr_some hf
          refine ax_iast hx hb hK hP hD hS 1 0 rfl rfl h24 eg23 dMM_comes_53 (ws' := (w_MM_comes cI cZ cL cB q q_draft q_drafted q_counts q_symbols q_lengths q_codes q_often q_row q_number q_group q_bitsOf q_many 2 k_drafts k_words k_total k_size k_place g23)) rfl (fun H locs hP hD hS => ?_)
          refine lv_aload_n hx hb dMM_comes_54 rfl (lv_at hl 0 rfl) ?_
          refine lv_dup hx hb dMM_comes_55 rfl ?_
          refine va_get (D := (dC, dI)) (ci := 6) (v := .int k_total) (C := RMM) (T := TMM) (N := 18) hx hb hts hi_MM hown hK hP 0 rfl rfl 10 (by decide) (hts _ tw_350) (fun _ h9 => h9) rfl dMM_comes_56 ?_
          refine lv_iload_n hx hb dMM_comes_59 rfl (lv_at hl 2 rfl) ?_
          refine lv_iadd hx hb dMM_comes_60 ?_
          refine va_put (D := (dC, dI)) (ci := 6) (v := .int (k_total + a_1)) (ty := .int) (C := RMM) (T := TMM) (N := 18) hx hb hts hi_MM tyMM tyMM_ok nmMM hown hK hP hD hS 0 rfl rfl 10 (by decide) (hts _ tw_350) (fun _ h9 => h9) rfl (by decide +kernel) rfl rfl (Nat.le_of_ble_eq_true rfl) dMM_comes_61 (fun H locs hP hD hS => ?_)
          have hP : va_P (dC, dI) vwCl (w_MM_comes cI cZ cL cB q q_draft q_drafted q_counts q_symbols q_lengths q_codes q_often q_row q_number q_group q_bitsOf q_many 2 k_drafts k_words (k_total + a_1) k_size k_place g23) H := hP
          have hD : va_D A (w_MM_comes cI cZ cL cB q q_draft q_drafted q_counts q_symbols q_lengths q_codes q_often q_row q_number q_group q_bitsOf q_many 2 k_drafts k_words (k_total + a_1) k_size k_place g23) := hD
          refine lv_aload_n hx hb dMM_comes_64 rfl (lv_at hl 0 rfl) ?_
          refine va_get (D := (dC, dI)) (ci := 6) (v := .ref q_often) (C := RMM) (T := TMM) (N := 18) hx hb hts hi_MM hown hK hP 0 rfl rfl 9 (by decide) (hts _ tw_349) (fun _ h9 => h9) rfl dMM_comes_65 ?_
          refine lv_iload_n hx hb dMM_comes_68 rfl (lv_at hl 1 rfl) ?_
          obtain ⟨v25, ev25, h26, hf⟩ := rd_some hf
          refine ax_iald hx hb hK hP 1 0 rfl rfl h26 ev25 dMM_comes_69 ?_
          cases hf
          exact ax_iret hx hb hr hP hD hS dMM_comes_70 hlocks
        · have hf := ifF hf c_20
          refine lv_iconst (v := 0) hx hb dMM_comes_42 (by decide) ?_
          cases hf
          exact ax_iret hx hb hr hP hD hS dMM_comes_43 hlocks
    · have hf := ifF hf c_11
      refine lv_iconst (v := 1) hx hb dMM_comes_12 (by decide) ?_
      refine lv_goto (tgt := 32) hx hb dMM_comes_13 (by decide) ?_
      refine va_put (D := (dC, dI)) (ci := 6) (v := .int 1) (ty := .int) (C := RMM) (T := TMM) (N := 18) hx hb hts hi_MM tyMM tyMM_ok nmMM hown hK hP hD hS 0 rfl rfl 0 (by decide) (hts _ tw_340) (fun _ h9 => h9) rfl (by decide +kernel) rfl rfl (Nat.le_of_ble_eq_true rfl) dMM_comes_32 (fun H locs hP hD hS => ?_)
      have hP : va_P (dC, dI) vwCl (w_MM_comes cI cZ cL cB q q_draft q_drafted q_counts q_symbols q_lengths q_codes q_often q_row q_number q_group q_bitsOf q_many 1 k_drafts k_words k_total k_size k_place k_often) H := hP
      have hD : va_D A (w_MM_comes cI cZ cL cB q q_draft q_drafted q_counts q_symbols q_lengths q_codes q_often q_row q_number q_group q_bitsOf q_many 1 k_drafts k_words k_total k_size k_place k_often) := hD
      refine lv_aload_n hx hb dMM_comes_35 rfl (lv_at hl 0 rfl) ?_
      refine va_get (D := (dC, dI)) (ci := 6) (v := .int 1) (C := RMM) (T := TMM) (N := 18) hx hb hts hi_MM hown hK hP 0 rfl rfl 0 (by decide) (hts _ tw_340) (fun _ h9 => h9) rfl dMM_comes_36 ?_
      refine lv_if_le (tgt := 44) hx hb dMM_comes_39 (by decide) (fun c_27 => ?_) (fun c_27 => ?_)
      · have hf := ifT hf c_27
        refine lv_aload_n hx hb dMM_comes_44 rfl (lv_at hl 0 rfl) ?_
        refine va_get (D := (dC, dI)) (ci := 6) (v := .ref q_often) (C := RMM) (T := TMM) (N := 18) hx hb hts hi_MM hown hK hP 0 rfl rfl 9 (by decide) (hts _ tw_349) (fun _ h9 => h9) rfl dMM_comes_45 ?_
        refine lv_iload_n hx hb dMM_comes_48 rfl (lv_at hl 1 rfl) ?_
        refine lv_dup2_11 hx hb dMM_comes_49 rfl rfl ?_
        obtain ⟨v28, ev28, h29, hf⟩ := rd_some hf
        refine ax_iald hx hb hK hP 1 0 rfl rfl h29 ev28 dMM_comes_50 ?_
        refine lv_iload_n hx hb dMM_comes_51 rfl (lv_at hl 2 rfl) ?_
        refine lv_iadd hx hb dMM_comes_52 ?_
        obtain ⟨g30, eg30, h31, hf⟩ := wr_some hf
        refine ax_iast hx hb hK hP hD hS 1 0 rfl rfl h31 eg30 dMM_comes_53 (ws' := (w_MM_comes cI cZ cL cB q q_draft q_drafted q_counts q_symbols q_lengths q_codes q_often q_row q_number q_group q_bitsOf q_many 1 k_drafts k_words k_total k_size k_place g30)) rfl (fun H locs hP hD hS => ?_)
        refine lv_aload_n hx hb dMM_comes_54 rfl (lv_at hl 0 rfl) ?_
        refine lv_dup hx hb dMM_comes_55 rfl ?_
        refine va_get (D := (dC, dI)) (ci := 6) (v := .int k_total) (C := RMM) (T := TMM) (N := 18) hx hb hts hi_MM hown hK hP 0 rfl rfl 10 (by decide) (hts _ tw_350) (fun _ h9 => h9) rfl dMM_comes_56 ?_
        refine lv_iload_n hx hb dMM_comes_59 rfl (lv_at hl 2 rfl) ?_
        refine lv_iadd hx hb dMM_comes_60 ?_
        refine va_put (D := (dC, dI)) (ci := 6) (v := .int (k_total + a_1)) (ty := .int) (C := RMM) (T := TMM) (N := 18) hx hb hts hi_MM tyMM tyMM_ok nmMM hown hK hP hD hS 0 rfl rfl 10 (by decide) (hts _ tw_350) (fun _ h9 => h9) rfl (by decide +kernel) rfl rfl (Nat.le_of_ble_eq_true rfl) dMM_comes_61 (fun H locs hP hD hS => ?_)
        have hP : va_P (dC, dI) vwCl (w_MM_comes cI cZ cL cB q q_draft q_drafted q_counts q_symbols q_lengths q_codes q_often q_row q_number q_group q_bitsOf q_many 1 k_drafts k_words (k_total + a_1) k_size k_place g30) H := hP
        have hD : va_D A (w_MM_comes cI cZ cL cB q q_draft q_drafted q_counts q_symbols q_lengths q_codes q_often q_row q_number q_group q_bitsOf q_many 1 k_drafts k_words (k_total + a_1) k_size k_place g30) := hD
        refine lv_aload_n hx hb dMM_comes_64 rfl (lv_at hl 0 rfl) ?_
        refine va_get (D := (dC, dI)) (ci := 6) (v := .ref q_often) (C := RMM) (T := TMM) (N := 18) hx hb hts hi_MM hown hK hP 0 rfl rfl 9 (by decide) (hts _ tw_349) (fun _ h9 => h9) rfl dMM_comes_65 ?_
        refine lv_iload_n hx hb dMM_comes_68 rfl (lv_at hl 1 rfl) ?_
        obtain ⟨v32, ev32, h33, hf⟩ := rd_some hf
        refine ax_iald hx hb hK hP 1 0 rfl rfl h33 ev32 dMM_comes_69 ?_
        cases hf
        exact ax_iret hx hb hr hP hD hS dMM_comes_70 hlocks
      · have hf := ifF hf c_27
        refine lv_iconst (v := 0) hx hb dMM_comes_42 (by decide) ?_
        cases hf
        exact ax_iret hx hb hr hP hD hS dMM_comes_43 hlocks
abbrev wsMM_forget : List Cond := Cond.code yMM_forget cMM_forget 2 none :: tt
set_option maxHeartbeats 4000000 in
set_option maxRecDepth 100000 in
theorem cc_MM_forget (l : Launch) (dC : Nat → ClassId) (dI : Nat → Nat → Nat) (cI cZ cL cB : ClassId) (q q_draft q_drafted q_counts q_symbols q_lengths q_codes q_often q_row q_number q_group q_bitsOf q_many : Nat) (sz : Nat) (k_thrown : Int32) (k_drafts : Int32) (k_words : Int32) (k_total : Int32) (k_size : Int32) (k_place : Int32) (k_often : Nat → Int32) (o_thrown : Int32) (o_total : Int32) (o_often : Nat → Int32) (hf : f_MM_forget k_thrown k_drafts k_words k_total k_size k_place k_often = some (o_thrown, o_total, o_often)) : Met l yMM_forget wsMM_forget ({ frames := 0, cells := 0, slots := 0, locals := 0 }) (va_Pc [.ref q] (kz_P dC dI cI cZ cL cB sz (w_MM_forget cI cZ cL cB q q_draft q_drafted q_counts q_symbols q_lengths q_codes q_often q_row q_number q_group q_bitsOf q_many k_thrown k_drafts k_words k_total k_size k_place k_often))) (va_Qv (fun (_ : Unit) => True) (fun _ t => va_P (dC, dI) vwCl (w_MM_forget cI cZ cL cB q q_draft q_drafted q_counts q_symbols q_lengths q_codes q_often q_row q_number q_group q_bitsOf q_many o_thrown k_drafts k_words o_total k_size k_place o_often) t.heap ∧ va_D (va_A (w_MM_forget cI cZ cL cB q q_draft q_drafted q_counts q_symbols q_lengths q_codes q_often q_row q_number q_group q_bitsOf q_many k_thrown k_drafts k_words k_total k_size k_place k_often) sz) (w_MM_forget cI cZ cL cB q q_draft q_drafted q_counts q_symbols q_lengths q_codes q_often q_row q_number q_group q_bitsOf q_many o_thrown k_drafts k_words o_total k_size k_place o_often)) (va_A (w_MM_forget cI cZ cL cB q q_draft q_drafted q_counts q_symbols q_lengths q_codes q_often q_row q_number q_group q_bitsOf q_many k_thrown k_drafts k_words k_total k_size k_place k_often) sz)) 0 0 (va_A (w_MM_forget cI cZ cL cB q q_draft q_drafted q_counts q_symbols q_lengths q_codes q_often q_row q_number q_group q_bitsOf q_many k_thrown k_drafts k_words k_total k_size k_place k_often) sz) := by
  refine Met.ofW (cc := cMM_forget) (maxL := 2) (ret := none) (by decide) rfl ?_
  intro p e s m args below meth c s₁ B hml hv
  obtain ⟨rfl, hsz, hP, hZ, hD0⟩ := hv
  have hK := hZ.1
  have hx := B.exec
  have hb := B.bytes
  have hr := B.returns
  have hts : ∀ w ∈ tt, w.before _ s = true := fun w h => atoms_spec (ws := wsMM_forget) B.pre w (List.mem_cons_of_mem _ h)
  have hown : s.vm.findClass RMM = some m.cls := findClass_of_methodNamed B.named
  have hlocks := B.notSynchronized
  subst hsz
  have hD := hD0.self (sz := s.heap.size)
  generalize hAe : va_A (w_MM_forget cI cZ cL cB q q_draft q_drafted q_counts q_symbols q_lengths q_codes q_often q_row q_number q_group q_bitsOf q_many k_thrown k_drafts k_words k_total k_size k_place k_often) s.heap.size = A at hD ⊢
  have hA : ∀ q : Nat, s.heap.size ≤ q → A q := fun q h => by rw [← hAe]; exact Or.inr h
  have hS : va_S A s.heap s.heap [] := va_S.rf
  have hl := lv_entry [.ref q] (n := 2) (Nat.le_of_ble_eq_true rfl)
  rw [lg_entry_eq]
  generalize (lg_sl [.ref q] ++ List.replicate (2 - (lg_sl [.ref q]).length) Slot.unset).toArray = ls at hl ⊢
  have hl : lv_has ls 2 [(0, .ref q)] := hl
  unfold f_MM_forget at hf
  refine lv_aload_n hx hb dMM_forget_0 rfl (lv_at hl 0 rfl) ?_
  refine lv_iconst (v := 0) hx hb dMM_forget_1 (by decide) ?_
  refine va_put (D := (dC, dI)) (ci := 6) (v := .int 0) (ty := .int) (C := RMM) (T := TMM) (N := 18) hx hb hts hi_MM tyMM tyMM_ok nmMM hown hK hP hD hS 0 rfl rfl 0 (by decide) (hts _ tw_340) (fun _ h9 => h9) rfl (by decide +kernel) rfl rfl (Nat.le_of_ble_eq_true rfl) dMM_forget_2 (fun H locs hP hD hS => ?_)
  have hP : va_P (dC, dI) vwCl (w_MM_forget cI cZ cL cB q q_draft q_drafted q_counts q_symbols q_lengths q_codes q_often q_row q_number q_group q_bitsOf q_many 0 k_drafts k_words k_total k_size k_place k_often) H := hP
  have hD : va_D A (w_MM_forget cI cZ cL cB q q_draft q_drafted q_counts q_symbols q_lengths q_codes q_often q_row q_number q_group q_bitsOf q_many 0 k_drafts k_words k_total k_size k_place k_often) := hD
  refine lv_aload_n hx hb dMM_forget_5 rfl (lv_at hl 0 rfl) ?_
  refine lv_iconst (v := 0) hx hb dMM_forget_6 (by decide) ?_
  refine va_put (D := (dC, dI)) (ci := 6) (v := .int 0) (ty := .int) (C := RMM) (T := TMM) (N := 18) hx hb hts hi_MM tyMM tyMM_ok nmMM hown hK hP hD hS 0 rfl rfl 10 (by decide) (hts _ tw_350) (fun _ h9 => h9) rfl (by decide +kernel) rfl rfl (Nat.le_of_ble_eq_true rfl) dMM_forget_7 (fun H locs hP hD hS => ?_)
  have hP : va_P (dC, dI) vwCl (w_MM_forget cI cZ cL cB q q_draft q_drafted q_counts q_symbols q_lengths q_codes q_often q_row q_number q_group q_bitsOf q_many 0 k_drafts k_words 0 k_size k_place k_often) H := hP
  have hD : va_D A (w_MM_forget cI cZ cL cB q q_draft q_drafted q_counts q_symbols q_lengths q_codes q_often q_row q_number q_group q_bitsOf q_many 0 k_drafts k_words 0 k_size k_place k_often) := hD
  refine lv_iconst (v := 0) hx hb dMM_forget_10 (by decide) ?_
  refine lv_istore_n (lv' := [(1, .int 0), (0, .ref q)]) hx hb dMM_forget_11 rfl hl (by decide) rfl (fun ls hl => ?_)
  refine Lp2_W (P := fun (x3 : Int32) (x4 : Nat → Int32) => ∀ (H : Heap) (locs : List Loc) (ls : Array Slot), va_P (dC, dI) vwCl (w_MM_forget cI cZ cL cB q q_draft q_drafted q_counts q_symbols q_lengths q_codes q_often q_row q_number q_group q_bitsOf q_many 0 k_drafts k_words 0 k_size k_place x4) H → va_D A (w_MM_forget cI cZ cL cB q q_draft q_drafted q_counts q_symbols q_lengths q_codes q_often q_row q_number q_group q_bitsOf q_many 0 k_drafts k_words 0 k_size k_place x4) → va_S A s.heap H locs → lv_has ls 2 [(0, .ref q), (1, .int x3)] → W p l e _ s m _ below meth c H locs 0 0 _ (F0 m 12 ls [])) ?_ _ _ _ hf _ _ _ hP hD hS (lv_sub hl [1, 0] rfl)
  clear hf hP hD hS hl
  intro ag1 ih2 x3 x4 hf H locs ls hP hD hS hl
  refine lv_iload_n hx hb dMM_forget_12 rfl (lv_at hl 1 rfl) ?_
  refine lv_sipush (v := 256) hx hb dMM_forget_13 (by decide) ?_
  refine lv_icmp_ge (tgt := 32) hx hb dMM_forget_16 (by decide) (fun c_5 => ?_) (fun c_5 => ?_)
  · have hf := ifT hf c_5
    cases hf
    exact ax_vret hx hb hr hP hD hS dMM_forget_32 hlocks
  · have hf := ifF hf c_5
    refine lv_aload_n hx hb dMM_forget_19 rfl (lv_at hl 0 rfl) ?_
    refine va_get (D := (dC, dI)) (ci := 6) (v := .ref q_often) (C := RMM) (T := TMM) (N := 18) hx hb hts hi_MM hown hK hP 0 rfl rfl 9 (by decide) (hts _ tw_349) (fun _ h9 => h9) rfl dMM_forget_20 ?_
    refine lv_iload_n hx hb dMM_forget_23 rfl (lv_at hl 1 rfl) ?_
    refine lv_iconst (v := 0) hx hb dMM_forget_24 (by decide) ?_
    obtain ⟨g6, eg6, h7, hf⟩ := wr_some hf
    refine ax_iast hx hb hK hP hD hS 1 0 rfl rfl h7 eg6 dMM_forget_25 (ws' := (w_MM_forget cI cZ cL cB q q_draft q_drafted q_counts q_symbols q_lengths q_codes q_often q_row q_number q_group q_bitsOf q_many 0 k_drafts k_words 0 k_size k_place g6)) rfl (fun H locs hP hD hS => ?_)
    refine lv_iinc (v := (x3 + 1)) (lv' := [(1, .int (x3 + 1)), (0, .ref q)]) hx hb dMM_forget_26 hl (k := 1) rfl rfl (by decide) rfl (fun ls hl => ?_)
    refine lv_goto (tgt := 12) hx hb dMM_forget_29 (by decide) ?_
    exact ih2 (x3 + 1) g6 hf _ _ _ hP hD hS (lv_sub hl [1, 0] rfl)
abbrev wsMM_least : List Cond := Cond.code yMM_least cMM_least 4 (some .int) :: tt
set_option maxHeartbeats 4000000 in
set_option maxRecDepth 100000 in
theorem cc_MM_least (l : Launch) (dC : Nat → ClassId) (dI : Nat → Nat → Nat) (cI cZ cL cB : ClassId) (q q_draft q_drafted q_counts q_symbols q_lengths q_codes q_often q_row q_number q_group q_bitsOf q_many : Nat) (sz : Nat) (k_thrown : Int32) (k_drafts : Int32) (k_words : Int32) (k_total : Int32) (k_size : Int32) (k_place : Int32) (k_number : Nat → Int32) (a_0 : Int32) (r : Int32) (hf : f_MM_least k_thrown k_drafts k_words k_total k_size k_place k_number a_0 = some r) : Met l yMM_least wsMM_least ({ frames := 0, cells := 0, slots := 0, locals := 0 }) (va_Pc [.ref q, .int a_0] (kz_P dC dI cI cZ cL cB sz (w_MM_least cI cZ cL cB q q_draft q_drafted q_counts q_symbols q_lengths q_codes q_often q_row q_number q_group q_bitsOf q_many k_thrown k_drafts k_words k_total k_size k_place k_number))) (va_Qi (fun (r' : Int32) (_ : Unit) => r' = r) (fun _ t => va_P (dC, dI) vwCl (w_MM_least cI cZ cL cB q q_draft q_drafted q_counts q_symbols q_lengths q_codes q_often q_row q_number q_group q_bitsOf q_many k_thrown k_drafts k_words k_total k_size k_place k_number) t.heap ∧ va_D (va_A (w_MM_least cI cZ cL cB q q_draft q_drafted q_counts q_symbols q_lengths q_codes q_often q_row q_number q_group q_bitsOf q_many k_thrown k_drafts k_words k_total k_size k_place k_number) sz) (w_MM_least cI cZ cL cB q q_draft q_drafted q_counts q_symbols q_lengths q_codes q_often q_row q_number q_group q_bitsOf q_many k_thrown k_drafts k_words k_total k_size k_place k_number)) (va_A (w_MM_least cI cZ cL cB q q_draft q_drafted q_counts q_symbols q_lengths q_codes q_often q_row q_number q_group q_bitsOf q_many k_thrown k_drafts k_words k_total k_size k_place k_number) sz)) 0 0 (va_A (w_MM_least cI cZ cL cB q q_draft q_drafted q_counts q_symbols q_lengths q_codes q_often q_row q_number q_group q_bitsOf q_many k_thrown k_drafts k_words k_total k_size k_place k_number) sz) := by
  refine Met.ofW (cc := cMM_least) (maxL := 4) (ret := (some .int)) (by decide) rfl ?_
  intro p e s m args below meth c s₁ B hml hv
  obtain ⟨rfl, hsz, hP, hZ, hD0⟩ := hv
  have hK := hZ.1
  have hx := B.exec
  have hb := B.bytes
  have hr := B.returns
  have hts : ∀ w ∈ tt, w.before _ s = true := fun w h => atoms_spec (ws := wsMM_least) B.pre w (List.mem_cons_of_mem _ h)
  have hown : s.vm.findClass RMM = some m.cls := findClass_of_methodNamed B.named
  have hlocks := B.notSynchronized
  subst hsz
  have hD := hD0.self (sz := s.heap.size)
  generalize hAe : va_A (w_MM_least cI cZ cL cB q q_draft q_drafted q_counts q_symbols q_lengths q_codes q_often q_row q_number q_group q_bitsOf q_many k_thrown k_drafts k_words k_total k_size k_place k_number) s.heap.size = A at hD ⊢
  have hA : ∀ q : Nat, s.heap.size ≤ q → A q := fun q h => by rw [← hAe]; exact Or.inr h
  have hS : va_S A s.heap s.heap [] := va_S.rf
  have hl := lv_entry [.ref q, .int a_0] (n := 4) (Nat.le_of_ble_eq_true rfl)
  rw [lg_entry_eq]
  generalize (lg_sl [.ref q, .int a_0] ++ List.replicate (4 - (lg_sl [.ref q, .int a_0]).length) Slot.unset).toArray = ls at hl ⊢
  have hl : lv_has ls 4 [(0, .ref q), (1, .int a_0)] := hl
  unfold f_MM_least at hf
  refine lv_iconst (v := (-1)) hx hb dMM_least_0 (by decide) ?_
  refine lv_istore_n (lv' := [(2, .int (-1)), (0, .ref q), (1, .int a_0)]) hx hb dMM_least_1 rfl hl (by decide) rfl (fun ls hl => ?_)
  refine lv_iconst (v := 0) hx hb dMM_least_2 (by decide) ?_
  refine lv_istore_n (lv' := [(3, .int 0), (2, .int (-1)), (0, .ref q), (1, .int a_0)]) hx hb dMM_least_3 rfl hl (by decide) rfl (fun ls hl => ?_)
  refine Lp2_W (P := fun (x3 : Int32) (x4 : Int32) => ∀ (H : Heap) (locs : List Loc) (ls : Array Slot), va_P (dC, dI) vwCl (w_MM_least cI cZ cL cB q q_draft q_drafted q_counts q_symbols q_lengths q_codes q_often q_row q_number q_group q_bitsOf q_many k_thrown k_drafts k_words k_total k_size k_place k_number) H → va_D A (w_MM_least cI cZ cL cB q q_draft q_drafted q_counts q_symbols q_lengths q_codes q_often q_row q_number q_group q_bitsOf q_many k_thrown k_drafts k_words k_total k_size k_place k_number) → va_S A s.heap H locs → lv_has ls 4 [(0, .ref q), (1, .int a_0), (2, .int x3), (3, .int x4)] → W p l e _ s m _ below meth c H locs 0 0 _ (F0 m 4 ls [])) ?_ _ _ _ hf _ _ _ hP hD hS (lv_sub hl [2, 3, 1, 0] rfl)
  clear hf hP hD hS hl
  intro ag1 ih2 x3 x4 hf H locs ls hP hD hS hl
  refine lv_iload_n hx hb dMM_least_4 rfl (lv_at hl 3 rfl) ?_
  refine lv_sipush (v := 256) hx hb dMM_least_5 (by decide) ?_
  refine lv_icmp_gt (tgt := 60) hx hb dMM_least_8 (by decide) (fun c_5 => ?_) (fun c_5 => ?_)
  · have hf := ifT hf c_5
    refine lv_iload_n hx hb dMM_least_60 rfl (lv_at hl 2 rfl) ?_
    cases hf
    exact ax_iret hx hb hr hP hD hS dMM_least_61 hlocks
  · have hf := ifF hf c_5
    refine lv_iload_n hx hb dMM_least_11 rfl (lv_at hl 3 rfl) ?_
    refine lv_iload_n hx hb dMM_least_12 rfl (lv_at hl 1 rfl) ?_
    refine lv_icmp_eq (tgt := 54) hx hb dMM_least_13 (by decide) (fun c_6 => ?_) (fun c_6 => ?_)
    · have hf := ifT hf c_6
      refine lv_iinc (v := (x4 + 1)) (lv' := [(3, .int (x4 + 1)), (0, .ref q), (1, .int a_0), (2, .int x3)]) hx hb dMM_least_54 hl (k := 3) rfl rfl (by decide) rfl (fun ls hl => ?_)
      refine lv_goto (tgt := 4) hx hb dMM_least_57 (by decide) ?_
      exact ih2 x3 (x4 + 1) hf _ _ _ hP hD hS (lv_sub hl [1, 2, 3, 0] rfl)
    · have hf := ifF hf c_6
      refine lv_aload_n hx hb dMM_least_16 rfl (lv_at hl 0 rfl) ?_
      refine va_get (D := (dC, dI)) (ci := 6) (v := .ref q_number) (C := RMM) (T := TMM) (N := 18) hx hb hts hi_MM hown hK hP 0 rfl rfl 14 (by decide) (hts _ tw_354) (fun _ h9 => h9) rfl dMM_least_17 ?_
      refine lv_iload_n hx hb dMM_least_20 rfl (lv_at hl 3 rfl) ?_
      obtain ⟨v7, ev7, h8, hf⟩ := rd_some hf
      refine ax_iald hx hb hK hP 1 0 rfl rfl h8 ev7 dMM_least_21 ?_
      refine lv_if_le (tgt := 54) hx hb dMM_least_22 (by decide) (fun c_9 => ?_) (fun c_9 => ?_)
      · have hf := ifT hf c_9
        refine lv_iinc (v := (x4 + 1)) (lv' := [(3, .int (x4 + 1)), (0, .ref q), (1, .int a_0), (2, .int x3)]) hx hb dMM_least_54 hl (k := 3) rfl rfl (by decide) rfl (fun ls hl => ?_)
        refine lv_goto (tgt := 4) hx hb dMM_least_57 (by decide) ?_
        exact ih2 x3 (x4 + 1) hf _ _ _ hP hD hS (lv_sub hl [1, 2, 3, 0] rfl)
      · have hf := ifF hf c_9
        refine lv_iload_n hx hb dMM_least_25 rfl (lv_at hl 2 rfl) ?_
        refine lv_if_lt (tgt := 52) hx hb dMM_least_26 (by decide) (fun c_10 => ?_) (fun c_10 => ?_)
        · have hf := ifT hf c_10
          refine lv_iload_n hx hb dMM_least_52 rfl (lv_at hl 3 rfl) ?_
          refine lv_istore_n (lv' := [(2, .int x4), (0, .ref q), (1, .int a_0), (3, .int x4)]) hx hb dMM_least_53 rfl hl (by decide) rfl (fun ls hl => ?_)
          refine lv_iinc (v := (x4 + 1)) (lv' := [(3, .int (x4 + 1)), (2, .int x4), (0, .ref q), (1, .int a_0)]) hx hb dMM_least_54 hl (k := 3) rfl rfl (by decide) rfl (fun ls hl => ?_)
          refine lv_goto (tgt := 4) hx hb dMM_least_57 (by decide) ?_
          exact ih2 x4 (x4 + 1) hf _ _ _ hP hD hS (lv_sub hl [2, 3, 1, 0] rfl)
        · have hf := ifF hf c_10
          refine lv_aload_n hx hb dMM_least_29 rfl (lv_at hl 0 rfl) ?_
          refine va_get (D := (dC, dI)) (ci := 6) (v := .ref q_number) (C := RMM) (T := TMM) (N := 18) hx hb hts hi_MM hown hK hP 0 rfl rfl 14 (by decide) (hts _ tw_354) (fun _ h9 => h9) rfl dMM_least_30 ?_
          refine lv_iload_n hx hb dMM_least_33 rfl (lv_at hl 3 rfl) ?_
          obtain ⟨v11, ev11, h12, hf⟩ := rd_some hf
          refine ax_iald hx hb hK hP 1 0 rfl rfl h12 ev11 dMM_least_34 ?_
          refine lv_aload_n hx hb dMM_least_35 rfl (lv_at hl 0 rfl) ?_
          refine va_get (D := (dC, dI)) (ci := 6) (v := .ref q_number) (C := RMM) (T := TMM) (N := 18) hx hb hts hi_MM hown hK hP 0 rfl rfl 14 (by decide) (hts _ tw_354) (fun _ h9 => h9) rfl dMM_least_36 ?_
          refine lv_iload_n hx hb dMM_least_39 rfl (lv_at hl 2 rfl) ?_
          refine lv_if_ge (tgt := 47) hx hb dMM_least_40 (by decide) (fun c_13 => ?_) (fun c_13 => ?_)
          · have hf := ifT hf c_13
            refine lv_iload_n hx hb dMM_least_47 rfl (lv_at hl 2 rfl) ?_
            obtain ⟨v14, ev14, h15, hf⟩ := rd_some hf
            refine ax_iald hx hb hK hP 1 0 rfl rfl h15 ev14 dMM_least_48 ?_
            refine lv_icmp_gt (tgt := 54) hx hb dMM_least_49 (by decide) (fun c_16 => ?_) (fun c_16 => ?_)
            · have hf := ifT hf c_16
              refine lv_iinc (v := (x4 + 1)) (lv' := [(3, .int (x4 + 1)), (0, .ref q), (1, .int a_0), (2, .int x3)]) hx hb dMM_least_54 hl (k := 3) rfl rfl (by decide) rfl (fun ls hl => ?_)
              refine lv_goto (tgt := 4) hx hb dMM_least_57 (by decide) ?_
              exact ih2 x3 (x4 + 1) hf _ _ _ hP hD hS (lv_sub hl [1, 2, 3, 0] rfl)
            · have hf := ifF hf c_16
              refine lv_iload_n hx hb dMM_least_52 rfl (lv_at hl 3 rfl) ?_
              refine lv_istore_n (lv' := [(2, .int x4), (0, .ref q), (1, .int a_0), (3, .int x4)]) hx hb dMM_least_53 rfl hl (by decide) rfl (fun ls hl => ?_)
              refine lv_iinc (v := (x4 + 1)) (lv' := [(3, .int (x4 + 1)), (2, .int x4), (0, .ref q), (1, .int a_0)]) hx hb dMM_least_54 hl (k := 3) rfl rfl (by decide) rfl (fun ls hl => ?_)
              refine lv_goto (tgt := 4) hx hb dMM_least_57 (by decide) ?_
              exact ih2 x4 (x4 + 1) hf _ _ _ hP hD hS (lv_sub hl [2, 3, 1, 0] rfl)
          · have hf := ifF hf c_13
            refine lv_iconst (v := 0) hx hb dMM_least_43 (by decide) ?_
            refine lv_goto (tgt := 48) hx hb dMM_least_44 (by decide) ?_
            obtain ⟨v17, ev17, h18, hf⟩ := rd_some hf
            refine ax_iald hx hb hK hP 1 0 rfl rfl h18 ev17 dMM_least_48 ?_
            refine lv_icmp_gt (tgt := 54) hx hb dMM_least_49 (by decide) (fun c_19 => ?_) (fun c_19 => ?_)
            · have hf := ifT hf c_19
              refine lv_iinc (v := (x4 + 1)) (lv' := [(3, .int (x4 + 1)), (0, .ref q), (1, .int a_0), (2, .int x3)]) hx hb dMM_least_54 hl (k := 3) rfl rfl (by decide) rfl (fun ls hl => ?_)
              refine lv_goto (tgt := 4) hx hb dMM_least_57 (by decide) ?_
              exact ih2 x3 (x4 + 1) hf _ _ _ hP hD hS (lv_sub hl [1, 2, 3, 0] rfl)
            · have hf := ifF hf c_19
              refine lv_iload_n hx hb dMM_least_52 rfl (lv_at hl 3 rfl) ?_
              refine lv_istore_n (lv' := [(2, .int x4), (0, .ref q), (1, .int a_0), (3, .int x4)]) hx hb dMM_least_53 rfl hl (by decide) rfl (fun ls hl => ?_)
              refine lv_iinc (v := (x4 + 1)) (lv' := [(3, .int (x4 + 1)), (2, .int x4), (0, .ref q), (1, .int a_0)]) hx hb dMM_least_54 hl (k := 3) rfl rfl (by decide) rfl (fun ls hl => ?_)
              refine lv_goto (tgt := 4) hx hb dMM_least_57 (by decide) ?_
              exact ih2 x4 (x4 + 1) hf _ _ _ hP hD hS (lv_sub hl [2, 3, 1, 0] rfl)
