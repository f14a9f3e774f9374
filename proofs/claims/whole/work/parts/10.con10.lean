abbrev wsMM_best : List Cond := Cond.code yMM_best cMM_best 4 (some .long) :: tt
set_option maxHeartbeats 4000000 in
set_option maxRecDepth 100000 in
theorem cc_MM_best (l : Launch) (dC : Nat → ClassId) (dI : Nat → Nat → Nat) (cI cZ cL cB : ClassId) (q q_draft q_drafted q_counts q_symbols q_lengths q_codes q_often q_row q_number q_group q_bitsOf q_many : Nat) (sz : Nat) (k_thrown : Int32) (k_drafts : Int32) (k_words : Int32) (k_total : Int32) (k_size : Int32) (k_place : Int32) (k_number : Nat → Int32) (k_group : Nat → Int32) (k_bitsOf : Nat → Int32) (k_often : Nat → Int32) (k_many : Nat → Int32) (k_counts : Nat → Int32) (k_symbols : Nat → Int32) (k_lengths : Nat → Int32) (k_codes : Nat → Int32) (r : Int64) (o_thrown : Int32) (o_words : Int32) (o_number : Nat → Int32) (o_group : Nat → Int32) (o_bitsOf : Nat → Int32) (o_many : Nat → Int32) (o_counts : Nat → Int32) (o_symbols : Nat → Int32) (o_lengths : Nat → Int32) (o_codes : Nat → Int32) (hf : f_MM_best k_thrown k_drafts k_words k_total k_size k_place k_number k_group k_bitsOf k_often k_many k_counts k_symbols k_lengths k_codes = some (r, o_thrown, o_words, o_number, o_group, o_bitsOf, o_many, o_counts, o_symbols, o_lengths, o_codes)) : Met l yMM_best wsMM_best ({ frames := 2, cells := 0, slots := 0, locals := 46 }) (va_Pc [.ref q] (kz_P dC dI cI cZ cL cB sz (w_MM_best cI cZ cL cB q q_draft q_drafted q_counts q_symbols q_lengths q_codes q_often q_row q_number q_group q_bitsOf q_many k_thrown k_drafts k_words k_total k_size k_place k_number k_group k_bitsOf k_often k_many k_counts k_symbols k_lengths k_codes))) (va_Ql (fun (r' : Int64) (_ : Unit) => r' = r) (fun _ t => va_P (dC, dI) vwCl (w_MM_best cI cZ cL cB q q_draft q_drafted q_counts q_symbols q_lengths q_codes q_often q_row q_number q_group q_bitsOf q_many o_thrown k_drafts o_words k_total k_size k_place o_number o_group o_bitsOf k_often o_many o_counts o_symbols o_lengths o_codes) t.heap ∧ va_D (va_A (w_MM_best cI cZ cL cB q q_draft q_drafted q_counts q_symbols q_lengths q_codes q_often q_row q_number q_group q_bitsOf q_many k_thrown k_drafts k_words k_total k_size k_place k_number k_group k_bitsOf k_often k_many k_counts k_symbols k_lengths k_codes) sz) (w_MM_best cI cZ cL cB q q_draft q_drafted q_counts q_symbols q_lengths q_codes q_often q_row q_number q_group q_bitsOf q_many o_thrown k_drafts o_words k_total k_size k_place o_number o_group o_bitsOf k_often o_many o_counts o_symbols o_lengths o_codes)) (va_A (w_MM_best cI cZ cL cB q q_draft q_drafted q_counts q_symbols q_lengths q_codes q_often q_row q_number q_group q_bitsOf q_many k_thrown k_drafts k_words k_total k_size k_place k_number k_group k_bitsOf k_often k_many k_counts k_symbols k_lengths k_codes) sz)) 0 0 (va_A (w_MM_best cI cZ cL cB q q_draft q_drafted q_counts q_symbols q_lengths q_codes q_often q_row q_number q_group q_bitsOf q_many k_thrown k_drafts k_words k_total k_size k_place k_number k_group k_bitsOf k_often k_many k_counts k_symbols k_lengths k_codes) sz) := by
  refine Met.ofW (cc := cMM_best) (maxL := 4) (ret := (some .long)) (by decide) rfl ?_
  intro p e s m args below meth c s₁ B hml hv
  obtain ⟨rfl, hsz, hP, hZ, hD0⟩ := hv
  have hK := hZ.1
  have hx := B.exec
  have hb := B.bytes
  have hr := B.returns
  have hts : ∀ w ∈ tt, w.before _ s = true := fun w h => atoms_spec (ws := wsMM_best) B.pre w (List.mem_cons_of_mem _ h)
  have hown : s.vm.findClass RMM = some m.cls := findClass_of_methodNamed B.named
  have hlocks := B.notSynchronized
  subst hsz
  have hD := hD0.self (sz := s.heap.size)
  generalize hAe : va_A (w_MM_best cI cZ cL cB q q_draft q_drafted q_counts q_symbols q_lengths q_codes q_often q_row q_number q_group q_bitsOf q_many k_thrown k_drafts k_words k_total k_size k_place k_number k_group k_bitsOf k_often k_many k_counts k_symbols k_lengths k_codes) s.heap.size = A at hD ⊢
  have hA : ∀ q : Nat, s.heap.size ≤ q → A q := fun q h => by rw [← hAe]; exact Or.inr h
  have hS : va_S A s.heap s.heap [] := va_S.rf
  have hl := lv_entry [.ref q] (n := 4) (Nat.le_of_ble_eq_true rfl)
  rw [lg_entry_eq]
  generalize (lg_sl [.ref q] ++ List.replicate (4 - (lg_sl [.ref q]).length) Slot.unset).toArray = ls at hl ⊢
  have hl : lv_has ls 4 [(0, .ref q)] := hl
  unfold f_MM_best at hf
  refine lv_aload_n hx hb dMM_best_0 rfl (lv_at hl 0 rfl) ?_
  refine lv_iconst (v := 0) hx hb dMM_best_1 (by decide) ?_
  refine va_put (D := (dC, dI)) (ci := 6) (v := .int 0) (ty := .int) (C := RMM) (T := TMM) (N := 18) hx hb hts hi_MM tyMM tyMM_ok nmMM hown hK hP hD hS 0 rfl rfl 0 (by decide) (hts _ tw_340) (fun _ h9 => h9) rfl (by decide +kernel) rfl rfl (Nat.le_of_ble_eq_true rfl) dMM_best_2 (fun H locs hP hD hS => ?_)
  have hP : va_P (dC, dI) vwCl (w_MM_best cI cZ cL cB q q_draft q_drafted q_counts q_symbols q_lengths q_codes q_often q_row q_number q_group q_bitsOf q_many 0 k_drafts k_words k_total k_size k_place k_number k_group k_bitsOf k_often k_many k_counts k_symbols k_lengths k_codes) H := hP
  have hD : va_D A (w_MM_best cI cZ cL cB q q_draft q_drafted q_counts q_symbols q_lengths q_codes q_often q_row q_number q_group q_bitsOf q_many 0 k_drafts k_words k_total k_size k_place k_number k_group k_bitsOf k_often k_many k_counts k_symbols k_lengths k_codes) := hD
  refine lv_aload_n hx hb dMM_best_5 rfl (lv_at hl 0 rfl) ?_
  refine lv_iconst (v := 0) hx hb dMM_best_6 (by decide) ?_
  refine va_put (D := (dC, dI)) (ci := 6) (v := .int 0) (ty := .int) (C := RMM) (T := TMM) (N := 18) hx hb hts hi_MM tyMM tyMM_ok nmMM hown hK hP hD hS 0 rfl rfl 6 (by decide) (hts _ tw_346) (fun _ h9 => h9) rfl (by decide +kernel) rfl rfl (Nat.le_of_ble_eq_true rfl) dMM_best_7 (fun H locs hP hD hS => ?_)
  have hP : va_P (dC, dI) vwCl (w_MM_best cI cZ cL cB q q_draft q_drafted q_counts q_symbols q_lengths q_codes q_often q_row q_number q_group q_bitsOf q_many 0 k_drafts 0 k_total k_size k_place k_number k_group k_bitsOf k_often k_many k_counts k_symbols k_lengths k_codes) H := hP
  have hD : va_D A (w_MM_best cI cZ cL cB q q_draft q_drafted q_counts q_symbols q_lengths q_codes q_often q_row q_number q_group q_bitsOf q_many 0 k_drafts 0 k_total k_size k_place k_number k_group k_bitsOf k_often k_many k_counts k_symbols k_lengths k_codes) := hD
  refine lv_iconst (v := 0) hx hb dMM_best_10 (by decide) ?_
  refine lv_istore_n (lv' := [(1, .int 0), (0, .ref q)]) hx hb dMM_best_11 rfl hl (by decide) rfl (fun ls hl => ?_)
  refine Lp2_W (P := fun (x3 : Int32) (x4 : Nat → Int32) => ∀ (H : Heap) (locs : List Loc) (ls : Array Slot), va_P (dC, dI) vwCl (w_MM_best cI cZ cL cB q q_draft q_drafted q_counts q_symbols q_lengths q_codes q_often q_row q_number q_group q_bitsOf q_many 0 k_drafts 0 k_total k_size k_place k_number k_group k_bitsOf k_often k_many x4 k_symbols k_lengths k_codes) H → va_D A (w_MM_best cI cZ cL cB q q_draft q_drafted q_counts q_symbols q_lengths q_codes q_often q_row q_number q_group q_bitsOf q_many 0 k_drafts 0 k_total k_size k_place k_number k_group k_bitsOf k_often k_many x4 k_symbols k_lengths k_codes) → va_S A s.heap H locs → lv_has ls 4 [(0, .ref q), (1, .int x3)] → W p l e _ s m _ below meth c H locs 0 0 _ (F0 m 12 ls [])) ?_ _ _ _ hf _ _ _ hP hD hS (lv_sub hl [1, 0] rfl)
  clear hf hP hD hS hl
  intro ag1 ih2 x3 x4 hf H locs ls hP hD hS hl
  refine lv_iload_n hx hb dMM_best_12 rfl (lv_at hl 1 rfl) ?_
  refine lv_bipush (v := 17) hx hb dMM_best_13 (by decide) ?_
  refine lv_icmp_ge (tgt := 31) hx hb dMM_best_15 (by decide) (fun c_5 => ?_) (fun c_5 => ?_)
  · have hf := ifT hf c_5
    refine lv_aload_n hx hb dMM_best_31 rfl (lv_at hl 0 rfl) ?_
    refine va_get (D := (dC, dI)) (ci := 6) (v := .int k_total) (C := RMM) (T := TMM) (N := 18) hx hb hts hi_MM hown hK hP 0 rfl rfl 10 (by decide) (hts _ tw_350) (fun _ h9 => h9) rfl dMM_best_32 ?_
    refine lv_if_ne (tgt := 44) hx hb dMM_best_35 (by decide) (fun c_6 => ?_) (fun c_6 => ?_)
    · have hf := ifF hf c_6
      refine lv_aload_n hx hb dMM_best_44 rfl (lv_at hl 0 rfl) ?_
      obtain ⟨o7, o8, o9, h10, hf⟩ := bd3_some hf
      have hPc := hP.sub (ws' := (w_MM_join cI cZ cL cB q q_draft q_drafted q_counts q_symbols q_lengths q_codes q_often q_row q_number q_group q_bitsOf q_many 0 k_drafts 0 k_total k_size k_place k_number k_group k_bitsOf k_often)) [0, 1, 2, 3, 4] rfl
      have hDc := hD.sub (ws' := (w_MM_join cI cZ cL cB q q_draft q_drafted q_counts q_symbols q_lengths q_codes q_often q_row q_number q_group q_bitsOf q_many 0 k_drafts 0 k_total k_size k_place k_number k_group k_bitsOf k_often)) [0, 1, 2, 3, 4] (by decide) rfl
      refine ax_callv (wr := [(q_many, .inl (cI, 300, .inl k_many)), (q_counts, .inl (cI, 17, .inl x4)), (q_symbols, .inl (cI, 256, .inl k_symbols)), (q_lengths, .inl (cI, 256, .inl k_lengths)), (q_codes, .inl (cI, 256, .inl k_codes))]) (w2 := (w_MM_best cI cZ cL cB q q_draft q_drafted q_counts q_symbols q_lengths q_codes q_often q_row q_number q_group q_bitsOf q_many 0 k_drafts 0 k_total k_size k_place o7 o8 o9 k_often k_many x4 k_symbols k_lengths k_codes)) (va_runV (As := []) (rest := []) ⟨hx, hb, hml, hown, hts⟩ (cc_MM_join l dC dI cI cZ cL cB q q_draft q_drafted q_counts q_symbols q_lengths q_codes q_often q_row q_number q_group q_bitsOf q_many H.size 0 k_drafts 0 k_total k_size k_place k_number k_group k_bitsOf k_often o7 o8 o9 h10) (cwV 0 hts (tt_V tw_419 tw_420 tw_15 tw_27 tw_421) rfl rfl rfl (by decide +kernel) ⟨Nat.le_of_ble_eq_true rfl, Nat.le_of_ble_eq_true rfl⟩) ⟨kz_fb, va_recv hK hPc (ci := 6) (q0 := 0) rfl rfl, kz_pre hPc hZ hDc⟩ rfl rfl hl.1 rfl (lv_room (Nat.le_of_ble_eq_true rfl)) dMM_best_45 ⟨Nat.zero_le _, Nat.zero_le _⟩) hP hD hS hA [0, 1, 2, 3, 4] [5, 6, 7, 8, 9] [5, 6, 7, 8, 9, 0, 1, 2, 3, 4] rfl rfl (by decide) (by decide) rfl (by decide) (fun H locs hP hD hS => ?_)
      refine lv_aload_n hx hb dMM_best_48 rfl (lv_at hl 0 rfl) ?_
      obtain ⟨o11, h12, hf⟩ := bd1_some hf
      have hPc := hP.sub (ws' := (w_MM_shorten cI cZ cL cB q q_draft q_drafted q_counts q_symbols q_lengths q_codes q_often q_row q_number q_group q_bitsOf q_many 0 k_drafts 0 k_total k_size k_place k_many o9 k_often)) [0, 5, 3, 4] rfl
      have hDc := hD.sub (ws' := (w_MM_shorten cI cZ cL cB q q_draft q_drafted q_counts q_symbols q_lengths q_codes q_often q_row q_number q_group q_bitsOf q_many 0 k_drafts 0 k_total k_size k_place k_many o9 k_often)) [0, 5, 3, 4] (by decide) rfl
      refine ax_callv (wr := [(q_number, .inl (cI, 257, .inl o7)), (q_group, .inl (cI, 257, .inl o8)), (q_counts, .inl (cI, 17, .inl x4)), (q_symbols, .inl (cI, 256, .inl k_symbols)), (q_lengths, .inl (cI, 256, .inl k_lengths)), (q_codes, .inl (cI, 256, .inl k_codes))]) (w2 := (w_MM_best cI cZ cL cB q q_draft q_drafted q_counts q_symbols q_lengths q_codes q_often q_row q_number q_group q_bitsOf q_many 0 k_drafts 0 k_total k_size k_place o7 o8 o9 k_often o11 x4 k_symbols k_lengths k_codes)) (va_runV (As := []) (rest := []) ⟨hx, hb, hml, hown, hts⟩ (cc_MM_shorten l dC dI cI cZ cL cB q q_draft q_drafted q_counts q_symbols q_lengths q_codes q_often q_row q_number q_group q_bitsOf q_many H.size 0 k_drafts 0 k_total k_size k_place k_many o9 k_often o11 h12) (cwV 0 hts (tt_V tw_425 tw_426 tw_17 tw_27 tw_427) rfl rfl rfl (by decide +kernel) ⟨Nat.le_of_ble_eq_true rfl, Nat.le_of_ble_eq_true rfl⟩) ⟨kz_fb, va_recv hK hPc (ci := 6) (q0 := 0) rfl rfl, kz_pre hPc hZ hDc⟩ rfl rfl hl.1 rfl (lv_room (Nat.le_of_ble_eq_true rfl)) dMM_best_49 ⟨Nat.zero_le _, Nat.zero_le _⟩) hP hD hS hA [0, 5, 3, 4] [1, 2, 6, 7, 8, 9] [6, 0, 1, 8, 9, 7, 2, 3, 4, 5] rfl rfl (by decide) (by decide) rfl (by decide) (fun H locs hP hD hS => ?_)
      refine lv_iconst (v := 1) hx hb dMM_best_52 (by decide) ?_
      refine lv_istore_n (lv' := [(1, .int 1), (0, .ref q)]) hx hb dMM_best_53 rfl hl (by decide) rfl (fun ls hl => ?_)
      refine Lp2_W (P := fun (x15 : Int32) (x16 : Nat → Int32) => ∀ (H : Heap) (locs : List Loc) (ls : Array Slot), va_P (dC, dI) vwCl (w_MM_best cI cZ cL cB q q_draft q_drafted q_counts q_symbols q_lengths q_codes q_often q_row q_number q_group q_bitsOf q_many 0 k_drafts 0 k_total k_size k_place o7 o8 o9 k_often o11 x16 k_symbols k_lengths k_codes) H → va_D A (w_MM_best cI cZ cL cB q q_draft q_drafted q_counts q_symbols q_lengths q_codes q_often q_row q_number q_group q_bitsOf q_many 0 k_drafts 0 k_total k_size k_place o7 o8 o9 k_often o11 x16 k_symbols k_lengths k_codes) → va_S A s.heap H locs → lv_has ls 4 [(0, .ref q), (1, .int x15)] → W p l e _ s m _ below meth c H locs 0 0 _ (F0 m 54 ls [])) ?_ _ _ _ hf _ _ _ hP hD hS (lv_sub hl [1, 0] rfl)
      clear hf hP hD hS hl
      intro ag13 ih14 x15 x16 hf H locs ls hP hD hS hl
      refine lv_iload_n hx hb dMM_best_54 rfl (lv_at hl 1 rfl) ?_
      refine lv_bipush (v := 16) hx hb dMM_best_55 (by decide) ?_
      refine lv_icmp_gt (tgt := 78) hx hb dMM_best_57 (by decide) (fun c_17 => ?_) (fun c_17 => ?_)
      · have hf := ifT hf c_17
        refine lv_iconst (v := 1) hx hb dMM_best_78 (by decide) ?_
        refine lv_istore_n (lv' := [(1, .int 1), (0, .ref q)]) hx hb dMM_best_79 rfl hl (by decide) rfl (fun ls hl => ?_)
        refine Lp3_W (P := fun (x20 : Int32) (x21 : Nat → Int32) (x22 : Int32) => ∀ (H : Heap) (locs : List Loc) (ls : Array Slot), va_P (dC, dI) vwCl (w_MM_best cI cZ cL cB q q_draft q_drafted q_counts q_symbols q_lengths q_codes q_often q_row q_number q_group q_bitsOf q_many 0 k_drafts x22 k_total k_size k_place o7 o8 o9 k_often o11 x16 x21 k_lengths k_codes) H → va_D A (w_MM_best cI cZ cL cB q q_draft q_drafted q_counts q_symbols q_lengths q_codes q_often q_row q_number q_group q_bitsOf q_many 0 k_drafts x22 k_total k_size k_place o7 o8 o9 k_often o11 x16 x21 k_lengths k_codes) → va_S A s.heap H locs → lv_has ls 4 [(0, .ref q), (1, .int x20)] → W p l e _ s m _ below meth c H locs 0 0 _ (F0 m 80 ls [])) ?_ _ _ _ _ hf _ _ _ hP hD hS (lv_sub hl [1, 0] rfl)
        clear hf hP hD hS hl
        intro ag18 ih19 x20 x21 x22 hf H locs ls hP hD hS hl
        refine lv_iload_n hx hb dMM_best_80 rfl (lv_at hl 1 rfl) ?_
        refine lv_sipush (v := 300) hx hb dMM_best_81 (by decide) ?_
        refine lv_icmp_ge (tgt := 147) hx hb dMM_best_84 (by decide) (fun c_23 => ?_) (fun c_23 => ?_)
        · have hf := ifT hf c_23
          refine lv_aload_n hx hb dMM_best_147 rfl (lv_at hl 0 rfl) ?_
          obtain ⟨o24, o25, h26, hf⟩ := bd2_some hf
          have hPc := hP.sub (ws' := (w_MM_giveWords cI cZ cL cB q q_draft q_drafted q_counts q_symbols q_lengths q_codes q_often q_row q_number q_group q_bitsOf q_many 0 k_drafts x22 k_total k_size k_place x16 x21 k_lengths k_codes)) [0, 6, 7, 8, 9] rfl
          have hDc := hD.sub (ws' := (w_MM_giveWords cI cZ cL cB q q_draft q_drafted q_counts q_symbols q_lengths q_codes q_often q_row q_number q_group q_bitsOf q_many 0 k_drafts x22 k_total k_size k_place x16 x21 k_lengths k_codes)) [0, 6, 7, 8, 9] (by decide) rfl
          refine ax_callv (wr := [(q_number, .inl (cI, 257, .inl o7)), (q_group, .inl (cI, 257, .inl o8)), (q_bitsOf, .inl (cI, 257, .inl o9)), (q_often, .inl (cI, 256, .inl k_often)), (q_many, .inl (cI, 300, .inl o11))]) (w2 := (w_MM_best cI cZ cL cB q q_draft q_drafted q_counts q_symbols q_lengths q_codes q_often q_row q_number q_group q_bitsOf q_many 0 k_drafts x22 k_total k_size k_place o7 o8 o9 k_often o11 x16 x21 o24 o25)) (va_runV (As := []) (rest := []) ⟨hx, hb, hml, hown, hts⟩ (cc_MM_giveWords l dC dI cI cZ cL cB q q_draft q_drafted q_counts q_symbols q_lengths q_codes q_often q_row q_number q_group q_bitsOf q_many H.size 0 k_drafts x22 k_total k_size k_place x16 x21 k_lengths k_codes o24 o25 h26) (cwV 0 hts (tt_V tw_403 tw_404 tw_14 tw_27 tw_405) rfl rfl rfl (by decide +kernel) ⟨Nat.le_of_ble_eq_true rfl, Nat.le_of_ble_eq_true rfl⟩) ⟨kz_fb, va_recv hK hPc (ci := 6) (q0 := 0) rfl rfl, kz_pre hPc hZ hDc⟩ rfl rfl hl.1 rfl (lv_room (Nat.le_of_ble_eq_true rfl)) dMM_best_148 ⟨Nat.zero_le _, Nat.zero_le _⟩) hP hD hS hA [0, 6, 7, 8, 9] [1, 2, 3, 4, 5] [5, 0, 1, 2, 3, 4, 6, 7, 8, 9] rfl rfl (by decide) (by decide) rfl (by decide) (fun H locs hP hD hS => ?_)
          refine lv_lconst (v := 0) hx hb dMM_best_151 (by decide) ?_
          refine lv_lstore_n (lv' := [(1, .long 0), (0, .ref q)]) hx hb dMM_best_152 rfl hl (by decide) rfl (fun ls hl => ?_)
          refine lv_iconst (v := 0) hx hb dMM_best_153 (by decide) ?_
          refine lv_istore_n (lv' := [(3, .int 0), (1, .long 0), (0, .ref q)]) hx hb dMM_best_154 rfl hl (by decide) rfl (fun ls hl => ?_)
          refine Lp2_W (P := fun (x29 : Int64) (x30 : Int32) => ∀ (H : Heap) (locs : List Loc) (ls : Array Slot), va_P (dC, dI) vwCl (w_MM_best cI cZ cL cB q q_draft q_drafted q_counts q_symbols q_lengths q_codes q_often q_row q_number q_group q_bitsOf q_many 0 k_drafts x22 k_total k_size k_place o7 o8 o9 k_often o11 x16 x21 o24 o25) H → va_D A (w_MM_best cI cZ cL cB q q_draft q_drafted q_counts q_symbols q_lengths q_codes q_often q_row q_number q_group q_bitsOf q_many 0 k_drafts x22 k_total k_size k_place o7 o8 o9 k_often o11 x16 x21 o24 o25) → va_S A s.heap H locs → lv_has ls 4 [(0, .ref q), (1, .long x29), (3, .int x30)] → W p l e _ s m _ below meth c H locs 0 0 _ (F0 m 155 ls [])) ?_ _ _ _ hf _ _ _ hP hD hS (lv_sub hl [2, 1, 0] rfl)
          clear hf hP hD hS hl
          intro ag27 ih28 x29 x30 hf H locs ls hP hD hS hl
          refine lv_iload_n hx hb dMM_best_155 rfl (lv_at hl 2 rfl) ?_
          refine lv_sipush (v := 256) hx hb dMM_best_156 (by decide) ?_
          refine lv_icmp_ge (tgt := 186) hx hb dMM_best_159 (by decide) (fun c_31 => ?_) (fun c_31 => ?_)
          · have hf := ifT hf c_31
            refine lv_lload_n hx hb dMM_best_186 rfl (lv_at hl 1 rfl) ?_
            cases hf
            exact ax_lret hx hb hr hP hD hS dMM_best_187 hlocks
          · have hf := ifF hf c_31
            refine lv_lload_n hx hb dMM_best_162 rfl (lv_at hl 1 rfl) ?_
            refine lv_aload_n hx hb dMM_best_163 rfl (lv_at hl 0 rfl) ?_
            refine va_get (D := (dC, dI)) (ci := 6) (v := .ref q_often) (C := RMM) (T := TMM) (N := 18) hx hb hts hi_MM hown hK hP 0 rfl rfl 9 (by decide) (hts _ tw_349) (fun _ h9 => h9) rfl dMM_best_164 ?_
            refine lv_iload_n hx hb dMM_best_167 rfl (lv_at hl 2 rfl) ?_
            obtain ⟨v32, ev32, h33, hf⟩ := rd_some hf
            refine ax_iald hx hb hK hP 4 0 rfl rfl h33 ev32 dMM_best_168 ?_
            refine lv_i2l (v := v32.toInt64) hx hb dMM_best_169 rfl ?_
            refine lv_aload_n hx hb dMM_best_170 rfl (lv_at hl 0 rfl) ?_
            refine va_get (D := (dC, dI)) (ci := 6) (v := .ref q_lengths) (C := RMM) (T := TMM) (N := 18) hx hb hts hi_MM hown hK hP 0 rfl rfl 7 (by decide) (hts _ tw_347) (fun _ h9 => h9) rfl dMM_best_171 ?_
            refine lv_iload_n hx hb dMM_best_174 rfl (lv_at hl 2 rfl) ?_
            obtain ⟨v34, ev34, h35, hf⟩ := rd_some hf
            refine ax_iald hx hb hK hP 8 0 rfl rfl h35 ev34 dMM_best_175 ?_
            refine lv_i2l (v := v34.toInt64) hx hb dMM_best_176 rfl ?_
            refine lv_lmul hx hb dMM_best_177 ?_
            refine lv_ladd hx hb dMM_best_178 ?_
            refine lv_lstore_n (lv' := [(1, .long (x29 + (v32.toInt64 * v34.toInt64))), (0, .ref q), (3, .int x30)]) hx hb dMM_best_179 rfl hl (by decide) rfl (fun ls hl => ?_)
            refine lv_iinc (v := (x30 + 1)) (lv' := [(3, .int (x30 + 1)), (1, .long (x29 + (v32.toInt64 * v34.toInt64))), (0, .ref q)]) hx hb dMM_best_180 hl (k := 2) rfl rfl (by decide) rfl (fun ls hl => ?_)
            refine lv_goto (tgt := 155) hx hb dMM_best_183 (by decide) ?_
            exact ih28 (x29 + (v32.toInt64 * v34.toInt64)) (x30 + 1) hf _ _ _ hP hD hS (lv_sub hl [2, 1, 0] rfl)
        · have hf := ifF hf c_23
          refine lv_iconst (v := 0) hx hb dMM_best_87 (by decide) ?_
          refine lv_istore_n (lv' := [(2, .int 0), (0, .ref q), (1, .int x20)]) hx hb dMM_best_88 rfl hl (by decide) rfl (fun ls hl => ?_)
          refine Lp3_W (P := fun (x38 : Int32) (x39 : Nat → Int32) (x40 : Int32) => ∀ (H : Heap) (locs : List Loc) (ls : Array Slot), va_P (dC, dI) vwCl (w_MM_best cI cZ cL cB q q_draft q_drafted q_counts q_symbols q_lengths q_codes q_often q_row q_number q_group q_bitsOf q_many 0 k_drafts x40 k_total k_size k_place o7 o8 o9 k_often o11 x16 x39 k_lengths k_codes) H → va_D A (w_MM_best cI cZ cL cB q q_draft q_drafted q_counts q_symbols q_lengths q_codes q_often q_row q_number q_group q_bitsOf q_many 0 k_drafts x40 k_total k_size k_place o7 o8 o9 k_often o11 x16 x39 k_lengths k_codes) → va_S A s.heap H locs → lv_has ls 4 [(0, .ref q), (1, .int x20), (2, .int x38)] → W p l e _ s m _ below meth c H locs 0 0 _ (F0 m 89 ls [])) ?_ _ _ _ _ hf _ _ _ hP hD hS (lv_sub hl [1, 2, 0] rfl)
          clear hf hP hD hS hl
          intro ag36 ih37 x38 x39 x40 hf H locs ls hP hD hS hl
          refine lv_iload_n hx hb dMM_best_89 rfl (lv_at hl 2 rfl) ?_
          refine lv_sipush (v := 256) hx hb dMM_best_90 (by decide) ?_
          refine lv_icmp_ge (tgt := 141) hx hb dMM_best_93 (by decide) (fun c_41 => ?_) (fun c_41 => ?_)
          · have hf := ifT hf c_41
            refine lv_iinc (v := (x20 + 1)) (lv' := [(1, .int (x20 + 1)), (0, .ref q), (2, .int x38)]) hx hb dMM_best_141 hl (k := 1) rfl rfl (by decide) rfl (fun ls hl => ?_)
            refine lv_goto (tgt := 80) hx hb dMM_best_144 (by decide) ?_
            exact ih19 (x20 + 1) x39 x40 hf _ _ _ hP hD hS (lv_sub hl [1, 0] rfl)
          · have hf := ifF hf c_41
            refine lv_aload_n hx hb dMM_best_96 rfl (lv_at hl 0 rfl) ?_
            refine va_get (D := (dC, dI)) (ci := 6) (v := .ref q_often) (C := RMM) (T := TMM) (N := 18) hx hb hts hi_MM hown hK hP 0 rfl rfl 9 (by decide) (hts _ tw_349) (fun _ h9 => h9) rfl dMM_best_97 ?_
            refine lv_iload_n hx hb dMM_best_100 rfl (lv_at hl 2 rfl) ?_
            obtain ⟨v42, ev42, h43, hf⟩ := rd_some hf
            refine ax_iald hx hb hK hP 4 0 rfl rfl h43 ev42 dMM_best_101 ?_
            refine lv_if_le (tgt := 135) hx hb dMM_best_102 (by decide) (fun c_44 => ?_) (fun c_44 => ?_)
            · have hf := ifT hf c_44
              refine lv_iinc (v := (x38 + 1)) (lv' := [(2, .int (x38 + 1)), (0, .ref q), (1, .int x20)]) hx hb dMM_best_135 hl (k := 2) rfl rfl (by decide) rfl (fun ls hl => ?_)
              refine lv_goto (tgt := 89) hx hb dMM_best_138 (by decide) ?_
              exact ih37 (x38 + 1) x39 x40 hf _ _ _ hP hD hS (lv_sub hl [1, 2, 0] rfl)
            · have hf := ifF hf c_44
              refine lv_aload_n hx hb dMM_best_105 rfl (lv_at hl 0 rfl) ?_
              refine va_get (D := (dC, dI)) (ci := 6) (v := .ref q_bitsOf) (C := RMM) (T := TMM) (N := 18) hx hb hts hi_MM hown hK hP 0 rfl rfl 16 (by decide) (hts _ tw_356) (fun _ h9 => h9) rfl dMM_best_106 ?_
              refine lv_iload_n hx hb dMM_best_109 rfl (lv_at hl 2 rfl) ?_
              obtain ⟨v45, ev45, h46, hf⟩ := rd_some hf
              refine ax_iald hx hb hK hP 3 0 rfl rfl h46 ev45 dMM_best_110 ?_
              refine lv_iload_n hx hb dMM_best_111 rfl (lv_at hl 1 rfl) ?_
              refine lv_icmp_ne (tgt := 135) hx hb dMM_best_112 (by decide) (fun c_47 => ?_) (fun c_47 => ?_)
              · have hf := ifF hf c_47
                refine lv_iinc (v := (x38 + 1)) (lv' := [(2, .int (x38 + 1)), (0, .ref q), (1, .int x20)]) hx hb dMM_best_135 hl (k := 2) rfl rfl (by decide) rfl (fun ls hl => ?_)
                refine lv_goto (tgt := 89) hx hb dMM_best_138 (by decide) ?_
                exact ih37 (x38 + 1) x39 x40 hf _ _ _ hP hD hS (lv_sub hl [1, 2, 0] rfl)
              · have hf := ifT hf c_47
                refine lv_aload_n hx hb dMM_best_115 rfl (lv_at hl 0 rfl) ?_
                refine va_get (D := (dC, dI)) (ci := 6) (v := .ref q_symbols) (C := RMM) (T := TMM) (N := 18) hx hb hts hi_MM hown hK hP 0 rfl rfl 5 (by decide) (hts _ tw_345) (fun _ h9 => h9) rfl dMM_best_116 ?_
                refine lv_aload_n hx hb dMM_best_119 rfl (lv_at hl 0 rfl) ?_
                refine va_get (D := (dC, dI)) (ci := 6) (v := .int x40) (C := RMM) (T := TMM) (N := 18) hx hb hts hi_MM hown hK hP 0 rfl rfl 6 (by decide) (hts _ tw_346) (fun _ h9 => h9) rfl dMM_best_120 ?_
                refine lv_iload_n hx hb dMM_best_123 rfl (lv_at hl 2 rfl) ?_
                obtain ⟨g48, eg48, h49, hf⟩ := wr_some hf
                refine ax_iast hx hb hK hP hD hS 7 0 rfl rfl h49 eg48 dMM_best_124 (ws' := (w_MM_best cI cZ cL cB q q_draft q_drafted q_counts q_symbols q_lengths q_codes q_often q_row q_number q_group q_bitsOf q_many 0 k_drafts x40 k_total k_size k_place o7 o8 o9 k_often o11 x16 g48 k_lengths k_codes)) rfl (fun H locs hP hD hS => ?_)
                refine lv_aload_n hx hb dMM_best_125 rfl (lv_at hl 0 rfl) ?_
                refine lv_dup hx hb dMM_best_126 rfl ?_
                refine va_get (D := (dC, dI)) (ci := 6) (v := .int x40) (C := RMM) (T := TMM) (N := 18) hx hb hts hi_MM hown hK hP 0 rfl rfl 6 (by decide) (hts _ tw_346) (fun _ h9 => h9) rfl dMM_best_127 ?_
                refine lv_iconst (v := 1) hx hb dMM_best_130 (by decide) ?_
                refine lv_iadd hx hb dMM_best_131 ?_
                refine va_put (D := (dC, dI)) (ci := 6) (v := .int (x40 + 1)) (ty := .int) (C := RMM) (T := TMM) (N := 18) hx hb hts hi_MM tyMM tyMM_ok nmMM hown hK hP hD hS 0 rfl rfl 6 (by decide) (hts _ tw_346) (fun _ h9 => h9) rfl (by decide +kernel) rfl rfl (Nat.le_of_ble_eq_true rfl) dMM_best_132 (fun H locs hP hD hS => ?_)
                have hP : va_P (dC, dI) vwCl (w_MM_best cI cZ cL cB q q_draft q_drafted q_counts q_symbols q_lengths q_codes q_often q_row q_number q_group q_bitsOf q_many 0 k_drafts (x40 + 1) k_total k_size k_place o7 o8 o9 k_often o11 x16 g48 k_lengths k_codes) H := hP
                have hD : va_D A (w_MM_best cI cZ cL cB q q_draft q_drafted q_counts q_symbols q_lengths q_codes q_often q_row q_number q_group q_bitsOf q_many 0 k_drafts (x40 + 1) k_total k_size k_place o7 o8 o9 k_often o11 x16 g48 k_lengths k_codes) := hD
                refine lv_iinc (v := (x38 + 1)) (lv' := [(2, .int (x38 + 1)), (0, .ref q), (1, .int x20)]) hx hb dMM_best_135 hl (k := 2) rfl rfl (by decide) rfl (fun ls hl => ?_)
                refine lv_goto (tgt := 89) hx hb dMM_best_138 (by decide) ?_
                exact ih37 (x38 + 1) g48 (x40 + 1) hf _ _ _ hP hD hS (lv_sub hl [1, 2, 0] rfl)
      · have hf := ifF hf c_17
        refine lv_aload_n hx hb dMM_best_60 rfl (lv_at hl 0 rfl) ?_
        refine va_get (D := (dC, dI)) (ci := 6) (v := .ref q_counts) (C := RMM) (T := TMM) (N := 18) hx hb hts hi_MM hown hK hP 0 rfl rfl 4 (by decide) (hts _ tw_344) (fun _ h9 => h9) rfl dMM_best_61 ?_
        refine lv_iload_n hx hb dMM_best_64 rfl (lv_at hl 1 rfl) ?_
        refine lv_aload_n hx hb dMM_best_65 rfl (lv_at hl 0 rfl) ?_
        refine va_get (D := (dC, dI)) (ci := 6) (v := .ref q_many) (C := RMM) (T := TMM) (N := 18) hx hb hts hi_MM hown hK hP 0 rfl rfl 17 (by decide) (hts _ tw_357) (fun _ h9 => h9) rfl dMM_best_66 ?_
        refine lv_iload_n hx hb dMM_best_69 rfl (lv_at hl 1 rfl) ?_
        obtain ⟨v50, ev50, h51, hf⟩ := rd_some hf
        refine ax_iald hx hb hK hP 5 0 rfl rfl h51 ev50 dMM_best_70 ?_
        obtain ⟨g52, eg52, h53, hf⟩ := wr_some hf
        refine ax_iast hx hb hK hP hD hS 6 0 rfl rfl h53 eg52 dMM_best_71 (ws' := (w_MM_best cI cZ cL cB q q_draft q_drafted q_counts q_symbols q_lengths q_codes q_often q_row q_number q_group q_bitsOf q_many 0 k_drafts 0 k_total k_size k_place o7 o8 o9 k_often o11 g52 k_symbols k_lengths k_codes)) rfl (fun H locs hP hD hS => ?_)
        refine lv_iinc (v := (x15 + 1)) (lv' := [(1, .int (x15 + 1)), (0, .ref q)]) hx hb dMM_best_72 hl (k := 1) rfl rfl (by decide) rfl (fun ls hl => ?_)
        refine lv_goto (tgt := 54) hx hb dMM_best_75 (by decide) ?_
        exact ih14 (x15 + 1) g52 hf _ _ _ hP hD hS (lv_sub hl [1, 0] rfl)
    · have hf := ifT hf c_6
      refine lv_aload_n hx hb dMM_best_38 rfl (lv_at hl 0 rfl) ?_
      obtain ⟨o54, o55, h56, hf⟩ := bd2_some hf
      have hPc := hP.sub (ws' := (w_MM_giveWords cI cZ cL cB q q_draft q_drafted q_counts q_symbols q_lengths q_codes q_often q_row q_number q_group q_bitsOf q_many 0 k_drafts 0 k_total k_size k_place x4 k_symbols k_lengths k_codes)) [0, 6, 7, 8, 9] rfl
      have hDc := hD.sub (ws' := (w_MM_giveWords cI cZ cL cB q q_draft q_drafted q_counts q_symbols q_lengths q_codes q_often q_row q_number q_group q_bitsOf q_many 0 k_drafts 0 k_total k_size k_place x4 k_symbols k_lengths k_codes)) [0, 6, 7, 8, 9] (by decide) rfl
      refine ax_callv (wr := [(q_number, .inl (cI, 257, .inl k_number)), (q_group, .inl (cI, 257, .inl k_group)), (q_bitsOf, .inl (cI, 257, .inl k_bitsOf)), (q_often, .inl (cI, 256, .inl k_often)), (q_many, .inl (cI, 300, .inl k_many))]) (w2 := (w_MM_best cI cZ cL cB q q_draft q_drafted q_counts q_symbols q_lengths q_codes q_often q_row q_number q_group q_bitsOf q_many 0 k_drafts 0 k_total k_size k_place k_number k_group k_bitsOf k_often k_many x4 k_symbols o54 o55)) (va_runV (As := []) (rest := []) ⟨hx, hb, hml, hown, hts⟩ (cc_MM_giveWords l dC dI cI cZ cL cB q q_draft q_drafted q_counts q_symbols q_lengths q_codes q_often q_row q_number q_group q_bitsOf q_many H.size 0 k_drafts 0 k_total k_size k_place x4 k_symbols k_lengths k_codes o54 o55 h56) (cwV 0 hts (tt_V tw_403 tw_404 tw_14 tw_27 tw_405) rfl rfl rfl (by decide +kernel) ⟨Nat.le_of_ble_eq_true rfl, Nat.le_of_ble_eq_true rfl⟩) ⟨kz_fb, va_recv hK hPc (ci := 6) (q0 := 0) rfl rfl, kz_pre hPc hZ hDc⟩ rfl rfl hl.1 rfl (lv_room (Nat.le_of_ble_eq_true rfl)) dMM_best_39 ⟨Nat.zero_le _, Nat.zero_le _⟩) hP hD hS hA [0, 6, 7, 8, 9] [1, 2, 3, 4, 5] [5, 0, 1, 2, 3, 4, 6, 7, 8, 9] rfl rfl (by decide) (by decide) rfl (by decide) (fun H locs hP hD hS => ?_)
      refine lv_lconst (v := 0) hx hb dMM_best_42 (by decide) ?_
      cases hf
      exact ax_lret hx hb hr hP hD hS dMM_best_43 hlocks
  · have hf := ifF hf c_5
    refine lv_aload_n hx hb dMM_best_18 rfl (lv_at hl 0 rfl) ?_
    refine va_get (D := (dC, dI)) (ci := 6) (v := .ref q_counts) (C := RMM) (T := TMM) (N := 18) hx hb hts hi_MM hown hK hP 0 rfl rfl 4 (by decide) (hts _ tw_344) (fun _ h9 => h9) rfl dMM_best_19 ?_
    refine lv_iload_n hx hb dMM_best_22 rfl (lv_at hl 1 rfl) ?_
    refine lv_iconst (v := 0) hx hb dMM_best_23 (by decide) ?_
    obtain ⟨g57, eg57, h58, hf⟩ := wr_some hf
    refine ax_iast hx hb hK hP hD hS 6 0 rfl rfl h58 eg57 dMM_best_24 (ws' := (w_MM_best cI cZ cL cB q q_draft q_drafted q_counts q_symbols q_lengths q_codes q_often q_row q_number q_group q_bitsOf q_many 0 k_drafts 0 k_total k_size k_place k_number k_group k_bitsOf k_often k_many g57 k_symbols k_lengths k_codes)) rfl (fun H locs hP hD hS => ?_)
    refine lv_iinc (v := (x3 + 1)) (lv' := [(1, .int (x3 + 1)), (0, .ref q)]) hx hb dMM_best_25 hl (k := 1) rfl rfl (by decide) rfl (fun ls hl => ?_)
    refine lv_goto (tgt := 12) hx hb dMM_best_28 (by decide) ?_
    exact ih2 (x3 + 1) g57 hf _ _ _ hP hD hS (lv_sub hl [1, 0] rfl)
abbrev wsMM_length : List Cond := Cond.code yMM_length cMM_length 2 (some .int) :: tt
set_option maxHeartbeats 4000000 in
set_option maxRecDepth 100000 in
theorem cc_MM_length (l : Launch) (dC : Nat → ClassId) (dI : Nat → Nat → Nat) (cI cZ cL cB : ClassId) (q q_draft q_drafted q_counts q_symbols q_lengths q_codes q_often q_row q_number q_group q_bitsOf q_many : Nat) (sz : Nat) (k_thrown : Int32) (k_drafts : Int32) (k_words : Int32) (k_total : Int32) (k_size : Int32) (k_place : Int32) (k_lengths : Nat → Int32) (a_0 : Int32) (r : Int32) (o_thrown : Int32) (hf : f_MM_length k_thrown k_drafts k_words k_total k_size k_place k_lengths a_0 = some (r, o_thrown)) : Met l yMM_length wsMM_length ({ frames := 1, cells := 0, slots := 0, locals := 20 }) (va_Pc [.ref q, .int a_0] (kz_P dC dI cI cZ cL cB sz (w_MM_length cI cZ cL cB q q_draft q_drafted q_counts q_symbols q_lengths q_codes q_often q_row q_number q_group q_bitsOf q_many k_thrown k_drafts k_words k_total k_size k_place k_lengths))) (va_Qi (fun (r' : Int32) (_ : Unit) => r' = r) (fun _ t => va_P (dC, dI) vwCl (w_MM_length cI cZ cL cB q q_draft q_drafted q_counts q_symbols q_lengths q_codes q_often q_row q_number q_group q_bitsOf q_many o_thrown k_drafts k_words k_total k_size k_place k_lengths) t.heap ∧ va_D (va_A (w_MM_length cI cZ cL cB q q_draft q_drafted q_counts q_symbols q_lengths q_codes q_often q_row q_number q_group q_bitsOf q_many k_thrown k_drafts k_words k_total k_size k_place k_lengths) sz) (w_MM_length cI cZ cL cB q q_draft q_drafted q_counts q_symbols q_lengths q_codes q_often q_row q_number q_group q_bitsOf q_many o_thrown k_drafts k_words k_total k_size k_place k_lengths)) (va_A (w_MM_length cI cZ cL cB q q_draft q_drafted q_counts q_symbols q_lengths q_codes q_often q_row q_number q_group q_bitsOf q_many k_thrown k_drafts k_words k_total k_size k_place k_lengths) sz)) 0 0 (va_A (w_MM_length cI cZ cL cB q q_draft q_drafted q_counts q_symbols q_lengths q_codes q_often q_row q_number q_group q_bitsOf q_many k_thrown k_drafts k_words k_total k_size k_place k_lengths) sz) := by
  refine Met.ofW (cc := cMM_length) (maxL := 2) (ret := (some .int)) (by decide) rfl ?_
  intro p e s m args below meth c s₁ B hml hv
  obtain ⟨rfl, hsz, hP, hZ, hD0⟩ := hv
  have hK := hZ.1
  have hx := B.exec
  have hb := B.bytes
  have hr := B.returns
  have hts : ∀ w ∈ tt, w.before _ s = true := fun w h => atoms_spec (ws := wsMM_length) B.pre w (List.mem_cons_of_mem _ h)
  have hown : s.vm.findClass RMM = some m.cls := findClass_of_methodNamed B.named
  have hlocks := B.notSynchronized
  subst hsz
  have hD := hD0.self (sz := s.heap.size)
  generalize hAe : va_A (w_MM_length cI cZ cL cB q q_draft q_drafted q_counts q_symbols q_lengths q_codes q_often q_row q_number q_group q_bitsOf q_many k_thrown k_drafts k_words k_total k_size k_place k_lengths) s.heap.size = A at hD ⊢
  have hA : ∀ q : Nat, s.heap.size ≤ q → A q := fun q h => by rw [← hAe]; exact Or.inr h
  have hS : va_S A s.heap s.heap [] := va_S.rf
  have hl := lv_entry [.ref q, .int a_0] (n := 2) (Nat.le_of_ble_eq_true rfl)
  rw [lg_entry_eq]
  generalize (lg_sl [.ref q, .int a_0] ++ List.replicate (2 - (lg_sl [.ref q, .int a_0]).length) Slot.unset).toArray = ls at hl ⊢
  have hl : lv_has ls 2 [(0, .ref q), (1, .int a_0)] := hl
  unfold f_MM_length at hf
  refine lv_aload_n hx hb dMM_length_0 rfl (lv_at hl 0 rfl) ?_
  refine lv_iconst (v := 0) hx hb dMM_length_1 (by decide) ?_
  refine va_put (D := (dC, dI)) (ci := 6) (v := .int 0) (ty := .int) (C := RMM) (T := TMM) (N := 18) hx hb hts hi_MM tyMM tyMM_ok nmMM hown hK hP hD hS 0 rfl rfl 0 (by decide) (hts _ tw_340) (fun _ h9 => h9) rfl (by decide +kernel) rfl rfl (Nat.le_of_ble_eq_true rfl) dMM_length_2 (fun H locs hP hD hS => ?_)
  have hP : va_P (dC, dI) vwCl (w_MM_length cI cZ cL cB q q_draft q_drafted q_counts q_symbols q_lengths q_codes q_often q_row q_number q_group q_bitsOf q_many 0 k_drafts k_words k_total k_size k_place k_lengths) H := hP
  have hD : va_D A (w_MM_length cI cZ cL cB q q_draft q_drafted q_counts q_symbols q_lengths q_codes q_often q_row q_number q_group q_bitsOf q_many 0 k_drafts k_words k_total k_size k_place k_lengths) := hD
  refine lv_iload_n hx hb dMM_length_5 rfl (lv_at hl 1 rfl) ?_
  obtain ⟨r1, h2, hf⟩ := bd1_some hf
  have hPc := hP.sub (ws' := (w_MM_isSymbol cI cZ cL cB )) [] rfl
  have hDc := hD.sub (ws' := (w_MM_isSymbol cI cZ cL cB )) [] (by decide) rfl
  refine ax_calli (wr := [(q, .inr (6, [.int 0, .ref q_draft, .ref q_drafted, .int k_drafts, .ref q_counts, .ref q_symbols, .int k_words, .ref q_lengths, .ref q_codes, .ref q_often, .int k_total, .ref q_row, .int k_size, .int k_place, .ref q_number, .ref q_group, .ref q_bitsOf, .ref q_many])), (q_lengths, .inl (cI, 256, .inl k_lengths))]) (w2 := (w_MM_length cI cZ cL cB q q_draft q_drafted q_counts q_symbols q_lengths q_codes q_often q_row q_number q_group q_bitsOf q_many 0 k_drafts k_words k_total k_size k_place k_lengths)) (va_runS (As := [.int a_0]) (rest := []) ⟨hx, hb, hml, hown, hts⟩ (cc_MM_isSymbol l dC dI cI cZ cL cB  H.size a_0 r1 h2) (va_cwS 1 hts (tt_S tw_388 tw_389 tw_27 tw_390) rfl rfl rfl (by decide +kernel) ⟨Nat.le_of_ble_eq_true rfl, Nat.le_of_ble_eq_true rfl⟩) ⟨kz_fb, kz_pre hPc hZ hDc⟩ rfl rfl hl.1 rfl (lv_room (Nat.le_of_ble_eq_true rfl)) dMM_length_6 ⟨Nat.zero_le _, Nat.zero_le _⟩) hP hD hS hA [] [0, 1] [0, 1] rfl rfl (by decide) (by decide) rfl (by decide) (fun H locs hP hD hS => ?_)
  refine lv_if_eq (tgt := 21) hx hb dMM_length_9 (by decide) (fun c_3 => ?_) (fun c_3 => ?_)
  · have hf := ifT hf c_3
    refine lv_iconst (v := 0) hx hb dMM_length_21 (by decide) ?_
    cases hf
    exact ax_iret hx hb hr hP hD hS dMM_length_22 hlocks
  · have hf := ifF hf c_3
    refine lv_aload_n hx hb dMM_length_12 rfl (lv_at hl 0 rfl) ?_
    refine va_get (D := (dC, dI)) (ci := 6) (v := .ref q_lengths) (C := RMM) (T := TMM) (N := 18) hx hb hts hi_MM hown hK hP 0 rfl rfl 7 (by decide) (hts _ tw_347) (fun _ h9 => h9) rfl dMM_length_13 ?_
    refine lv_iload_n hx hb dMM_length_16 rfl (lv_at hl 1 rfl) ?_
    obtain ⟨v4, ev4, h5, hf⟩ := rd_some hf
    refine ax_iald hx hb hK hP 1 0 rfl rfl h5 ev4 dMM_length_17 ?_
    refine lv_goto (tgt := 22) hx hb dMM_length_18 (by decide) ?_
    cases hf
    exact ax_iret hx hb hr hP hD hS dMM_length_22 hlocks
abbrev wsMM_code : List Cond := Cond.code yMM_code cMM_code 2 (some .int) :: tt
set_option maxHeartbeats 4000000 in
set_option maxRecDepth 100000 in
theorem cc_MM_code (l : Launch) (dC : Nat → ClassId) (dI : Nat → Nat → Nat) (cI cZ cL cB : ClassId) (q q_draft q_drafted q_counts q_symbols q_lengths q_codes q_often q_row q_number q_group q_bitsOf q_many : Nat) (sz : Nat) (k_thrown : Int32) (k_drafts : Int32) (k_words : Int32) (k_total : Int32) (k_size : Int32) (k_place : Int32) (k_lengths : Nat → Int32) (k_codes : Nat → Int32) (a_0 : Int32) (r : Int32) (o_thrown : Int32) (hf : f_MM_code k_thrown k_drafts k_words k_total k_size k_place k_lengths k_codes a_0 = some (r, o_thrown)) : Met l yMM_code wsMM_code ({ frames := 1, cells := 0, slots := 0, locals := 20 }) (va_Pc [.ref q, .int a_0] (kz_P dC dI cI cZ cL cB sz (w_MM_code cI cZ cL cB q q_draft q_drafted q_counts q_symbols q_lengths q_codes q_often q_row q_number q_group q_bitsOf q_many k_thrown k_drafts k_words k_total k_size k_place k_lengths k_codes))) (va_Qi (fun (r' : Int32) (_ : Unit) => r' = r) (fun _ t => va_P (dC, dI) vwCl (w_MM_code cI cZ cL cB q q_draft q_drafted q_counts q_symbols q_lengths q_codes q_often q_row q_number q_group q_bitsOf q_many o_thrown k_drafts k_words k_total k_size k_place k_lengths k_codes) t.heap ∧ va_D (va_A (w_MM_code cI cZ cL cB q q_draft q_drafted q_counts q_symbols q_lengths q_codes q_often q_row q_number q_group q_bitsOf q_many k_thrown k_drafts k_words k_total k_size k_place k_lengths k_codes) sz) (w_MM_code cI cZ cL cB q q_draft q_drafted q_counts q_symbols q_lengths q_codes q_often q_row q_number q_group q_bitsOf q_many o_thrown k_drafts k_words k_total k_size k_place k_lengths k_codes)) (va_A (w_MM_code cI cZ cL cB q q_draft q_drafted q_counts q_symbols q_lengths q_codes q_often q_row q_number q_group q_bitsOf q_many k_thrown k_drafts k_words k_total k_size k_place k_lengths k_codes) sz)) 0 0 (va_A (w_MM_code cI cZ cL cB q q_draft q_drafted q_counts q_symbols q_lengths q_codes q_often q_row q_number q_group q_bitsOf q_many k_thrown k_drafts k_words k_total k_size k_place k_lengths k_codes) sz) := by
  refine Met.ofW (cc := cMM_code) (maxL := 2) (ret := (some .int)) (by decide) rfl ?_
  intro p e s m args below meth c s₁ B hml hv
  obtain ⟨rfl, hsz, hP, hZ, hD0⟩ := hv
  have hK := hZ.1
  have hx := B.exec
  have hb := B.bytes
  have hr := B.returns
  have hts : ∀ w ∈ tt, w.before _ s = true := fun w h => atoms_spec (ws := wsMM_code) B.pre w (List.mem_cons_of_mem _ h)
  have hown : s.vm.findClass RMM = some m.cls := findClass_of_methodNamed B.named
  have hlocks := B.notSynchronized
  subst hsz
  have hD := hD0.self (sz := s.heap.size)
  generalize hAe : va_A (w_MM_code cI cZ cL cB q q_draft q_drafted q_counts q_symbols q_lengths q_codes q_often q_row q_number q_group q_bitsOf q_many k_thrown k_drafts k_words k_total k_size k_place k_lengths k_codes) s.heap.size = A at hD ⊢
  have hA : ∀ q : Nat, s.heap.size ≤ q → A q := fun q h => by rw [← hAe]; exact Or.inr h
  have hS : va_S A s.heap s.heap [] := va_S.rf
  have hl := lv_entry [.ref q, .int a_0] (n := 2) (Nat.le_of_ble_eq_true rfl)
  rw [lg_entry_eq]
  generalize (lg_sl [.ref q, .int a_0] ++ List.replicate (2 - (lg_sl [.ref q, .int a_0]).length) Slot.unset).toArray = ls at hl ⊢
  have hl : lv_has ls 2 [(0, .ref q), (1, .int a_0)] := hl
  unfold f_MM_code at hf
  refine lv_aload_n hx hb dMM_code_0 rfl (lv_at hl 0 rfl) ?_
  refine lv_iconst (v := 0) hx hb dMM_code_1 (by decide) ?_
  refine va_put (D := (dC, dI)) (ci := 6) (v := .int 0) (ty := .int) (C := RMM) (T := TMM) (N := 18) hx hb hts hi_MM tyMM tyMM_ok nmMM hown hK hP hD hS 0 rfl rfl 0 (by decide) (hts _ tw_340) (fun _ h9 => h9) rfl (by decide +kernel) rfl rfl (Nat.le_of_ble_eq_true rfl) dMM_code_2 (fun H locs hP hD hS => ?_)
  have hP : va_P (dC, dI) vwCl (w_MM_code cI cZ cL cB q q_draft q_drafted q_counts q_symbols q_lengths q_codes q_often q_row q_number q_group q_bitsOf q_many 0 k_drafts k_words k_total k_size k_place k_lengths k_codes) H := hP
  have hD : va_D A (w_MM_code cI cZ cL cB q q_draft q_drafted q_counts q_symbols q_lengths q_codes q_often q_row q_number q_group q_bitsOf q_many 0 k_drafts k_words k_total k_size k_place k_lengths k_codes) := hD
  refine lv_iload_n hx hb dMM_code_5 rfl (lv_at hl 1 rfl) ?_
  obtain ⟨r1, h2, hf⟩ := bd1_some hf
  have hPc := hP.sub (ws' := (w_MM_isSymbol cI cZ cL cB )) [] rfl
  have hDc := hD.sub (ws' := (w_MM_isSymbol cI cZ cL cB )) [] (by decide) rfl
  refine ax_calli (wr := [(q, .inr (6, [.int 0, .ref q_draft, .ref q_drafted, .int k_drafts, .ref q_counts, .ref q_symbols, .int k_words, .ref q_lengths, .ref q_codes, .ref q_often, .int k_total, .ref q_row, .int k_size, .int k_place, .ref q_number, .ref q_group, .ref q_bitsOf, .ref q_many])), (q_lengths, .inl (cI, 256, .inl k_lengths)), (q_codes, .inl (cI, 256, .inl k_codes))]) (w2 := (w_MM_code cI cZ cL cB q q_draft q_drafted q_counts q_symbols q_lengths q_codes q_often q_row q_number q_group q_bitsOf q_many 0 k_drafts k_words k_total k_size k_place k_lengths k_codes)) (va_runS (As := [.int a_0]) (rest := []) ⟨hx, hb, hml, hown, hts⟩ (cc_MM_isSymbol l dC dI cI cZ cL cB  H.size a_0 r1 h2) (va_cwS 1 hts (tt_S tw_388 tw_389 tw_27 tw_390) rfl rfl rfl (by decide +kernel) ⟨Nat.le_of_ble_eq_true rfl, Nat.le_of_ble_eq_true rfl⟩) ⟨kz_fb, kz_pre hPc hZ hDc⟩ rfl rfl hl.1 rfl (lv_room (Nat.le_of_ble_eq_true rfl)) dMM_code_6 ⟨Nat.zero_le _, Nat.zero_le _⟩) hP hD hS hA [] [0, 1, 2] [0, 1, 2] rfl rfl (by decide) (by decide) rfl (by decide) (fun H locs hP hD hS => ?_)
  refine lv_if_eq (tgt := 41) hx hb dMM_code_9 (by decide) (fun c_3 => ?_) (fun c_3 => ?_)
  · have hf := ifT hf c_3
    refine lv_iconst (v := (-1)) hx hb dMM_code_41 (by decide) ?_
    cases hf
    exact ax_iret hx hb hr hP hD hS dMM_code_42 hlocks
  · have hf := ifF hf c_3
    refine lv_aload_n hx hb dMM_code_12 rfl (lv_at hl 0 rfl) ?_
    refine va_get (D := (dC, dI)) (ci := 6) (v := .ref q_lengths) (C := RMM) (T := TMM) (N := 18) hx hb hts hi_MM hown hK hP 0 rfl rfl 7 (by decide) (hts _ tw_347) (fun _ h9 => h9) rfl dMM_code_13 ?_
    refine lv_iload_n hx hb dMM_code_16 rfl (lv_at hl 1 rfl) ?_
    obtain ⟨r4, h5, hf⟩ := bd1_some hf
    have hPc := hP.sub (ws' := (w_MM_isSymbol cI cZ cL cB )) [] rfl
    have hDc := hD.sub (ws' := (w_MM_isSymbol cI cZ cL cB )) [] (by decide) rfl
    refine ax_calli (wr := [(q, .inr (6, [.int 0, .ref q_draft, .ref q_drafted, .int k_drafts, .ref q_counts, .ref q_symbols, .int k_words, .ref q_lengths, .ref q_codes, .ref q_often, .int k_total, .ref q_row, .int k_size, .int k_place, .ref q_number, .ref q_group, .ref q_bitsOf, .ref q_many])), (q_lengths, .inl (cI, 256, .inl k_lengths)), (q_codes, .inl (cI, 256, .inl k_codes))]) (w2 := (w_MM_code cI cZ cL cB q q_draft q_drafted q_counts q_symbols q_lengths q_codes q_often q_row q_number q_group q_bitsOf q_many 0 k_drafts k_words k_total k_size k_place k_lengths k_codes)) (va_runS (As := [.int a_0]) (rest := [.ref q_lengths]) ⟨hx, hb, hml, hown, hts⟩ (cc_MM_isSymbol l dC dI cI cZ cL cB  H.size a_0 r4 h5) (va_cwS 1 hts (tt_S tw_388 tw_389 tw_27 tw_390) rfl rfl rfl (by decide +kernel) ⟨Nat.le_of_ble_eq_true rfl, Nat.le_of_ble_eq_true rfl⟩) ⟨kz_fb, kz_pre hPc hZ hDc⟩ rfl rfl hl.1 rfl (lv_room (Nat.le_of_ble_eq_true rfl)) dMM_code_17 ⟨Nat.zero_le _, Nat.zero_le _⟩) hP hD hS hA [] [0, 1, 2] [0, 1, 2] rfl rfl (by decide) (by decide) rfl (by decide) (fun H locs hP hD hS => ?_)
    refine lv_if_eq (tgt := 27) hx hb dMM_code_20 (by decide) (fun c_6 => ?_) (fun c_6 => ?_)
    · have hf := ifT hf c_6
      refine lv_iconst (v := 0) hx hb dMM_code_27 (by decide) ?_
      obtain ⟨v7, ev7, h8, hf⟩ := rd_some hf
      refine ax_iald hx hb hK hP 1 0 rfl rfl h8 ev7 dMM_code_28 ?_
      refine lv_if_le (tgt := 41) hx hb dMM_code_29 (by decide) (fun c_9 => ?_) (fun c_9 => ?_)
      · have hf := ifT hf c_9
        refine lv_iconst (v := (-1)) hx hb dMM_code_41 (by decide) ?_
        cases hf
        exact ax_iret hx hb hr hP hD hS dMM_code_42 hlocks
      · have hf := ifF hf c_9
        refine lv_aload_n hx hb dMM_code_32 rfl (lv_at hl 0 rfl) ?_
        refine va_get (D := (dC, dI)) (ci := 6) (v := .ref q_codes) (C := RMM) (T := TMM) (N := 18) hx hb hts hi_MM hown hK hP 0 rfl rfl 8 (by decide) (hts _ tw_348) (fun _ h9 => h9) rfl dMM_code_33 ?_
        refine lv_iload_n hx hb dMM_code_36 rfl (lv_at hl 1 rfl) ?_
        obtain ⟨v10, ev10, h11, hf⟩ := rd_some hf
        refine ax_iald hx hb hK hP 2 0 rfl rfl h11 ev10 dMM_code_37 ?_
        refine lv_goto (tgt := 42) hx hb dMM_code_38 (by decide) ?_
        cases hf
        exact ax_iret hx hb hr hP hD hS dMM_code_42 hlocks
    · have hf := ifF hf c_6
      refine lv_iload_n hx hb dMM_code_23 rfl (lv_at hl 1 rfl) ?_
      refine lv_goto (tgt := 28) hx hb dMM_code_24 (by decide) ?_
      obtain ⟨v12, ev12, h13, hf⟩ := rd_some hf
      refine ax_iald hx hb hK hP 1 0 rfl rfl h13 ev12 dMM_code_28 ?_
      refine lv_if_le (tgt := 41) hx hb dMM_code_29 (by decide) (fun c_14 => ?_) (fun c_14 => ?_)
      · have hf := ifT hf c_14
        refine lv_iconst (v := (-1)) hx hb dMM_code_41 (by decide) ?_
        cases hf
        exact ax_iret hx hb hr hP hD hS dMM_code_42 hlocks
      · have hf := ifF hf c_14
        refine lv_aload_n hx hb dMM_code_32 rfl (lv_at hl 0 rfl) ?_
        refine va_get (D := (dC, dI)) (ci := 6) (v := .ref q_codes) (C := RMM) (T := TMM) (N := 18) hx hb hts hi_MM hown hK hP 0 rfl rfl 8 (by decide) (hts _ tw_348) (fun _ h9 => h9) rfl dMM_code_33 ?_
        refine lv_iload_n hx hb dMM_code_36 rfl (lv_at hl 1 rfl) ?_
        obtain ⟨v15, ev15, h16, hf⟩ := rd_some hf
        refine ax_iald hx hb hK hP 2 0 rfl rfl h16 ev15 dMM_code_37 ?_
        refine lv_goto (tgt := 42) hx hb dMM_code_38 (by decide) ?_
        cases hf
        exact ax_iret hx hb hr hP hD hS dMM_code_42 hlocks
abbrev wsMM_of : List Cond := Cond.code yMM_of cMM_of 3 (some .int) :: tt
set_option maxHeartbeats 4000000 in
set_option maxRecDepth 100000 in
theorem cc_MM_of (l : Launch) (dC : Nat → ClassId) (dI : Nat → Nat → Nat) (cI cZ cL cB : ClassId) (q q_draft q_drafted q_counts q_symbols q_lengths q_codes q_often q_row q_number q_group q_bitsOf q_many : Nat) (sz : Nat) (k_thrown : Int32) (k_drafts : Int32) (k_words : Int32) (k_total : Int32) (k_size : Int32) (k_place : Int32) (k_symbols : Nat → Int32) (k_counts : Nat → Int32) (a_0 : Int32) (a_1 : Int32) (r : Int32) (o_thrown : Int32) (hf : f_MM_of k_thrown k_drafts k_words k_total k_size k_place k_symbols k_counts a_0 a_1 = some (r, o_thrown)) : Met l yMM_of wsMM_of ({ frames := 0, cells := 0, slots := 0, locals := 0 }) (va_Pc [.ref q, .int a_0, .int a_1] (kz_P dC dI cI cZ cL cB sz (w_MM_of cI cZ cL cB q q_draft q_drafted q_counts q_symbols q_lengths q_codes q_often q_row q_number q_group q_bitsOf q_many k_thrown k_drafts k_words k_total k_size k_place k_symbols k_counts))) (va_Qi (fun (r' : Int32) (_ : Unit) => r' = r) (fun _ t => va_P (dC, dI) vwCl (w_MM_of cI cZ cL cB q q_draft q_drafted q_counts q_symbols q_lengths q_codes q_often q_row q_number q_group q_bitsOf q_many o_thrown k_drafts k_words k_total k_size k_place k_symbols k_counts) t.heap ∧ va_D (va_A (w_MM_of cI cZ cL cB q q_draft q_drafted q_counts q_symbols q_lengths q_codes q_often q_row q_number q_group q_bitsOf q_many k_thrown k_drafts k_words k_total k_size k_place k_symbols k_counts) sz) (w_MM_of cI cZ cL cB q q_draft q_drafted q_counts q_symbols q_lengths q_codes q_often q_row q_number q_group q_bitsOf q_many o_thrown k_drafts k_words k_total k_size k_place k_symbols k_counts)) (va_A (w_MM_of cI cZ cL cB q q_draft q_drafted q_counts q_symbols q_lengths q_codes q_often q_row q_number q_group q_bitsOf q_many k_thrown k_drafts k_words k_total k_size k_place k_symbols k_counts) sz)) 0 0 (va_A (w_MM_of cI cZ cL cB q q_draft q_drafted q_counts q_symbols q_lengths q_codes q_often q_row q_number q_group q_bitsOf q_many k_thrown k_drafts k_words k_total k_size k_place k_symbols k_counts) sz) := by
  refine Met.ofW (cc := cMM_of) (maxL := 3) (ret := (some .int)) (by decide) rfl ?_
  intro p e s m args below meth c s₁ B hml hv
  obtain ⟨rfl, hsz, hP, hZ, hD0⟩ := hv
  have hK := hZ.1
  have hx := B.exec
  have hb := B.bytes
  have hr := B.returns
  have hts : ∀ w ∈ tt, w.before _ s = true := fun w h => atoms_spec (ws := wsMM_of) B.pre w (List.mem_cons_of_mem _ h)
  have hown : s.vm.findClass RMM = some m.cls := findClass_of_methodNamed B.named
  have hlocks := B.notSynchronized
  subst hsz
  have hD := hD0.self (sz := s.heap.size)
  generalize hAe : va_A (w_MM_of cI cZ cL cB q q_draft q_drafted q_counts q_symbols q_lengths q_codes q_often q_row q_number q_group q_bitsOf q_many k_thrown k_drafts k_words k_total k_size k_place k_symbols k_counts) s.heap.size = A at hD ⊢
  have hA : ∀ q : Nat, s.heap.size ≤ q → A q := fun q h => by rw [← hAe]; exact Or.inr h
  have hS : va_S A s.heap s.heap [] := va_S.rf
  have hl := lv_entry [.ref q, .int a_0, .int a_1] (n := 3) (Nat.le_of_ble_eq_true rfl)
  rw [lg_entry_eq]
  generalize (lg_sl [.ref q, .int a_0, .int a_1] ++ List.replicate (3 - (lg_sl [.ref q, .int a_0, .int a_1]).length) Slot.unset).toArray = ls at hl ⊢
  have hl : lv_has ls 3 [(0, .ref q), (1, .int a_0), (2, .int a_1)] := hl
  unfold f_MM_of at hf
  refine lv_aload_n hx hb dMM_of_0 rfl (lv_at hl 0 rfl) ?_
  refine lv_iconst (v := 0) hx hb dMM_of_1 (by decide) ?_
  refine va_put (D := (dC, dI)) (ci := 6) (v := .int 0) (ty := .int) (C := RMM) (T := TMM) (N := 18) hx hb hts hi_MM tyMM tyMM_ok nmMM hown hK hP hD hS 0 rfl rfl 0 (by decide) (hts _ tw_340) (fun _ h9 => h9) rfl (by decide +kernel) rfl rfl (Nat.le_of_ble_eq_true rfl) dMM_of_2 (fun H locs hP hD hS => ?_)
  have hP : va_P (dC, dI) vwCl (w_MM_of cI cZ cL cB q q_draft q_drafted q_counts q_symbols q_lengths q_codes q_often q_row q_number q_group q_bitsOf q_many 0 k_drafts k_words k_total k_size k_place k_symbols k_counts) H := hP
  have hD : va_D A (w_MM_of cI cZ cL cB q q_draft q_drafted q_counts q_symbols q_lengths q_codes q_often q_row q_number q_group q_bitsOf q_many 0 k_drafts k_words k_total k_size k_place k_symbols k_counts) := hD
  refine lv_iload_n hx hb dMM_of_5 rfl (lv_at hl 1 rfl) ?_
  refine lv_if_ne (tgt := 27) hx hb dMM_of_6 (by decide) (fun c_1 => ?_) (fun c_1 => ?_)
  · have hf := ifF hf c_1
    refine lv_iload_n hx hb dMM_of_27 rfl (lv_at hl 1 rfl) ?_
    refine lv_iconst (v := 1) hx hb dMM_of_28 (by decide) ?_
    refine lv_icmp_ne (tgt := 53) hx hb dMM_of_29 (by decide) (fun c_2 => ?_) (fun c_2 => ?_)
    · have hf := ifF hf c_2
      refine lv_iconst (v := (-1)) hx hb dMM_of_53 (by decide) ?_
      cases hf
      exact ax_iret hx hb hr hP hD hS dMM_of_54 hlocks
    · have hf := ifT hf c_2
      refine lv_iload_n hx hb dMM_of_32 rfl (lv_at hl 2 rfl) ?_
      refine lv_if_lt (tgt := 53) hx hb dMM_of_33 (by decide) (fun c_3 => ?_) (fun c_3 => ?_)
      · have hf := ifT hf c_3
        refine lv_iconst (v := (-1)) hx hb dMM_of_53 (by decide) ?_
        cases hf
        exact ax_iret hx hb hr hP hD hS dMM_of_54 hlocks
      · have hf := ifF hf c_3
        refine lv_iload_n hx hb dMM_of_36 rfl (lv_at hl 2 rfl) ?_
        refine lv_aload_n hx hb dMM_of_37 rfl (lv_at hl 0 rfl) ?_
        refine va_get (D := (dC, dI)) (ci := 6) (v := .int k_words) (C := RMM) (T := TMM) (N := 18) hx hb hts hi_MM hown hK hP 0 rfl rfl 6 (by decide) (hts _ tw_346) (fun _ h9 => h9) rfl dMM_of_38 ?_
        refine lv_icmp_ge (tgt := 53) hx hb dMM_of_41 (by decide) (fun c_4 => ?_) (fun c_4 => ?_)
        · have hf := ifT hf c_4
          refine lv_iconst (v := (-1)) hx hb dMM_of_53 (by decide) ?_
          cases hf
          exact ax_iret hx hb hr hP hD hS dMM_of_54 hlocks
        · have hf := ifF hf c_4
          refine lv_aload_n hx hb dMM_of_44 rfl (lv_at hl 0 rfl) ?_
          refine va_get (D := (dC, dI)) (ci := 6) (v := .ref q_symbols) (C := RMM) (T := TMM) (N := 18) hx hb hts hi_MM hown hK hP 0 rfl rfl 5 (by decide) (hts _ tw_345) (fun _ h9 => h9) rfl dMM_of_45 ?_
          refine lv_iload_n hx hb dMM_of_48 rfl (lv_at hl 2 rfl) ?_
          obtain ⟨v5, ev5, h6, hf⟩ := rd_some hf
          refine ax_iald hx hb hK hP 1 0 rfl rfl h6 ev5 dMM_of_49 ?_
          refine lv_goto (tgt := 54) hx hb dMM_of_50 (by decide) ?_
          cases hf
          exact ax_iret hx hb hr hP hD hS dMM_of_54 hlocks
  · have hf := ifT hf c_1
    refine lv_iload_n hx hb dMM_of_9 rfl (lv_at hl 2 rfl) ?_
    refine lv_iconst (v := 1) hx hb dMM_of_10 (by decide) ?_
    refine lv_icmp_lt (tgt := 27) hx hb dMM_of_11 (by decide) (fun c_7 => ?_) (fun c_7 => ?_)
    · have hf := ifT hf c_7
      refine lv_iload_n hx hb dMM_of_27 rfl (lv_at hl 1 rfl) ?_
      refine lv_iconst (v := 1) hx hb dMM_of_28 (by decide) ?_
      refine lv_icmp_ne (tgt := 53) hx hb dMM_of_29 (by decide) (fun c_8 => ?_) (fun c_8 => ?_)
      · have hf := ifF hf c_8
        refine lv_iconst (v := (-1)) hx hb dMM_of_53 (by decide) ?_
        cases hf
        exact ax_iret hx hb hr hP hD hS dMM_of_54 hlocks
      · have hf := ifT hf c_8
        refine lv_iload_n hx hb dMM_of_32 rfl (lv_at hl 2 rfl) ?_
        refine lv_if_lt (tgt := 53) hx hb dMM_of_33 (by decide) (fun c_9 => ?_) (fun c_9 => ?_)
        · have hf := ifT hf c_9
          refine lv_iconst (v := (-1)) hx hb dMM_of_53 (by decide) ?_
          cases hf
          exact ax_iret hx hb hr hP hD hS dMM_of_54 hlocks
        · have hf := ifF hf c_9
          refine lv_iload_n hx hb dMM_of_36 rfl (lv_at hl 2 rfl) ?_
          refine lv_aload_n hx hb dMM_of_37 rfl (lv_at hl 0 rfl) ?_
          refine va_get (D := (dC, dI)) (ci := 6) (v := .int k_words) (C := RMM) (T := TMM) (N := 18) hx hb hts hi_MM hown hK hP 0 rfl rfl 6 (by decide) (hts _ tw_346) (fun _ h9 => h9) rfl dMM_of_38 ?_
          refine lv_icmp_ge (tgt := 53) hx hb dMM_of_41 (by decide) (fun c_10 => ?_) (fun c_10 => ?_)
          · have hf := ifT hf c_10
            refine lv_iconst (v := (-1)) hx hb dMM_of_53 (by decide) ?_
            cases hf
            exact ax_iret hx hb hr hP hD hS dMM_of_54 hlocks
          · have hf := ifF hf c_10
            refine lv_aload_n hx hb dMM_of_44 rfl (lv_at hl 0 rfl) ?_
            refine va_get (D := (dC, dI)) (ci := 6) (v := .ref q_symbols) (C := RMM) (T := TMM) (N := 18) hx hb hts hi_MM hown hK hP 0 rfl rfl 5 (by decide) (hts _ tw_345) (fun _ h9 => h9) rfl dMM_of_45 ?_
            refine lv_iload_n hx hb dMM_of_48 rfl (lv_at hl 2 rfl) ?_
            obtain ⟨v11, ev11, h12, hf⟩ := rd_some hf
            refine ax_iald hx hb hK hP 1 0 rfl rfl h12 ev11 dMM_of_49 ?_
            refine lv_goto (tgt := 54) hx hb dMM_of_50 (by decide) ?_
            cases hf
            exact ax_iret hx hb hr hP hD hS dMM_of_54 hlocks
    · have hf := ifF hf c_7
      refine lv_iload_n hx hb dMM_of_14 rfl (lv_at hl 2 rfl) ?_
      refine lv_bipush (v := 16) hx hb dMM_of_15 (by decide) ?_
      refine lv_icmp_gt (tgt := 27) hx hb dMM_of_17 (by decide) (fun c_13 => ?_) (fun c_13 => ?_)
      · have hf := ifT hf c_13
        refine lv_iload_n hx hb dMM_of_27 rfl (lv_at hl 1 rfl) ?_
        refine lv_iconst (v := 1) hx hb dMM_of_28 (by decide) ?_
        refine lv_icmp_ne (tgt := 53) hx hb dMM_of_29 (by decide) (fun c_14 => ?_) (fun c_14 => ?_)
        · have hf := ifF hf c_14
          refine lv_iconst (v := (-1)) hx hb dMM_of_53 (by decide) ?_
          cases hf
          exact ax_iret hx hb hr hP hD hS dMM_of_54 hlocks
        · have hf := ifT hf c_14
          refine lv_iload_n hx hb dMM_of_32 rfl (lv_at hl 2 rfl) ?_
          refine lv_if_lt (tgt := 53) hx hb dMM_of_33 (by decide) (fun c_15 => ?_) (fun c_15 => ?_)
          · have hf := ifT hf c_15
            refine lv_iconst (v := (-1)) hx hb dMM_of_53 (by decide) ?_
            cases hf
            exact ax_iret hx hb hr hP hD hS dMM_of_54 hlocks
          · have hf := ifF hf c_15
            refine lv_iload_n hx hb dMM_of_36 rfl (lv_at hl 2 rfl) ?_
            refine lv_aload_n hx hb dMM_of_37 rfl (lv_at hl 0 rfl) ?_
            refine va_get (D := (dC, dI)) (ci := 6) (v := .int k_words) (C := RMM) (T := TMM) (N := 18) hx hb hts hi_MM hown hK hP 0 rfl rfl 6 (by decide) (hts _ tw_346) (fun _ h9 => h9) rfl dMM_of_38 ?_
            refine lv_icmp_ge (tgt := 53) hx hb dMM_of_41 (by decide) (fun c_16 => ?_) (fun c_16 => ?_)
            · have hf := ifT hf c_16
              refine lv_iconst (v := (-1)) hx hb dMM_of_53 (by decide) ?_
              cases hf
              exact ax_iret hx hb hr hP hD hS dMM_of_54 hlocks
            · have hf := ifF hf c_16
              refine lv_aload_n hx hb dMM_of_44 rfl (lv_at hl 0 rfl) ?_
              refine va_get (D := (dC, dI)) (ci := 6) (v := .ref q_symbols) (C := RMM) (T := TMM) (N := 18) hx hb hts hi_MM hown hK hP 0 rfl rfl 5 (by decide) (hts _ tw_345) (fun _ h9 => h9) rfl dMM_of_45 ?_
              refine lv_iload_n hx hb dMM_of_48 rfl (lv_at hl 2 rfl) ?_
              obtain ⟨v17, ev17, h18, hf⟩ := rd_some hf
              refine ax_iald hx hb hK hP 1 0 rfl rfl h18 ev17 dMM_of_49 ?_
              refine lv_goto (tgt := 54) hx hb dMM_of_50 (by decide) ?_
              cases hf
              exact ax_iret hx hb hr hP hD hS dMM_of_54 hlocks
      · have hf := ifF hf c_13
        refine lv_aload_n hx hb dMM_of_20 rfl (lv_at hl 0 rfl) ?_
        refine va_get (D := (dC, dI)) (ci := 6) (v := .ref q_counts) (C := RMM) (T := TMM) (N := 18) hx hb hts hi_MM hown hK hP 0 rfl rfl 4 (by decide) (hts _ tw_344) (fun _ h9 => h9) rfl dMM_of_21 ?_
        refine lv_iload_n hx hb dMM_of_24 rfl (lv_at hl 2 rfl) ?_
        obtain ⟨v19, ev19, h20, hf⟩ := rd_some hf
        refine ax_iald hx hb hK hP 2 0 rfl rfl h20 ev19 dMM_of_25 ?_
        cases hf
        exact ax_iret hx hb hr hP hD hS dMM_of_26 hlocks
