abbrev wsMM_join : List Cond := Cond.code yMM_join cMM_join 4 none :: tt
set_option maxHeartbeats 4000000 in
set_option maxRecDepth 100000 in
theorem cc_MM_join (l : Launch) (dC : Nat → ClassId) (dI : Nat → Nat → Nat) (cI cZ cL cB : ClassId) (q q_draft q_drafted q_counts q_symbols q_lengths q_codes q_often q_row q_number q_group q_bitsOf q_many : Nat) (sz : Nat) (k_thrown : Int32) (k_drafts : Int32) (k_words : Int32) (k_total : Int32) (k_size : Int32) (k_place : Int32) (k_number : Nat → Int32) (k_group : Nat → Int32) (k_bitsOf : Nat → Int32) (k_often : Nat → Int32) (o_number : Nat → Int32) (o_group : Nat → Int32) (o_bitsOf : Nat → Int32) (hf : f_MM_join k_thrown k_drafts k_words k_total k_size k_place k_number k_group k_bitsOf k_often = some (o_number, o_group, o_bitsOf)) : Met l yMM_join wsMM_join ({ frames := 1, cells := 0, slots := 0, locals := 23 }) (va_Pc [.ref q] (kz_P dC dI cI cZ cL cB sz (w_MM_join cI cZ cL cB q q_draft q_drafted q_counts q_symbols q_lengths q_codes q_often q_row q_number q_group q_bitsOf q_many k_thrown k_drafts k_words k_total k_size k_place k_number k_group k_bitsOf k_often))) (va_Qv (fun (_ : Unit) => True) (fun _ t => va_P (dC, dI) vwCl (w_MM_join cI cZ cL cB q q_draft q_drafted q_counts q_symbols q_lengths q_codes q_often q_row q_number q_group q_bitsOf q_many k_thrown k_drafts k_words k_total k_size k_place o_number o_group o_bitsOf k_often) t.heap ∧ va_D (va_A (w_MM_join cI cZ cL cB q q_draft q_drafted q_counts q_symbols q_lengths q_codes q_often q_row q_number q_group q_bitsOf q_many k_thrown k_drafts k_words k_total k_size k_place k_number k_group k_bitsOf k_often) sz) (w_MM_join cI cZ cL cB q q_draft q_drafted q_counts q_symbols q_lengths q_codes q_often q_row q_number q_group q_bitsOf q_many k_thrown k_drafts k_words k_total k_size k_place o_number o_group o_bitsOf k_often)) (va_A (w_MM_join cI cZ cL cB q q_draft q_drafted q_counts q_symbols q_lengths q_codes q_often q_row q_number q_group q_bitsOf q_many k_thrown k_drafts k_words k_total k_size k_place k_number k_group k_bitsOf k_often) sz)) 0 0 (va_A (w_MM_join cI cZ cL cB q q_draft q_drafted q_counts q_symbols q_lengths q_codes q_often q_row q_number q_group q_bitsOf q_many k_thrown k_drafts k_words k_total k_size k_place k_number k_group k_bitsOf k_often) sz) := by
  refine Met.ofW (cc := cMM_join) (maxL := 4) (ret := none) (by decide) rfl ?_
  intro p e s m args below meth c s₁ B hml hv
  obtain ⟨rfl, hsz, hP, hZ, hD0⟩ := hv
  have hK := hZ.1
  have hx := B.exec
  have hb := B.bytes
  have hr := B.returns
  have hts : ∀ w ∈ tt, w.before _ s = true := fun w h => atoms_spec (ws := wsMM_join) B.pre w (List.mem_cons_of_mem _ h)
  have hown : s.vm.findClass RMM = some m.cls := findClass_of_methodNamed B.named
  have hlocks := B.notSynchronized
  subst hsz
  have hD := hD0.self (sz := s.heap.size)
  generalize hAe : va_A (w_MM_join cI cZ cL cB q q_draft q_drafted q_counts q_symbols q_lengths q_codes q_often q_row q_number q_group q_bitsOf q_many k_thrown k_drafts k_words k_total k_size k_place k_number k_group k_bitsOf k_often) s.heap.size = A at hD ⊢
  have hA : ∀ q : Nat, s.heap.size ≤ q → A q := fun q h => by rw [← hAe]; exact Or.inr h
  have hS : va_S A s.heap s.heap [] := va_S.rf
  have hl := lv_entry [.ref q] (n := 4) (Nat.le_of_ble_eq_true rfl)
  rw [lg_entry_eq]
  generalize (lg_sl [.ref q] ++ List.replicate (4 - (lg_sl [.ref q]).length) Slot.unset).toArray = ls at hl ⊢
  have hl : lv_has ls 4 [(0, .ref q)] := hl
  unfold f_MM_join at hf
  refine lv_iconst (v := 0) hx hb dMM_join_0 (by decide) ?_
  refine lv_istore_n (lv' := [(1, .int 0), (0, .ref q)]) hx hb dMM_join_1 rfl hl (by decide) rfl (fun ls hl => ?_)
  refine Lp4_W (P := fun (x3 : Int32) (x4 : Nat → Int32) (x5 : Nat → Int32) (x6 : Nat → Int32) => ∀ (H : Heap) (locs : List Loc) (ls : Array Slot), va_P (dC, dI) vwCl (w_MM_join cI cZ cL cB q q_draft q_drafted q_counts q_symbols q_lengths q_codes q_often q_row q_number q_group q_bitsOf q_many k_thrown k_drafts k_words k_total k_size k_place x6 x5 x4 k_often) H → va_D A (w_MM_join cI cZ cL cB q q_draft q_drafted q_counts q_symbols q_lengths q_codes q_often q_row q_number q_group q_bitsOf q_many k_thrown k_drafts k_words k_total k_size k_place x6 x5 x4 k_often) → va_S A s.heap H locs → lv_has ls 4 [(0, .ref q), (1, .int x3)] → W p l e _ s m _ below meth c H locs 0 0 _ (F0 m 2 ls [])) ?_ _ _ _ _ _ hf _ _ _ hP hD hS (lv_sub hl [1, 0] rfl)
  clear hf hP hD hS hl
  intro ag1 ih2 x3 x4 x5 x6 hf H locs ls hP hD hS hl
  refine lv_iload_n hx hb dMM_join_2 rfl (lv_at hl 1 rfl) ?_
  refine lv_sipush (v := 256) hx hb dMM_join_3 (by decide) ?_
  refine lv_icmp_gt (tgt := 52) hx hb dMM_join_6 (by decide) (fun c_7 => ?_) (fun c_7 => ?_)
  · have hf := ifT hf c_7
    refine lv_aload_n hx hb dMM_join_52 rfl (lv_at hl 0 rfl) ?_
    refine lv_iconst (v := (-1)) hx hb dMM_join_53 (by decide) ?_
    obtain ⟨r8, h9, hf⟩ := bd1_some hf
    have hPc := hP.sub (ws' := (w_MM_least cI cZ cL cB q q_draft q_drafted q_counts q_symbols q_lengths q_codes q_often q_row q_number q_group q_bitsOf q_many k_thrown k_drafts k_words k_total k_size k_place x6)) [0, 1] rfl
    have hDc := hD.sub (ws' := (w_MM_least cI cZ cL cB q q_draft q_drafted q_counts q_symbols q_lengths q_codes q_often q_row q_number q_group q_bitsOf q_many k_thrown k_drafts k_words k_total k_size k_place x6)) [0, 1] (by decide) rfl
    refine ax_calli (wr := [(q_group, .inl (cI, 257, .inl x5)), (q_bitsOf, .inl (cI, 257, .inl x4)), (q_often, .inl (cI, 256, .inl k_often))]) (w2 := (w_MM_join cI cZ cL cB q q_draft q_drafted q_counts q_symbols q_lengths q_codes q_often q_row q_number q_group q_bitsOf q_many k_thrown k_drafts k_words k_total k_size k_place x6 x5 x4 k_often)) (va_runV (As := [.int (-1)]) (rest := []) ⟨hx, hb, hml, hown, hts⟩ (cc_MM_least l dC dI cI cZ cL cB q q_draft q_drafted q_counts q_symbols q_lengths q_codes q_often q_row q_number q_group q_bitsOf q_many H.size k_thrown k_drafts k_words k_total k_size k_place x6 (-1) r8 h9) (cwV 1 hts (tt_V tw_422 tw_423 tw_16 tw_27 tw_424) rfl rfl rfl (by decide +kernel) ⟨Nat.le_of_ble_eq_true rfl, Nat.le_of_ble_eq_true rfl⟩) ⟨kz_fb, va_recv hK hPc (ci := 6) (q0 := 0) rfl rfl, kz_pre hPc hZ hDc⟩ rfl rfl hl.1 rfl (lv_room (Nat.le_of_ble_eq_true rfl)) dMM_join_54 ⟨Nat.zero_le _, Nat.zero_le _⟩) hP hD hS hA [0, 1] [2, 3, 4] [3, 4, 0, 1, 2] rfl rfl (by decide) (by decide) rfl (by decide) (fun H locs hP hD hS => ?_)
    refine lv_istore_n (lv' := [(1, .int r8), (0, .ref q)]) hx hb dMM_join_57 rfl hl (by decide) rfl (fun ls hl => ?_)
    refine lv_aload_n hx hb dMM_join_58 rfl (lv_at hl 1 rfl) ?_
    refine lv_iload_n hx hb dMM_join_59 rfl (lv_at hl 0 rfl) ?_
    obtain ⟨r10, h11, hf⟩ := bd1_some hf
    have hPc := hP.sub (ws' := (w_MM_least cI cZ cL cB q q_draft q_drafted q_counts q_symbols q_lengths q_codes q_often q_row q_number q_group q_bitsOf q_many k_thrown k_drafts k_words k_total k_size k_place x6)) [0, 1] rfl
    have hDc := hD.sub (ws' := (w_MM_least cI cZ cL cB q q_draft q_drafted q_counts q_symbols q_lengths q_codes q_often q_row q_number q_group q_bitsOf q_many k_thrown k_drafts k_words k_total k_size k_place x6)) [0, 1] (by decide) rfl
    refine ax_calli (wr := [(q_group, .inl (cI, 257, .inl x5)), (q_bitsOf, .inl (cI, 257, .inl x4)), (q_often, .inl (cI, 256, .inl k_often))]) (w2 := (w_MM_join cI cZ cL cB q q_draft q_drafted q_counts q_symbols q_lengths q_codes q_often q_row q_number q_group q_bitsOf q_many k_thrown k_drafts k_words k_total k_size k_place x6 x5 x4 k_often)) (va_runV (As := [.int r8]) (rest := []) ⟨hx, hb, hml, hown, hts⟩ (cc_MM_least l dC dI cI cZ cL cB q q_draft q_drafted q_counts q_symbols q_lengths q_codes q_often q_row q_number q_group q_bitsOf q_many H.size k_thrown k_drafts k_words k_total k_size k_place x6 r8 r10 h11) (cwV 1 hts (tt_V tw_422 tw_423 tw_16 tw_27 tw_424) rfl rfl rfl (by decide +kernel) ⟨Nat.le_of_ble_eq_true rfl, Nat.le_of_ble_eq_true rfl⟩) ⟨kz_fb, va_recv hK hPc (ci := 6) (q0 := 0) rfl rfl, kz_pre hPc hZ hDc⟩ rfl rfl hl.1 rfl (lv_room (Nat.le_of_ble_eq_true rfl)) dMM_join_60 ⟨Nat.zero_le _, Nat.zero_le _⟩) hP hD hS hA [0, 1] [2, 3, 4] [3, 4, 0, 1, 2] rfl rfl (by decide) (by decide) rfl (by decide) (fun H locs hP hD hS => ?_)
    refine lv_istore_n (lv' := [(2, .int r10), (1, .int r8), (0, .ref q)]) hx hb dMM_join_63 rfl hl (by decide) rfl (fun ls hl => ?_)
    refine Lp5_W (P := fun (x14 : Int32) (x15 : Int32) (x16 : Nat → Int32) (x17 : Nat → Int32) (x18 : Nat → Int32) => ∀ (H : Heap) (locs : List Loc) (ls : Array Slot), va_P (dC, dI) vwCl (w_MM_join cI cZ cL cB q q_draft q_drafted q_counts q_symbols q_lengths q_codes q_often q_row q_number q_group q_bitsOf q_many k_thrown k_drafts k_words k_total k_size k_place x18 x17 x16 k_often) H → va_D A (w_MM_join cI cZ cL cB q q_draft q_drafted q_counts q_symbols q_lengths q_codes q_often q_row q_number q_group q_bitsOf q_many k_thrown k_drafts k_words k_total k_size k_place x18 x17 x16 k_often) → va_S A s.heap H locs → lv_has ls 4 [(0, .ref q), (1, .int x14), (2, .int x15)] → W p l e _ s m _ below meth c H locs 0 0 _ (F0 m 64 ls [])) ?_ _ _ _ _ _ _ hf _ _ _ hP hD hS (lv_sub hl [2, 1, 0] rfl)
    clear hf hP hD hS hl
    intro ag12 ih13 x14 x15 x16 x17 x18 hf H locs ls hP hD hS hl
    refine lv_iload_n hx hb dMM_join_64 rfl (lv_at hl 2 rfl) ?_
    refine lv_if_lt (tgt := 157) hx hb dMM_join_65 (by decide) (fun c_19 => ?_) (fun c_19 => ?_)
    · have hf := ifT hf c_19
      cases hf
      exact ax_vret hx hb hr hP hD hS dMM_join_157 hlocks
    · have hf := ifF hf c_19
      refine lv_iconst (v := 0) hx hb dMM_join_68 (by decide) ?_
      refine lv_istore_n (lv' := [(3, .int 0), (0, .ref q), (1, .int x14), (2, .int x15)]) hx hb dMM_join_69 rfl hl (by decide) rfl (fun ls hl => ?_)
      refine Lp3_W (P := fun (x22 : Int32) (x23 : Nat → Int32) (x24 : Nat → Int32) => ∀ (H : Heap) (locs : List Loc) (ls : Array Slot), va_P (dC, dI) vwCl (w_MM_join cI cZ cL cB q q_draft q_drafted q_counts q_symbols q_lengths q_codes q_often q_row q_number q_group q_bitsOf q_many k_thrown k_drafts k_words k_total k_size k_place x18 x24 x23 k_often) H → va_D A (w_MM_join cI cZ cL cB q q_draft q_drafted q_counts q_symbols q_lengths q_codes q_often q_row q_number q_group q_bitsOf q_many k_thrown k_drafts k_words k_total k_size k_place x18 x24 x23 k_often) → va_S A s.heap H locs → lv_has ls 4 [(0, .ref q), (1, .int x14), (2, .int x15), (3, .int x22)] → W p l e _ s m _ below meth c H locs 0 0 _ (F0 m 70 ls [])) ?_ _ _ _ _ hf _ _ _ hP hD hS (lv_sub hl [1, 2, 3, 0] rfl)
      clear hf hP hD hS hl
      intro ag20 ih21 x22 x23 x24 hf H locs ls hP hD hS hl
      refine lv_iload_n hx hb dMM_join_70 rfl (lv_at hl 3 rfl) ?_
      refine lv_sipush (v := 256) hx hb dMM_join_71 (by decide) ?_
      refine lv_icmp_gt (tgt := 120) hx hb dMM_join_74 (by decide) (fun c_25 => ?_) (fun c_25 => ?_)
      · have hf := ifT hf c_25
        refine lv_aload_n hx hb dMM_join_120 rfl (lv_at hl 0 rfl) ?_
        refine va_get (D := (dC, dI)) (ci := 6) (v := .ref q_number) (C := RMM) (T := TMM) (N := 18) hx hb hts hi_MM hown hK hP 0 rfl rfl 14 (by decide) (hts _ tw_354) (fun _ h9 => h9) rfl dMM_join_121 ?_
        refine lv_iload_n hx hb dMM_join_124 rfl (lv_at hl 1 rfl) ?_
        refine lv_dup2_11 hx hb dMM_join_125 rfl rfl ?_
        obtain ⟨v26, ev26, h27, hf⟩ := rd_some hf
        refine ax_iald hx hb hK hP 1 0 rfl rfl h27 ev26 dMM_join_126 ?_
        refine lv_aload_n hx hb dMM_join_127 rfl (lv_at hl 0 rfl) ?_
        refine va_get (D := (dC, dI)) (ci := 6) (v := .ref q_number) (C := RMM) (T := TMM) (N := 18) hx hb hts hi_MM hown hK hP 0 rfl rfl 14 (by decide) (hts _ tw_354) (fun _ h9 => h9) rfl dMM_join_128 ?_
        refine lv_iload_n hx hb dMM_join_131 rfl (lv_at hl 2 rfl) ?_
        obtain ⟨v28, ev28, h29, hf⟩ := rd_some hf
        refine ax_iald hx hb hK hP 1 0 rfl rfl h29 ev28 dMM_join_132 ?_
        refine lv_iadd hx hb dMM_join_133 ?_
        obtain ⟨g30, eg30, h31, hf⟩ := wr_some hf
        refine ax_iast hx hb hK hP hD hS 1 0 rfl rfl h31 eg30 dMM_join_134 (ws' := (w_MM_join cI cZ cL cB q q_draft q_drafted q_counts q_symbols q_lengths q_codes q_often q_row q_number q_group q_bitsOf q_many k_thrown k_drafts k_words k_total k_size k_place g30 x24 x23 k_often)) rfl (fun H locs hP hD hS => ?_)
        refine lv_aload_n hx hb dMM_join_135 rfl (lv_at hl 0 rfl) ?_
        refine va_get (D := (dC, dI)) (ci := 6) (v := .ref q_number) (C := RMM) (T := TMM) (N := 18) hx hb hts hi_MM hown hK hP 0 rfl rfl 14 (by decide) (hts _ tw_354) (fun _ h9 => h9) rfl dMM_join_136 ?_
        refine lv_iload_n hx hb dMM_join_139 rfl (lv_at hl 2 rfl) ?_
        refine lv_iconst (v := 0) hx hb dMM_join_140 (by decide) ?_
        obtain ⟨g32, eg32, h33, hf⟩ := wr_some hf
        refine ax_iast hx hb hK hP hD hS 1 0 rfl rfl h33 eg32 dMM_join_141 (ws' := (w_MM_join cI cZ cL cB q q_draft q_drafted q_counts q_symbols q_lengths q_codes q_often q_row q_number q_group q_bitsOf q_many k_thrown k_drafts k_words k_total k_size k_place g32 x24 x23 k_often)) rfl (fun H locs hP hD hS => ?_)
        refine lv_aload_n hx hb dMM_join_142 rfl (lv_at hl 0 rfl) ?_
        refine lv_iconst (v := (-1)) hx hb dMM_join_143 (by decide) ?_
        obtain ⟨r34, h35, hf⟩ := bd1_some hf
        have hPc := hP.sub (ws' := (w_MM_least cI cZ cL cB q q_draft q_drafted q_counts q_symbols q_lengths q_codes q_often q_row q_number q_group q_bitsOf q_many k_thrown k_drafts k_words k_total k_size k_place g32)) [0, 1] rfl
        have hDc := hD.sub (ws' := (w_MM_least cI cZ cL cB q q_draft q_drafted q_counts q_symbols q_lengths q_codes q_often q_row q_number q_group q_bitsOf q_many k_thrown k_drafts k_words k_total k_size k_place g32)) [0, 1] (by decide) rfl
        refine ax_calli (wr := [(q_group, .inl (cI, 257, .inl x24)), (q_bitsOf, .inl (cI, 257, .inl x23)), (q_often, .inl (cI, 256, .inl k_often))]) (w2 := (w_MM_join cI cZ cL cB q q_draft q_drafted q_counts q_symbols q_lengths q_codes q_often q_row q_number q_group q_bitsOf q_many k_thrown k_drafts k_words k_total k_size k_place g32 x24 x23 k_often)) (va_runV (As := [.int (-1)]) (rest := []) ⟨hx, hb, hml, hown, hts⟩ (cc_MM_least l dC dI cI cZ cL cB q q_draft q_drafted q_counts q_symbols q_lengths q_codes q_often q_row q_number q_group q_bitsOf q_many H.size k_thrown k_drafts k_words k_total k_size k_place g32 (-1) r34 h35) (cwV 1 hts (tt_V tw_422 tw_423 tw_16 tw_27 tw_424) rfl rfl rfl (by decide +kernel) ⟨Nat.le_of_ble_eq_true rfl, Nat.le_of_ble_eq_true rfl⟩) ⟨kz_fb, va_recv hK hPc (ci := 6) (q0 := 0) rfl rfl, kz_pre hPc hZ hDc⟩ rfl rfl hl.1 rfl (lv_room (Nat.le_of_ble_eq_true rfl)) dMM_join_144 ⟨Nat.zero_le _, Nat.zero_le _⟩) hP hD hS hA [0, 1] [2, 3, 4] [3, 4, 0, 1, 2] rfl rfl (by decide) (by decide) rfl (by decide) (fun H locs hP hD hS => ?_)
        refine lv_istore_n (lv' := [(1, .int r34), (0, .ref q), (2, .int x15), (3, .int x22)]) hx hb dMM_join_147 rfl hl (by decide) rfl (fun ls hl => ?_)
        refine lv_aload_n hx hb dMM_join_148 rfl (lv_at hl 1 rfl) ?_
        refine lv_iload_n hx hb dMM_join_149 rfl (lv_at hl 0 rfl) ?_
        obtain ⟨r36, h37, hf⟩ := bd1_some hf
        have hPc := hP.sub (ws' := (w_MM_least cI cZ cL cB q q_draft q_drafted q_counts q_symbols q_lengths q_codes q_often q_row q_number q_group q_bitsOf q_many k_thrown k_drafts k_words k_total k_size k_place g32)) [0, 1] rfl
        have hDc := hD.sub (ws' := (w_MM_least cI cZ cL cB q q_draft q_drafted q_counts q_symbols q_lengths q_codes q_often q_row q_number q_group q_bitsOf q_many k_thrown k_drafts k_words k_total k_size k_place g32)) [0, 1] (by decide) rfl
        refine ax_calli (wr := [(q_group, .inl (cI, 257, .inl x24)), (q_bitsOf, .inl (cI, 257, .inl x23)), (q_often, .inl (cI, 256, .inl k_often))]) (w2 := (w_MM_join cI cZ cL cB q q_draft q_drafted q_counts q_symbols q_lengths q_codes q_often q_row q_number q_group q_bitsOf q_many k_thrown k_drafts k_words k_total k_size k_place g32 x24 x23 k_often)) (va_runV (As := [.int r34]) (rest := []) ⟨hx, hb, hml, hown, hts⟩ (cc_MM_least l dC dI cI cZ cL cB q q_draft q_drafted q_counts q_symbols q_lengths q_codes q_often q_row q_number q_group q_bitsOf q_many H.size k_thrown k_drafts k_words k_total k_size k_place g32 r34 r36 h37) (cwV 1 hts (tt_V tw_422 tw_423 tw_16 tw_27 tw_424) rfl rfl rfl (by decide +kernel) ⟨Nat.le_of_ble_eq_true rfl, Nat.le_of_ble_eq_true rfl⟩) ⟨kz_fb, va_recv hK hPc (ci := 6) (q0 := 0) rfl rfl, kz_pre hPc hZ hDc⟩ rfl rfl hl.1 rfl (lv_room (Nat.le_of_ble_eq_true rfl)) dMM_join_150 ⟨Nat.zero_le _, Nat.zero_le _⟩) hP hD hS hA [0, 1] [2, 3, 4] [3, 4, 0, 1, 2] rfl rfl (by decide) (by decide) rfl (by decide) (fun H locs hP hD hS => ?_)
        refine lv_istore_n (lv' := [(2, .int r36), (1, .int r34), (0, .ref q), (3, .int x22)]) hx hb dMM_join_153 rfl hl (by decide) rfl (fun ls hl => ?_)
        refine lv_goto (tgt := 64) hx hb dMM_join_154 (by decide) ?_
        exact ih13 r34 r36 x23 x24 g32 hf _ _ _ hP hD hS (lv_sub hl [2, 1, 0] rfl)
      · have hf := ifF hf c_25
        refine lv_aload_n hx hb dMM_join_77 rfl (lv_at hl 0 rfl) ?_
        refine va_get (D := (dC, dI)) (ci := 6) (v := .ref q_group) (C := RMM) (T := TMM) (N := 18) hx hb hts hi_MM hown hK hP 0 rfl rfl 15 (by decide) (hts _ tw_355) (fun _ h9 => h9) rfl dMM_join_78 ?_
        refine lv_iload_n hx hb dMM_join_81 rfl (lv_at hl 3 rfl) ?_
        obtain ⟨v38, ev38, h39, hf⟩ := rd_some hf
        refine ax_iald hx hb hK hP 2 0 rfl rfl h39 ev38 dMM_join_82 ?_
        refine lv_iload_n hx hb dMM_join_83 rfl (lv_at hl 1 rfl) ?_
        refine lv_icmp_eq (tgt := 97) hx hb dMM_join_84 (by decide) (fun c_40 => ?_) (fun c_40 => ?_)
        · have hf := ifT hf c_40
          refine lv_aload_n hx hb dMM_join_97 rfl (lv_at hl 0 rfl) ?_
          refine va_get (D := (dC, dI)) (ci := 6) (v := .ref q_bitsOf) (C := RMM) (T := TMM) (N := 18) hx hb hts hi_MM hown hK hP 0 rfl rfl 16 (by decide) (hts _ tw_356) (fun _ h9 => h9) rfl dMM_join_98 ?_
          refine lv_iload_n hx hb dMM_join_101 rfl (lv_at hl 3 rfl) ?_
          refine lv_dup2_11 hx hb dMM_join_102 rfl rfl ?_
          obtain ⟨v41, ev41, h42, hf⟩ := rd_some hf
          refine ax_iald hx hb hK hP 3 0 rfl rfl h42 ev41 dMM_join_103 ?_
          refine lv_iconst (v := 1) hx hb dMM_join_104 (by decide) ?_
          refine lv_iadd hx hb dMM_join_105 ?_
          obtain ⟨g43, eg43, h44, hf⟩ := wr_some hf
          refine ax_iast hx hb hK hP hD hS 3 0 rfl rfl h44 eg43 dMM_join_106 (ws' := (w_MM_join cI cZ cL cB q q_draft q_drafted q_counts q_symbols q_lengths q_codes q_often q_row q_number q_group q_bitsOf q_many k_thrown k_drafts k_words k_total k_size k_place x18 x24 g43 k_often)) rfl (fun H locs hP hD hS => ?_)
          refine lv_aload_n hx hb dMM_join_107 rfl (lv_at hl 0 rfl) ?_
          refine va_get (D := (dC, dI)) (ci := 6) (v := .ref q_group) (C := RMM) (T := TMM) (N := 18) hx hb hts hi_MM hown hK hP 0 rfl rfl 15 (by decide) (hts _ tw_355) (fun _ h9 => h9) rfl dMM_join_108 ?_
          refine lv_iload_n hx hb dMM_join_111 rfl (lv_at hl 3 rfl) ?_
          refine lv_iload_n hx hb dMM_join_112 rfl (lv_at hl 1 rfl) ?_
          obtain ⟨g45, eg45, h46, hf⟩ := wr_some hf
          refine ax_iast hx hb hK hP hD hS 2 0 rfl rfl h46 eg45 dMM_join_113 (ws' := (w_MM_join cI cZ cL cB q q_draft q_drafted q_counts q_symbols q_lengths q_codes q_often q_row q_number q_group q_bitsOf q_many k_thrown k_drafts k_words k_total k_size k_place x18 g45 g43 k_often)) rfl (fun H locs hP hD hS => ?_)
          refine lv_iinc (v := (x22 + 1)) (lv' := [(3, .int (x22 + 1)), (0, .ref q), (1, .int x14), (2, .int x15)]) hx hb dMM_join_114 hl (k := 3) rfl rfl (by decide) rfl (fun ls hl => ?_)
          refine lv_goto (tgt := 70) hx hb dMM_join_117 (by decide) ?_
          exact ih21 (x22 + 1) g43 g45 hf _ _ _ hP hD hS (lv_sub hl [1, 2, 3, 0] rfl)
        · have hf := ifF hf c_40
          refine lv_aload_n hx hb dMM_join_87 rfl (lv_at hl 0 rfl) ?_
          refine va_get (D := (dC, dI)) (ci := 6) (v := .ref q_group) (C := RMM) (T := TMM) (N := 18) hx hb hts hi_MM hown hK hP 0 rfl rfl 15 (by decide) (hts _ tw_355) (fun _ h9 => h9) rfl dMM_join_88 ?_
          refine lv_iload_n hx hb dMM_join_91 rfl (lv_at hl 3 rfl) ?_
          obtain ⟨v47, ev47, h48, hf⟩ := rd_some hf
          refine ax_iald hx hb hK hP 2 0 rfl rfl h48 ev47 dMM_join_92 ?_
          refine lv_iload_n hx hb dMM_join_93 rfl (lv_at hl 2 rfl) ?_
          refine lv_icmp_ne (tgt := 114) hx hb dMM_join_94 (by decide) (fun c_49 => ?_) (fun c_49 => ?_)
          · have hf := ifF hf c_49
            refine lv_iinc (v := (x22 + 1)) (lv' := [(3, .int (x22 + 1)), (0, .ref q), (1, .int x14), (2, .int x15)]) hx hb dMM_join_114 hl (k := 3) rfl rfl (by decide) rfl (fun ls hl => ?_)
            refine lv_goto (tgt := 70) hx hb dMM_join_117 (by decide) ?_
            exact ih21 (x22 + 1) x23 x24 hf _ _ _ hP hD hS (lv_sub hl [1, 2, 3, 0] rfl)
          · have hf := ifT hf c_49
            refine lv_aload_n hx hb dMM_join_97 rfl (lv_at hl 0 rfl) ?_
            refine va_get (D := (dC, dI)) (ci := 6) (v := .ref q_bitsOf) (C := RMM) (T := TMM) (N := 18) hx hb hts hi_MM hown hK hP 0 rfl rfl 16 (by decide) (hts _ tw_356) (fun _ h9 => h9) rfl dMM_join_98 ?_
            refine lv_iload_n hx hb dMM_join_101 rfl (lv_at hl 3 rfl) ?_
            refine lv_dup2_11 hx hb dMM_join_102 rfl rfl ?_
            obtain ⟨v50, ev50, h51, hf⟩ := rd_some hf
            refine ax_iald hx hb hK hP 3 0 rfl rfl h51 ev50 dMM_join_103 ?_
            refine lv_iconst (v := 1) hx hb dMM_join_104 (by decide) ?_
            refine lv_iadd hx hb dMM_join_105 ?_
            obtain ⟨g52, eg52, h53, hf⟩ := wr_some hf
            refine ax_iast hx hb hK hP hD hS 3 0 rfl rfl h53 eg52 dMM_join_106 (ws' := (w_MM_join cI cZ cL cB q q_draft q_drafted q_counts q_symbols q_lengths q_codes q_often q_row q_number q_group q_bitsOf q_many k_thrown k_drafts k_words k_total k_size k_place x18 x24 g52 k_often)) rfl (fun H locs hP hD hS => ?_)
            refine lv_aload_n hx hb dMM_join_107 rfl (lv_at hl 0 rfl) ?_
            refine va_get (D := (dC, dI)) (ci := 6) (v := .ref q_group) (C := RMM) (T := TMM) (N := 18) hx hb hts hi_MM hown hK hP 0 rfl rfl 15 (by decide) (hts _ tw_355) (fun _ h9 => h9) rfl dMM_join_108 ?_
            refine lv_iload_n hx hb dMM_join_111 rfl (lv_at hl 3 rfl) ?_
            refine lv_iload_n hx hb dMM_join_112 rfl (lv_at hl 1 rfl) ?_
            obtain ⟨g54, eg54, h55, hf⟩ := wr_some hf
            refine ax_iast hx hb hK hP hD hS 2 0 rfl rfl h55 eg54 dMM_join_113 (ws' := (w_MM_join cI cZ cL cB q q_draft q_drafted q_counts q_symbols q_lengths q_codes q_often q_row q_number q_group q_bitsOf q_many k_thrown k_drafts k_words k_total k_size k_place x18 g54 g52 k_often)) rfl (fun H locs hP hD hS => ?_)
            refine lv_iinc (v := (x22 + 1)) (lv' := [(3, .int (x22 + 1)), (0, .ref q), (1, .int x14), (2, .int x15)]) hx hb dMM_join_114 hl (k := 3) rfl rfl (by decide) rfl (fun ls hl => ?_)
            refine lv_goto (tgt := 70) hx hb dMM_join_117 (by decide) ?_
            exact ih21 (x22 + 1) g52 g54 hf _ _ _ hP hD hS (lv_sub hl [1, 2, 3, 0] rfl)
  · have hf := ifF hf c_7
    refine lv_aload_n hx hb dMM_join_9 rfl (lv_at hl 0 rfl) ?_
    refine va_get (D := (dC, dI)) (ci := 6) (v := .ref q_number) (C := RMM) (T := TMM) (N := 18) hx hb hts hi_MM hown hK hP 0 rfl rfl 14 (by decide) (hts _ tw_354) (fun _ h9 => h9) rfl dMM_join_10 ?_
    refine lv_iload_n hx hb dMM_join_13 rfl (lv_at hl 1 rfl) ?_
    refine lv_iload_n hx hb dMM_join_14 rfl (lv_at hl 1 rfl) ?_
    refine lv_sipush (v := 256) hx hb dMM_join_15 (by decide) ?_
    refine lv_icmp_ne (tgt := 25) hx hb dMM_join_18 (by decide) (fun c_56 => ?_) (fun c_56 => ?_)
    · have hf := ifF hf c_56
      refine lv_aload_n hx hb dMM_join_25 rfl (lv_at hl 0 rfl) ?_
      refine va_get (D := (dC, dI)) (ci := 6) (v := .ref q_often) (C := RMM) (T := TMM) (N := 18) hx hb hts hi_MM hown hK hP 0 rfl rfl 9 (by decide) (hts _ tw_349) (fun _ h9 => h9) rfl dMM_join_26 ?_
      refine lv_iload_n hx hb dMM_join_29 rfl (lv_at hl 1 rfl) ?_
      obtain ⟨v57, ev57, h58, hf⟩ := rd_some hf
      refine ax_iald hx hb hK hP 4 0 rfl rfl h58 ev57 dMM_join_30 ?_
      obtain ⟨g59, eg59, h60, hf⟩ := wr_some hf
      refine ax_iast hx hb hK hP hD hS 1 0 rfl rfl h60 eg59 dMM_join_31 (ws' := (w_MM_join cI cZ cL cB q q_draft q_drafted q_counts q_symbols q_lengths q_codes q_often q_row q_number q_group q_bitsOf q_many k_thrown k_drafts k_words k_total k_size k_place g59 x5 x4 k_often)) rfl (fun H locs hP hD hS => ?_)
      refine lv_aload_n hx hb dMM_join_32 rfl (lv_at hl 0 rfl) ?_
      refine va_get (D := (dC, dI)) (ci := 6) (v := .ref q_group) (C := RMM) (T := TMM) (N := 18) hx hb hts hi_MM hown hK hP 0 rfl rfl 15 (by decide) (hts _ tw_355) (fun _ h9 => h9) rfl dMM_join_33 ?_
      refine lv_iload_n hx hb dMM_join_36 rfl (lv_at hl 1 rfl) ?_
      refine lv_iload_n hx hb dMM_join_37 rfl (lv_at hl 1 rfl) ?_
      obtain ⟨g61, eg61, h62, hf⟩ := wr_some hf
      refine ax_iast hx hb hK hP hD hS 2 0 rfl rfl h62 eg61 dMM_join_38 (ws' := (w_MM_join cI cZ cL cB q q_draft q_drafted q_counts q_symbols q_lengths q_codes q_often q_row q_number q_group q_bitsOf q_many k_thrown k_drafts k_words k_total k_size k_place g59 g61 x4 k_often)) rfl (fun H locs hP hD hS => ?_)
      refine lv_aload_n hx hb dMM_join_39 rfl (lv_at hl 0 rfl) ?_
      refine va_get (D := (dC, dI)) (ci := 6) (v := .ref q_bitsOf) (C := RMM) (T := TMM) (N := 18) hx hb hts hi_MM hown hK hP 0 rfl rfl 16 (by decide) (hts _ tw_356) (fun _ h9 => h9) rfl dMM_join_40 ?_
      refine lv_iload_n hx hb dMM_join_43 rfl (lv_at hl 1 rfl) ?_
      refine lv_iconst (v := 0) hx hb dMM_join_44 (by decide) ?_
      obtain ⟨g63, eg63, h64, hf⟩ := wr_some hf
      refine ax_iast hx hb hK hP hD hS 3 0 rfl rfl h64 eg63 dMM_join_45 (ws' := (w_MM_join cI cZ cL cB q q_draft q_drafted q_counts q_symbols q_lengths q_codes q_often q_row q_number q_group q_bitsOf q_many k_thrown k_drafts k_words k_total k_size k_place g59 g61 g63 k_often)) rfl (fun H locs hP hD hS => ?_)
      refine lv_iinc (v := (x3 + 1)) (lv' := [(1, .int (x3 + 1)), (0, .ref q)]) hx hb dMM_join_46 hl (k := 1) rfl rfl (by decide) rfl (fun ls hl => ?_)
      refine lv_goto (tgt := 2) hx hb dMM_join_49 (by decide) ?_
      exact ih2 (x3 + 1) g63 g61 g59 hf _ _ _ hP hD hS (lv_sub hl [1, 0] rfl)
    · have hf := ifT hf c_56
      refine lv_iconst (v := 1) hx hb dMM_join_21 (by decide) ?_
      refine lv_goto (tgt := 31) hx hb dMM_join_22 (by decide) ?_
      obtain ⟨g65, eg65, h66, hf⟩ := wr_some hf
      refine ax_iast hx hb hK hP hD hS 1 0 rfl rfl h66 eg65 dMM_join_31 (ws' := (w_MM_join cI cZ cL cB q q_draft q_drafted q_counts q_symbols q_lengths q_codes q_often q_row q_number q_group q_bitsOf q_many k_thrown k_drafts k_words k_total k_size k_place g65 x5 x4 k_often)) rfl (fun H locs hP hD hS => ?_)
      refine lv_aload_n hx hb dMM_join_32 rfl (lv_at hl 0 rfl) ?_
      refine va_get (D := (dC, dI)) (ci := 6) (v := .ref q_group) (C := RMM) (T := TMM) (N := 18) hx hb hts hi_MM hown hK hP 0 rfl rfl 15 (by decide) (hts _ tw_355) (fun _ h9 => h9) rfl dMM_join_33 ?_
      refine lv_iload_n hx hb dMM_join_36 rfl (lv_at hl 1 rfl) ?_
      refine lv_iload_n hx hb dMM_join_37 rfl (lv_at hl 1 rfl) ?_
      obtain ⟨g67, eg67, h68, hf⟩ := wr_some hf
      refine ax_iast hx hb hK hP hD hS 2 0 rfl rfl h68 eg67 dMM_join_38 (ws' := (w_MM_join cI cZ cL cB q q_draft q_drafted q_counts q_symbols q_lengths q_codes q_often q_row q_number q_group q_bitsOf q_many k_thrown k_drafts k_words k_total k_size k_place g65 g67 x4 k_often)) rfl (fun H locs hP hD hS => ?_)
      refine lv_aload_n hx hb dMM_join_39 rfl (lv_at hl 0 rfl) ?_
      refine va_get (D := (dC, dI)) (ci := 6) (v := .ref q_bitsOf) (C := RMM) (T := TMM) (N := 18) hx hb hts hi_MM hown hK hP 0 rfl rfl 16 (by decide) (hts _ tw_356) (fun _ h9 => h9) rfl dMM_join_40 ?_
      refine lv_iload_n hx hb dMM_join_43 rfl (lv_at hl 1 rfl) ?_
      refine lv_iconst (v := 0) hx hb dMM_join_44 (by decide) ?_
      obtain ⟨g69, eg69, h70, hf⟩ := wr_some hf
      refine ax_iast hx hb hK hP hD hS 3 0 rfl rfl h70 eg69 dMM_join_45 (ws' := (w_MM_join cI cZ cL cB q q_draft q_drafted q_counts q_symbols q_lengths q_codes q_often q_row q_number q_group q_bitsOf q_many k_thrown k_drafts k_words k_total k_size k_place g65 g67 g69 k_often)) rfl (fun H locs hP hD hS => ?_)
      refine lv_iinc (v := (x3 + 1)) (lv' := [(1, .int (x3 + 1)), (0, .ref q)]) hx hb dMM_join_46 hl (k := 1) rfl rfl (by decide) rfl (fun ls hl => ?_)
      refine lv_goto (tgt := 2) hx hb dMM_join_49 (by decide) ?_
      exact ih2 (x3 + 1) g69 g67 g65 hf _ _ _ hP hD hS (lv_sub hl [1, 0] rfl)
abbrev wsMM_shorten : List Cond := Cond.code yMM_shorten cMM_shorten 3 none :: tt
set_option maxHeartbeats 4000000 in
set_option maxRecDepth 100000 in
theorem cc_MM_shorten (l : Launch) (dC : Nat → ClassId) (dI : Nat → Nat → Nat) (cI cZ cL cB : ClassId) (q q_draft q_drafted q_counts q_symbols q_lengths q_codes q_often q_row q_number q_group q_bitsOf q_many : Nat) (sz : Nat) (k_thrown : Int32) (k_drafts : Int32) (k_words : Int32) (k_total : Int32) (k_size : Int32) (k_place : Int32) (k_many : Nat → Int32) (k_bitsOf : Nat → Int32) (k_often : Nat → Int32) (o_many : Nat → Int32) (hf : f_MM_shorten k_thrown k_drafts k_words k_total k_size k_place k_many k_bitsOf k_often = some o_many) : Met l yMM_shorten wsMM_shorten ({ frames := 0, cells := 0, slots := 0, locals := 0 }) (va_Pc [.ref q] (kz_P dC dI cI cZ cL cB sz (w_MM_shorten cI cZ cL cB q q_draft q_drafted q_counts q_symbols q_lengths q_codes q_often q_row q_number q_group q_bitsOf q_many k_thrown k_drafts k_words k_total k_size k_place k_many k_bitsOf k_often))) (va_Qv (fun (_ : Unit) => True) (fun _ t => va_P (dC, dI) vwCl (w_MM_shorten cI cZ cL cB q q_draft q_drafted q_counts q_symbols q_lengths q_codes q_often q_row q_number q_group q_bitsOf q_many k_thrown k_drafts k_words k_total k_size k_place o_many k_bitsOf k_often) t.heap ∧ va_D (va_A (w_MM_shorten cI cZ cL cB q q_draft q_drafted q_counts q_symbols q_lengths q_codes q_often q_row q_number q_group q_bitsOf q_many k_thrown k_drafts k_words k_total k_size k_place k_many k_bitsOf k_often) sz) (w_MM_shorten cI cZ cL cB q q_draft q_drafted q_counts q_symbols q_lengths q_codes q_often q_row q_number q_group q_bitsOf q_many k_thrown k_drafts k_words k_total k_size k_place o_many k_bitsOf k_often)) (va_A (w_MM_shorten cI cZ cL cB q q_draft q_drafted q_counts q_symbols q_lengths q_codes q_often q_row q_number q_group q_bitsOf q_many k_thrown k_drafts k_words k_total k_size k_place k_many k_bitsOf k_often) sz)) 0 0 (va_A (w_MM_shorten cI cZ cL cB q q_draft q_drafted q_counts q_symbols q_lengths q_codes q_often q_row q_number q_group q_bitsOf q_many k_thrown k_drafts k_words k_total k_size k_place k_many k_bitsOf k_often) sz) := by
  refine Met.ofW (cc := cMM_shorten) (maxL := 3) (ret := none) (by decide) rfl ?_
  intro p e s m args below meth c s₁ B hml hv
  obtain ⟨rfl, hsz, hP, hZ, hD0⟩ := hv
  have hK := hZ.1
  have hx := B.exec
  have hb := B.bytes
  have hr := B.returns
  have hts : ∀ w ∈ tt, w.before _ s = true := fun w h => atoms_spec (ws := wsMM_shorten) B.pre w (List.mem_cons_of_mem _ h)
  have hown : s.vm.findClass RMM = some m.cls := findClass_of_methodNamed B.named
  have hlocks := B.notSynchronized
  subst hsz
  have hD := hD0.self (sz := s.heap.size)
  generalize hAe : va_A (w_MM_shorten cI cZ cL cB q q_draft q_drafted q_counts q_symbols q_lengths q_codes q_often q_row q_number q_group q_bitsOf q_many k_thrown k_drafts k_words k_total k_size k_place k_many k_bitsOf k_often) s.heap.size = A at hD ⊢
  have hA : ∀ q : Nat, s.heap.size ≤ q → A q := fun q h => by rw [← hAe]; exact Or.inr h
  have hS : va_S A s.heap s.heap [] := va_S.rf
  have hl := lv_entry [.ref q] (n := 3) (Nat.le_of_ble_eq_true rfl)
  rw [lg_entry_eq]
  generalize (lg_sl [.ref q] ++ List.replicate (3 - (lg_sl [.ref q]).length) Slot.unset).toArray = ls at hl ⊢
  have hl : lv_has ls 3 [(0, .ref q)] := hl
  unfold f_MM_shorten at hf
  refine lv_iconst (v := 0) hx hb dMM_shorten_0 (by decide) ?_
  refine lv_istore_n (lv' := [(1, .int 0), (0, .ref q)]) hx hb dMM_shorten_1 rfl hl (by decide) rfl (fun ls hl => ?_)
  refine Lp2_W (P := fun (x3 : Int32) (x4 : Nat → Int32) => ∀ (H : Heap) (locs : List Loc) (ls : Array Slot), va_P (dC, dI) vwCl (w_MM_shorten cI cZ cL cB q q_draft q_drafted q_counts q_symbols q_lengths q_codes q_often q_row q_number q_group q_bitsOf q_many k_thrown k_drafts k_words k_total k_size k_place x4 k_bitsOf k_often) H → va_D A (w_MM_shorten cI cZ cL cB q q_draft q_drafted q_counts q_symbols q_lengths q_codes q_often q_row q_number q_group q_bitsOf q_many k_thrown k_drafts k_words k_total k_size k_place x4 k_bitsOf k_often) → va_S A s.heap H locs → lv_has ls 3 [(0, .ref q), (1, .int x3)] → W p l e _ s m _ below meth c H locs 0 0 _ (F0 m 2 ls [])) ?_ _ _ _ hf _ _ _ hP hD hS (lv_sub hl [1, 0] rfl)
  clear hf hP hD hS hl
  intro ag1 ih2 x3 x4 hf H locs ls hP hD hS hl
  refine lv_iload_n hx hb dMM_shorten_2 rfl (lv_at hl 1 rfl) ?_
  refine lv_sipush (v := 300) hx hb dMM_shorten_3 (by decide) ?_
  refine lv_icmp_ge (tgt := 22) hx hb dMM_shorten_6 (by decide) (fun c_5 => ?_) (fun c_5 => ?_)
  · have hf := ifT hf c_5
    refine lv_iconst (v := 0) hx hb dMM_shorten_22 (by decide) ?_
    refine lv_istore_n (lv' := [(1, .int 0), (0, .ref q)]) hx hb dMM_shorten_23 rfl hl (by decide) rfl (fun ls hl => ?_)
    refine Lp2_W (P := fun (x8 : Int32) (x9 : Nat → Int32) => ∀ (H : Heap) (locs : List Loc) (ls : Array Slot), va_P (dC, dI) vwCl (w_MM_shorten cI cZ cL cB q q_draft q_drafted q_counts q_symbols q_lengths q_codes q_often q_row q_number q_group q_bitsOf q_many k_thrown k_drafts k_words k_total k_size k_place x9 k_bitsOf k_often) H → va_D A (w_MM_shorten cI cZ cL cB q q_draft q_drafted q_counts q_symbols q_lengths q_codes q_often q_row q_number q_group q_bitsOf q_many k_thrown k_drafts k_words k_total k_size k_place x9 k_bitsOf k_often) → va_S A s.heap H locs → lv_has ls 3 [(0, .ref q), (1, .int x8)] → W p l e _ s m _ below meth c H locs 0 0 _ (F0 m 24 ls [])) ?_ _ _ _ hf _ _ _ hP hD hS (lv_sub hl [1, 0] rfl)
    clear hf hP hD hS hl
    intro ag6 ih7 x8 x9 hf H locs ls hP hD hS hl
    refine lv_iload_n hx hb dMM_shorten_24 rfl (lv_at hl 1 rfl) ?_
    refine lv_sipush (v := 256) hx hb dMM_shorten_25 (by decide) ?_
    refine lv_icmp_gt (tgt := 68) hx hb dMM_shorten_28 (by decide) (fun c_10 => ?_) (fun c_10 => ?_)
    · have hf := ifT hf c_10
      refine lv_sipush (v := 299) hx hb dMM_shorten_68 (by decide) ?_
      refine lv_istore_n (lv' := [(1, .int 299), (0, .ref q)]) hx hb dMM_shorten_71 rfl hl (by decide) rfl (fun ls hl => ?_)
      refine Lp2_W (P := fun (x13 : Int32) (x14 : Nat → Int32) => ∀ (H : Heap) (locs : List Loc) (ls : Array Slot), va_P (dC, dI) vwCl (w_MM_shorten cI cZ cL cB q q_draft q_drafted q_counts q_symbols q_lengths q_codes q_often q_row q_number q_group q_bitsOf q_many k_thrown k_drafts k_words k_total k_size k_place x14 k_bitsOf k_often) H → va_D A (w_MM_shorten cI cZ cL cB q q_draft q_drafted q_counts q_symbols q_lengths q_codes q_often q_row q_number q_group q_bitsOf q_many k_thrown k_drafts k_words k_total k_size k_place x14 k_bitsOf k_often) → va_S A s.heap H locs → lv_has ls 3 [(0, .ref q), (1, .int x13)] → W p l e _ s m _ below meth c H locs 0 0 _ (F0 m 72 ls [])) ?_ _ _ _ hf _ _ _ hP hD hS (lv_sub hl [1, 0] rfl)
      clear hf hP hD hS hl
      intro ag11 ih12 x13 x14 hf H locs ls hP hD hS hl
      refine lv_iload_n hx hb dMM_shorten_72 rfl (lv_at hl 1 rfl) ?_
      refine lv_bipush (v := 16) hx hb dMM_shorten_73 (by decide) ?_
      refine lv_icmp_le (tgt := 159) hx hb dMM_shorten_75 (by decide) (fun c_15 => ?_) (fun c_15 => ?_)
      · have hf := ifT hf c_15
        refine lv_bipush (v := 16) hx hb dMM_shorten_159 (by decide) ?_
        refine lv_istore_n (lv' := [(1, .int 16), (0, .ref q)]) hx hb dMM_shorten_161 rfl hl (by decide) rfl (fun ls hl => ?_)
        refine Lp1_W (P := fun (x18 : Int32) => ∀ (H : Heap) (locs : List Loc) (ls : Array Slot), va_P (dC, dI) vwCl (w_MM_shorten cI cZ cL cB q q_draft q_drafted q_counts q_symbols q_lengths q_codes q_often q_row q_number q_group q_bitsOf q_many k_thrown k_drafts k_words k_total k_size k_place x14 k_bitsOf k_often) H → va_D A (w_MM_shorten cI cZ cL cB q q_draft q_drafted q_counts q_symbols q_lengths q_codes q_often q_row q_number q_group q_bitsOf q_many k_thrown k_drafts k_words k_total k_size k_place x14 k_bitsOf k_often) → va_S A s.heap H locs → lv_has ls 3 [(0, .ref q), (1, .int x18)] → W p l e _ s m _ below meth c H locs 0 0 _ (F0 m 162 ls [])) ?_ _ _ hf _ _ _ hP hD hS (lv_sub hl [1, 0] rfl)
        clear hf hP hD hS hl
        intro ag16 ih17 x18 hf H locs ls hP hD hS hl
        refine lv_aload_n hx hb dMM_shorten_162 rfl (lv_at hl 0 rfl) ?_
        refine va_get (D := (dC, dI)) (ci := 6) (v := .ref q_many) (C := RMM) (T := TMM) (N := 18) hx hb hts hi_MM hown hK hP 0 rfl rfl 17 (by decide) (hts _ tw_357) (fun _ h9 => h9) rfl dMM_shorten_163 ?_
        refine lv_iload_n hx hb dMM_shorten_166 rfl (lv_at hl 1 rfl) ?_
        obtain ⟨v19, ev19, h20, hf⟩ := rd_some hf
        refine ax_iald hx hb hK hP 1 0 rfl rfl h20 ev19 dMM_shorten_167 ?_
        refine lv_if_ne (tgt := 177) hx hb dMM_shorten_168 (by decide) (fun c_21 => ?_) (fun c_21 => ?_)
        · have hf := ifF hf c_21
          refine lv_aload_n hx hb dMM_shorten_177 rfl (lv_at hl 0 rfl) ?_
          refine va_get (D := (dC, dI)) (ci := 6) (v := .ref q_many) (C := RMM) (T := TMM) (N := 18) hx hb hts hi_MM hown hK hP 0 rfl rfl 17 (by decide) (hts _ tw_357) (fun _ h9 => h9) rfl dMM_shorten_178 ?_
          refine lv_iload_n hx hb dMM_shorten_181 rfl (lv_at hl 1 rfl) ?_
          refine lv_dup2_11 hx hb dMM_shorten_182 rfl rfl ?_
          obtain ⟨v22, ev22, h23, hf⟩ := rd_some hf
          refine ax_iald hx hb hK hP 1 0 rfl rfl h23 ev22 dMM_shorten_183 ?_
          refine lv_iconst (v := 1) hx hb dMM_shorten_184 (by decide) ?_
          refine lv_isub hx hb dMM_shorten_185 ?_
          obtain ⟨g24, eg24, h25, hf⟩ := wr_some hf
          refine ax_iast hx hb hK hP hD hS 1 0 rfl rfl h25 eg24 dMM_shorten_186 (ws' := (w_MM_shorten cI cZ cL cB q q_draft q_drafted q_counts q_symbols q_lengths q_codes q_often q_row q_number q_group q_bitsOf q_many k_thrown k_drafts k_words k_total k_size k_place g24 k_bitsOf k_often)) rfl (fun H locs hP hD hS => ?_)
          cases hf
          exact ax_vret hx hb hr hP hD hS dMM_shorten_187 hlocks
        · have hf := ifT hf c_21
          refine lv_iinc (v := (x18 + (-1))) (lv' := [(1, .int (x18 + (-1))), (0, .ref q)]) hx hb dMM_shorten_171 hl (k := 1) rfl rfl (by decide) rfl (fun ls hl => ?_)
          refine lv_goto (tgt := 162) hx hb dMM_shorten_174 (by decide) ?_
          exact ih17 (x18 + (-1)) hf _ _ _ hP hD hS (lv_sub hl [1, 0] rfl)
      · have hf := ifF hf c_15
        refine Lp1_W (P := fun (x28 : Nat → Int32) => ∀ (H : Heap) (locs : List Loc) (ls : Array Slot), va_P (dC, dI) vwCl (w_MM_shorten cI cZ cL cB q q_draft q_drafted q_counts q_symbols q_lengths q_codes q_often q_row q_number q_group q_bitsOf q_many k_thrown k_drafts k_words k_total k_size k_place x28 k_bitsOf k_often) H → va_D A (w_MM_shorten cI cZ cL cB q q_draft q_drafted q_counts q_symbols q_lengths q_codes q_often q_row q_number q_group q_bitsOf q_many k_thrown k_drafts k_words k_total k_size k_place x28 k_bitsOf k_often) → va_S A s.heap H locs → lv_has ls 3 [(0, .ref q), (1, .int x13)] → W p l e _ s m _ below meth c H locs 0 0 _ (F0 m 78 ls [])) ?_ _ _ hf _ _ _ hP hD hS (lv_sub hl [0, 1] rfl)
        clear hf hP hD hS hl
        intro ag26 ih27 x28 hf H locs ls hP hD hS hl
        refine lv_aload_n hx hb dMM_shorten_78 rfl (lv_at hl 0 rfl) ?_
        refine va_get (D := (dC, dI)) (ci := 6) (v := .ref q_many) (C := RMM) (T := TMM) (N := 18) hx hb hts hi_MM hown hK hP 0 rfl rfl 17 (by decide) (hts _ tw_357) (fun _ h9 => h9) rfl dMM_shorten_79 ?_
        refine lv_iload_n hx hb dMM_shorten_82 rfl (lv_at hl 1 rfl) ?_
        obtain ⟨v29, ev29, h30, hf⟩ := rd_some hf
        refine ax_iald hx hb hK hP 1 0 rfl rfl h30 ev29 dMM_shorten_83 ?_
        refine lv_if_le (tgt := 153) hx hb dMM_shorten_84 (by decide) (fun c_31 => ?_) (fun c_31 => ?_)
        · have hf := ifT hf c_31
          refine lv_iinc (v := (x13 + (-1))) (lv' := [(1, .int (x13 + (-1))), (0, .ref q)]) hx hb dMM_shorten_153 hl (k := 1) rfl rfl (by decide) rfl (fun ls hl => ?_)
          refine lv_goto (tgt := 72) hx hb dMM_shorten_156 (by decide) ?_
          exact ih12 (x13 + (-1)) x28 hf _ _ _ hP hD hS (lv_sub hl [1, 0] rfl)
        · have hf := ifF hf c_31
          refine lv_iload_n hx hb dMM_shorten_87 rfl (lv_at hl 1 rfl) ?_
          refine lv_iconst (v := 2) hx hb dMM_shorten_88 (by decide) ?_
          refine lv_isub hx hb dMM_shorten_89 ?_
          refine lv_istore_n (lv' := [(2, .int (x13 - 2)), (0, .ref q), (1, .int x13)]) hx hb dMM_shorten_90 rfl hl (by decide) rfl (fun ls hl => ?_)
          refine Lp1_W (P := fun (x34 : Int32) => ∀ (H : Heap) (locs : List Loc) (ls : Array Slot), va_P (dC, dI) vwCl (w_MM_shorten cI cZ cL cB q q_draft q_drafted q_counts q_symbols q_lengths q_codes q_often q_row q_number q_group q_bitsOf q_many k_thrown k_drafts k_words k_total k_size k_place x28 k_bitsOf k_often) H → va_D A (w_MM_shorten cI cZ cL cB q q_draft q_drafted q_counts q_symbols q_lengths q_codes q_often q_row q_number q_group q_bitsOf q_many k_thrown k_drafts k_words k_total k_size k_place x28 k_bitsOf k_often) → va_S A s.heap H locs → lv_has ls 3 [(0, .ref q), (1, .int x13), (2, .int x34)] → W p l e _ s m _ below meth c H locs 0 0 _ (F0 m 91 ls [])) ?_ _ _ hf _ _ _ hP hD hS (lv_sub hl [1, 2, 0] rfl)
          clear hf hP hD hS hl
          intro ag32 ih33 x34 hf H locs ls hP hD hS hl
          refine lv_aload_n hx hb dMM_shorten_91 rfl (lv_at hl 0 rfl) ?_
          refine va_get (D := (dC, dI)) (ci := 6) (v := .ref q_many) (C := RMM) (T := TMM) (N := 18) hx hb hts hi_MM hown hK hP 0 rfl rfl 17 (by decide) (hts _ tw_357) (fun _ h9 => h9) rfl dMM_shorten_92 ?_
          refine lv_iload_n hx hb dMM_shorten_95 rfl (lv_at hl 2 rfl) ?_
          obtain ⟨v35, ev35, h36, hf⟩ := rd_some hf
          refine ax_iald hx hb hK hP 1 0 rfl rfl h36 ev35 dMM_shorten_96 ?_
          refine lv_if_ne (tgt := 106) hx hb dMM_shorten_97 (by decide) (fun c_37 => ?_) (fun c_37 => ?_)
          · have hf := ifF hf c_37
            refine lv_aload_n hx hb dMM_shorten_106 rfl (lv_at hl 0 rfl) ?_
            refine va_get (D := (dC, dI)) (ci := 6) (v := .ref q_many) (C := RMM) (T := TMM) (N := 18) hx hb hts hi_MM hown hK hP 0 rfl rfl 17 (by decide) (hts _ tw_357) (fun _ h9 => h9) rfl dMM_shorten_107 ?_
            refine lv_iload_n hx hb dMM_shorten_110 rfl (lv_at hl 1 rfl) ?_
            refine lv_dup2_11 hx hb dMM_shorten_111 rfl rfl ?_
            obtain ⟨v38, ev38, h39, hf⟩ := rd_some hf
            refine ax_iald hx hb hK hP 1 0 rfl rfl h39 ev38 dMM_shorten_112 ?_
            refine lv_iconst (v := 2) hx hb dMM_shorten_113 (by decide) ?_
            refine lv_isub hx hb dMM_shorten_114 ?_
            obtain ⟨g40, eg40, h41, hf⟩ := wr_some hf
            refine ax_iast hx hb hK hP hD hS 1 0 rfl rfl h41 eg40 dMM_shorten_115 (ws' := (w_MM_shorten cI cZ cL cB q q_draft q_drafted q_counts q_symbols q_lengths q_codes q_often q_row q_number q_group q_bitsOf q_many k_thrown k_drafts k_words k_total k_size k_place g40 k_bitsOf k_often)) rfl (fun H locs hP hD hS => ?_)
            refine lv_aload_n hx hb dMM_shorten_116 rfl (lv_at hl 0 rfl) ?_
            refine va_get (D := (dC, dI)) (ci := 6) (v := .ref q_many) (C := RMM) (T := TMM) (N := 18) hx hb hts hi_MM hown hK hP 0 rfl rfl 17 (by decide) (hts _ tw_357) (fun _ h9 => h9) rfl dMM_shorten_117 ?_
            refine lv_iload_n hx hb dMM_shorten_120 rfl (lv_at hl 1 rfl) ?_
            refine lv_iconst (v := 1) hx hb dMM_shorten_121 (by decide) ?_
            refine lv_isub hx hb dMM_shorten_122 ?_
            refine lv_dup2_11 hx hb dMM_shorten_123 rfl rfl ?_
            obtain ⟨v42, ev42, h43, hf⟩ := rd_some hf
            refine ax_iald hx hb hK hP 1 0 rfl rfl h43 ev42 dMM_shorten_124 ?_
            refine lv_iconst (v := 1) hx hb dMM_shorten_125 (by decide) ?_
            refine lv_iadd hx hb dMM_shorten_126 ?_
            obtain ⟨g44, eg44, h45, hf⟩ := wr_some hf
            refine ax_iast hx hb hK hP hD hS 1 0 rfl rfl h45 eg44 dMM_shorten_127 (ws' := (w_MM_shorten cI cZ cL cB q q_draft q_drafted q_counts q_symbols q_lengths q_codes q_often q_row q_number q_group q_bitsOf q_many k_thrown k_drafts k_words k_total k_size k_place g44 k_bitsOf k_often)) rfl (fun H locs hP hD hS => ?_)
            refine lv_aload_n hx hb dMM_shorten_128 rfl (lv_at hl 0 rfl) ?_
            refine va_get (D := (dC, dI)) (ci := 6) (v := .ref q_many) (C := RMM) (T := TMM) (N := 18) hx hb hts hi_MM hown hK hP 0 rfl rfl 17 (by decide) (hts _ tw_357) (fun _ h9 => h9) rfl dMM_shorten_129 ?_
            refine lv_iload_n hx hb dMM_shorten_132 rfl (lv_at hl 2 rfl) ?_
            refine lv_iconst (v := 1) hx hb dMM_shorten_133 (by decide) ?_
            refine lv_iadd hx hb dMM_shorten_134 ?_
            refine lv_dup2_11 hx hb dMM_shorten_135 rfl rfl ?_
            obtain ⟨v46, ev46, h47, hf⟩ := rd_some hf
            refine ax_iald hx hb hK hP 1 0 rfl rfl h47 ev46 dMM_shorten_136 ?_
            refine lv_iconst (v := 2) hx hb dMM_shorten_137 (by decide) ?_
            refine lv_iadd hx hb dMM_shorten_138 ?_
            obtain ⟨g48, eg48, h49, hf⟩ := wr_some hf
            refine ax_iast hx hb hK hP hD hS 1 0 rfl rfl h49 eg48 dMM_shorten_139 (ws' := (w_MM_shorten cI cZ cL cB q q_draft q_drafted q_counts q_symbols q_lengths q_codes q_often q_row q_number q_group q_bitsOf q_many k_thrown k_drafts k_words k_total k_size k_place g48 k_bitsOf k_often)) rfl (fun H locs hP hD hS => ?_)
            refine lv_aload_n hx hb dMM_shorten_140 rfl (lv_at hl 0 rfl) ?_
            refine va_get (D := (dC, dI)) (ci := 6) (v := .ref q_many) (C := RMM) (T := TMM) (N := 18) hx hb hts hi_MM hown hK hP 0 rfl rfl 17 (by decide) (hts _ tw_357) (fun _ h9 => h9) rfl dMM_shorten_141 ?_
            refine lv_iload_n hx hb dMM_shorten_144 rfl (lv_at hl 2 rfl) ?_
            refine lv_dup2_11 hx hb dMM_shorten_145 rfl rfl ?_
            obtain ⟨v50, ev50, h51, hf⟩ := rd_some hf
            refine ax_iald hx hb hK hP 1 0 rfl rfl h51 ev50 dMM_shorten_146 ?_
            refine lv_iconst (v := 1) hx hb dMM_shorten_147 (by decide) ?_
            refine lv_isub hx hb dMM_shorten_148 ?_
            obtain ⟨g52, eg52, h53, hf⟩ := wr_some hf
            refine ax_iast hx hb hK hP hD hS 1 0 rfl rfl h53 eg52 dMM_shorten_149 (ws' := (w_MM_shorten cI cZ cL cB q q_draft q_drafted q_counts q_symbols q_lengths q_codes q_often q_row q_number q_group q_bitsOf q_many k_thrown k_drafts k_words k_total k_size k_place g52 k_bitsOf k_often)) rfl (fun H locs hP hD hS => ?_)
            refine lv_goto (tgt := 78) hx hb dMM_shorten_150 (by decide) ?_
            exact ih27 g52 hf _ _ _ hP hD hS (lv_sub hl [0, 1] rfl)
          · have hf := ifT hf c_37
            refine lv_iinc (v := (x34 + (-1))) (lv' := [(2, .int (x34 + (-1))), (0, .ref q), (1, .int x13)]) hx hb dMM_shorten_100 hl (k := 2) rfl rfl (by decide) rfl (fun ls hl => ?_)
            refine lv_goto (tgt := 91) hx hb dMM_shorten_103 (by decide) ?_
            exact ih33 (x34 + (-1)) hf _ _ _ hP hD hS (lv_sub hl [1, 2, 0] rfl)
    · have hf := ifF hf c_10
      refine lv_iload_n hx hb dMM_shorten_31 rfl (lv_at hl 1 rfl) ?_
      refine lv_sipush (v := 256) hx hb dMM_shorten_32 (by decide) ?_
      refine lv_icmp_eq (tgt := 47) hx hb dMM_shorten_35 (by decide) (fun c_54 => ?_) (fun c_54 => ?_)
      · have hf := ifT hf c_54
        refine lv_aload_n hx hb dMM_shorten_47 rfl (lv_at hl 0 rfl) ?_
        refine va_get (D := (dC, dI)) (ci := 6) (v := .ref q_many) (C := RMM) (T := TMM) (N := 18) hx hb hts hi_MM hown hK hP 0 rfl rfl 17 (by decide) (hts _ tw_357) (fun _ h9 => h9) rfl dMM_shorten_48 ?_
        refine lv_aload_n hx hb dMM_shorten_51 rfl (lv_at hl 0 rfl) ?_
        refine va_get (D := (dC, dI)) (ci := 6) (v := .ref q_bitsOf) (C := RMM) (T := TMM) (N := 18) hx hb hts hi_MM hown hK hP 0 rfl rfl 16 (by decide) (hts _ tw_356) (fun _ h9 => h9) rfl dMM_shorten_52 ?_
        refine lv_iload_n hx hb dMM_shorten_55 rfl (lv_at hl 1 rfl) ?_
        obtain ⟨v55, ev55, h56, hf⟩ := rd_some hf
        refine ax_iald hx hb hK hP 2 0 rfl rfl h56 ev55 dMM_shorten_56 ?_
        refine lv_dup2_11 hx hb dMM_shorten_57 rfl rfl ?_
        obtain ⟨v57, ev57, h58, hf⟩ := rd_some hf
        refine ax_iald hx hb hK hP 1 0 rfl rfl h58 ev57 dMM_shorten_58 ?_
        refine lv_iconst (v := 1) hx hb dMM_shorten_59 (by decide) ?_
        refine lv_iadd hx hb dMM_shorten_60 ?_
        obtain ⟨g59, eg59, h60, hf⟩ := wr_some hf
        refine ax_iast hx hb hK hP hD hS 1 0 rfl rfl h60 eg59 dMM_shorten_61 (ws' := (w_MM_shorten cI cZ cL cB q q_draft q_drafted q_counts q_symbols q_lengths q_codes q_often q_row q_number q_group q_bitsOf q_many k_thrown k_drafts k_words k_total k_size k_place g59 k_bitsOf k_often)) rfl (fun H locs hP hD hS => ?_)
        refine lv_iinc (v := (x8 + 1)) (lv' := [(1, .int (x8 + 1)), (0, .ref q)]) hx hb dMM_shorten_62 hl (k := 1) rfl rfl (by decide) rfl (fun ls hl => ?_)
        refine lv_goto (tgt := 24) hx hb dMM_shorten_65 (by decide) ?_
        exact ih7 (x8 + 1) g59 hf _ _ _ hP hD hS (lv_sub hl [1, 0] rfl)
      · have hf := ifF hf c_54
        refine lv_aload_n hx hb dMM_shorten_38 rfl (lv_at hl 0 rfl) ?_
        refine va_get (D := (dC, dI)) (ci := 6) (v := .ref q_often) (C := RMM) (T := TMM) (N := 18) hx hb hts hi_MM hown hK hP 0 rfl rfl 9 (by decide) (hts _ tw_349) (fun _ h9 => h9) rfl dMM_shorten_39 ?_
        refine lv_iload_n hx hb dMM_shorten_42 rfl (lv_at hl 1 rfl) ?_
        obtain ⟨v61, ev61, h62, hf⟩ := rd_some hf
        refine ax_iald hx hb hK hP 3 0 rfl rfl h62 ev61 dMM_shorten_43 ?_
        refine lv_if_le (tgt := 62) hx hb dMM_shorten_44 (by decide) (fun c_63 => ?_) (fun c_63 => ?_)
        · have hf := ifT hf c_63
          refine lv_iinc (v := (x8 + 1)) (lv' := [(1, .int (x8 + 1)), (0, .ref q)]) hx hb dMM_shorten_62 hl (k := 1) rfl rfl (by decide) rfl (fun ls hl => ?_)
          refine lv_goto (tgt := 24) hx hb dMM_shorten_65 (by decide) ?_
          exact ih7 (x8 + 1) x9 hf _ _ _ hP hD hS (lv_sub hl [1, 0] rfl)
        · have hf := ifF hf c_63
          refine lv_aload_n hx hb dMM_shorten_47 rfl (lv_at hl 0 rfl) ?_
          refine va_get (D := (dC, dI)) (ci := 6) (v := .ref q_many) (C := RMM) (T := TMM) (N := 18) hx hb hts hi_MM hown hK hP 0 rfl rfl 17 (by decide) (hts _ tw_357) (fun _ h9 => h9) rfl dMM_shorten_48 ?_
          refine lv_aload_n hx hb dMM_shorten_51 rfl (lv_at hl 0 rfl) ?_
          refine va_get (D := (dC, dI)) (ci := 6) (v := .ref q_bitsOf) (C := RMM) (T := TMM) (N := 18) hx hb hts hi_MM hown hK hP 0 rfl rfl 16 (by decide) (hts _ tw_356) (fun _ h9 => h9) rfl dMM_shorten_52 ?_
          refine lv_iload_n hx hb dMM_shorten_55 rfl (lv_at hl 1 rfl) ?_
          obtain ⟨v64, ev64, h65, hf⟩ := rd_some hf
          refine ax_iald hx hb hK hP 2 0 rfl rfl h65 ev64 dMM_shorten_56 ?_
          refine lv_dup2_11 hx hb dMM_shorten_57 rfl rfl ?_
          obtain ⟨v66, ev66, h67, hf⟩ := rd_some hf
          refine ax_iald hx hb hK hP 1 0 rfl rfl h67 ev66 dMM_shorten_58 ?_
          refine lv_iconst (v := 1) hx hb dMM_shorten_59 (by decide) ?_
          refine lv_iadd hx hb dMM_shorten_60 ?_
          obtain ⟨g68, eg68, h69, hf⟩ := wr_some hf
          refine ax_iast hx hb hK hP hD hS 1 0 rfl rfl h69 eg68 dMM_shorten_61 (ws' := (w_MM_shorten cI cZ cL cB q q_draft q_drafted q_counts q_symbols q_lengths q_codes q_often q_row q_number q_group q_bitsOf q_many k_thrown k_drafts k_words k_total k_size k_place g68 k_bitsOf k_often)) rfl (fun H locs hP hD hS => ?_)
          refine lv_iinc (v := (x8 + 1)) (lv' := [(1, .int (x8 + 1)), (0, .ref q)]) hx hb dMM_shorten_62 hl (k := 1) rfl rfl (by decide) rfl (fun ls hl => ?_)
          refine lv_goto (tgt := 24) hx hb dMM_shorten_65 (by decide) ?_
          exact ih7 (x8 + 1) g68 hf _ _ _ hP hD hS (lv_sub hl [1, 0] rfl)
  · have hf := ifF hf c_5
    refine lv_aload_n hx hb dMM_shorten_9 rfl (lv_at hl 0 rfl) ?_
    refine va_get (D := (dC, dI)) (ci := 6) (v := .ref q_many) (C := RMM) (T := TMM) (N := 18) hx hb hts hi_MM hown hK hP 0 rfl rfl 17 (by decide) (hts _ tw_357) (fun _ h9 => h9) rfl dMM_shorten_10 ?_
    refine lv_iload_n hx hb dMM_shorten_13 rfl (lv_at hl 1 rfl) ?_
    refine lv_iconst (v := 0) hx hb dMM_shorten_14 (by decide) ?_
    obtain ⟨g70, eg70, h71, hf⟩ := wr_some hf
    refine ax_iast hx hb hK hP hD hS 1 0 rfl rfl h71 eg70 dMM_shorten_15 (ws' := (w_MM_shorten cI cZ cL cB q q_draft q_drafted q_counts q_symbols q_lengths q_codes q_often q_row q_number q_group q_bitsOf q_many k_thrown k_drafts k_words k_total k_size k_place g70 k_bitsOf k_often)) rfl (fun H locs hP hD hS => ?_)
    refine lv_iinc (v := (x3 + 1)) (lv' := [(1, .int (x3 + 1)), (0, .ref q)]) hx hb dMM_shorten_16 hl (k := 1) rfl rfl (by decide) rfl (fun ls hl => ?_)
    refine lv_goto (tgt := 2) hx hb dMM_shorten_19 (by decide) ?_
    exact ih2 (x3 + 1) g70 hf _ _ _ hP hD hS (lv_sub hl [1, 0] rfl)
