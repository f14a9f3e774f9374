abbrev wsMM_lay : List Cond := Cond.code yMM_lay cMM_lay 4 none :: tt
set_option maxHeartbeats 4000000 in
set_option maxRecDepth 100000 in
theorem cc_MM_lay (l : Launch) (dC : Nat → ClassId) (dI : Nat → Nat → Nat) (cI cZ cL cB : ClassId) (q q_draft q_drafted q_counts q_symbols q_lengths q_codes q_often q_row q_number q_group q_bitsOf q_many : Nat) (sz : Nat) (k_thrown : Int32) (k_drafts : Int32) (k_words : Int32) (k_total : Int32) (k_size : Int32) (k_place : Int32) (k_row : Nat → Int32) (a_0 : Int32) (a_1 : Int32) (o_size : Int32) (o_row : Nat → Int32) (hf : f_MM_lay k_thrown k_drafts k_words k_total k_size k_place k_row a_0 a_1 = some (o_size, o_row)) : Met l yMM_lay wsMM_lay ({ frames := 0, cells := 0, slots := 0, locals := 0 }) (va_Pc [.ref q, .int a_0, .int a_1] (kz_P dC dI cI cZ cL cB sz (w_MM_lay cI cZ cL cB q q_draft q_drafted q_counts q_symbols q_lengths q_codes q_often q_row q_number q_group q_bitsOf q_many k_thrown k_drafts k_words k_total k_size k_place k_row))) (va_Qv (fun (_ : Unit) => True) (fun _ t => va_P (dC, dI) vwCl (w_MM_lay cI cZ cL cB q q_draft q_drafted q_counts q_symbols q_lengths q_codes q_often q_row q_number q_group q_bitsOf q_many k_thrown k_drafts k_words k_total o_size k_place o_row) t.heap ∧ va_D (va_A (w_MM_lay cI cZ cL cB q q_draft q_drafted q_counts q_symbols q_lengths q_codes q_often q_row q_number q_group q_bitsOf q_many k_thrown k_drafts k_words k_total k_size k_place k_row) sz) (w_MM_lay cI cZ cL cB q q_draft q_drafted q_counts q_symbols q_lengths q_codes q_often q_row q_number q_group q_bitsOf q_many k_thrown k_drafts k_words k_total o_size k_place o_row)) (va_A (w_MM_lay cI cZ cL cB q q_draft q_drafted q_counts q_symbols q_lengths q_codes q_often q_row q_number q_group q_bitsOf q_many k_thrown k_drafts k_words k_total k_size k_place k_row) sz)) 0 0 (va_A (w_MM_lay cI cZ cL cB q q_draft q_drafted q_counts q_symbols q_lengths q_codes q_often q_row q_number q_group q_bitsOf q_many k_thrown k_drafts k_words k_total k_size k_place k_row) sz) := by
  refine Met.ofW (cc := cMM_lay) (maxL := 4) (ret := none) (by decide) rfl ?_
  intro p e s m args below meth c s₁ B hml hv
  obtain ⟨rfl, hsz, hP, hZ, hD0⟩ := hv
  have hK := hZ.1
  have hx := B.exec
  have hb := B.bytes
  have hr := B.returns
  have hts : ∀ w ∈ tt, w.before _ s = true := fun w h => atoms_spec (ws := wsMM_lay) B.pre w (List.mem_cons_of_mem _ h)
  have hown : s.vm.findClass RMM = some m.cls := findClass_of_methodNamed B.named
  have hlocks := B.notSynchronized
  subst hsz
  have hD := hD0.self (sz := s.heap.size)
  generalize hAe : va_A (w_MM_lay cI cZ cL cB q q_draft q_drafted q_counts q_symbols q_lengths q_codes q_often q_row q_number q_group q_bitsOf q_many k_thrown k_drafts k_words k_total k_size k_place k_row) s.heap.size = A at hD ⊢
  have hA : ∀ q : Nat, s.heap.size ≤ q → A q := fun q h => by rw [← hAe]; exact Or.inr h
  have hS : va_S A s.heap s.heap [] := va_S.rf
  have hl := lv_entry [.ref q, .int a_0, .int a_1] (n := 4) (Nat.le_of_ble_eq_true rfl)
  rw [lg_entry_eq]
  generalize (lg_sl [.ref q, .int a_0, .int a_1] ++ List.replicate (4 - (lg_sl [.ref q, .int a_0, .int a_1]).length) Slot.unset).toArray = ls at hl ⊢
  have hl : lv_has ls 4 [(0, .ref q), (1, .int a_0), (2, .int a_1)] := hl
  unfold f_MM_lay at hf
  refine lv_iload_n hx hb dMM_lay_0 rfl (lv_at hl 2 rfl) ?_
  refine lv_iconst (v := 1) hx hb dMM_lay_1 (by decide) ?_
  refine lv_isub hx hb dMM_lay_2 ?_
  refine lv_istore_n (lv' := [(3, .int (a_1 - 1)), (0, .ref q), (1, .int a_0), (2, .int a_1)]) hx hb dMM_lay_3 rfl hl (by decide) rfl (fun ls hl => ?_)
  refine Lp3_W (P := fun (x3 : Int32) (x4 : Nat → Int32) (x5 : Int32) => ∀ (H : Heap) (locs : List Loc) (ls : Array Slot), va_P (dC, dI) vwCl (w_MM_lay cI cZ cL cB q q_draft q_drafted q_counts q_symbols q_lengths q_codes q_often q_row q_number q_group q_bitsOf q_many k_thrown k_drafts k_words k_total x5 k_place x4) H → va_D A (w_MM_lay cI cZ cL cB q q_draft q_drafted q_counts q_symbols q_lengths q_codes q_often q_row q_number q_group q_bitsOf q_many k_thrown k_drafts k_words k_total x5 k_place x4) → va_S A s.heap H locs → lv_has ls 4 [(0, .ref q), (1, .int a_0), (2, .int a_1), (3, .int x3)] → W p l e _ s m _ below meth c H locs 0 0 _ (F0 m 4 ls [])) ?_ _ _ _ _ hf _ _ _ hP hD hS (lv_sub hl [1, 2, 3, 0] rfl)
  clear hf hP hD hS hl
  intro ag1 ih2 x3 x4 x5 hf H locs ls hP hD hS hl
  refine lv_iload_n hx hb dMM_lay_4 rfl (lv_at hl 3 rfl) ?_
  refine lv_if_lt (tgt := 39) hx hb dMM_lay_5 (by decide) (fun c_6 => ?_) (fun c_6 => ?_)
  · have hf := ifT hf c_6
    cases hf
    exact ax_vret hx hb hr hP hD hS dMM_lay_39 hlocks
  · have hf := ifF hf c_6
    refine lv_aload_n hx hb dMM_lay_8 rfl (lv_at hl 0 rfl) ?_
    refine va_get (D := (dC, dI)) (ci := 6) (v := .ref q_row) (C := RMM) (T := TMM) (N := 18) hx hb hts hi_MM hown hK hP 0 rfl rfl 11 (by decide) (hts _ tw_351) (fun _ h9 => h9) rfl dMM_lay_9 ?_
    refine lv_aload_n hx hb dMM_lay_12 rfl (lv_at hl 0 rfl) ?_
    refine va_get (D := (dC, dI)) (ci := 6) (v := .int x5) (C := RMM) (T := TMM) (N := 18) hx hb hts hi_MM hown hK hP 0 rfl rfl 12 (by decide) (hts _ tw_352) (fun _ h9 => h9) rfl dMM_lay_13 ?_
    refine lv_iload_n hx hb dMM_lay_16 rfl (lv_at hl 1 rfl) ?_
    refine lv_iload_n hx hb dMM_lay_17 rfl (lv_at hl 3 rfl) ?_
    refine lv_ishr hx hb dMM_lay_18 ?_
    refine lv_iconst (v := 1) hx hb dMM_lay_19 (by decide) ?_
    refine lv_iand hx hb dMM_lay_20 ?_
    refine lv_i2b (v := ((a_0 >>> (x3 &&& 31)) &&& 1).toInt8.toInt32) hx hb dMM_lay_21 rfl ?_
    obtain ⟨g7, eg7, h8, hf⟩ := wr_some hf
    refine ax_bast hx hb hK hP hD hS 1 3 rfl rfl h8 eg7 dMM_lay_22 (ws' := (w_MM_lay cI cZ cL cB q q_draft q_drafted q_counts q_symbols q_lengths q_codes q_often q_row q_number q_group q_bitsOf q_many k_thrown k_drafts k_words k_total x5 k_place g7)) rfl (fun H locs hP hD hS => ?_)
    refine lv_aload_n hx hb dMM_lay_23 rfl (lv_at hl 0 rfl) ?_
    refine lv_dup hx hb dMM_lay_24 rfl ?_
    refine va_get (D := (dC, dI)) (ci := 6) (v := .int x5) (C := RMM) (T := TMM) (N := 18) hx hb hts hi_MM hown hK hP 0 rfl rfl 12 (by decide) (hts _ tw_352) (fun _ h9 => h9) rfl dMM_lay_25 ?_
    refine lv_iconst (v := 1) hx hb dMM_lay_28 (by decide) ?_
    refine lv_iadd hx hb dMM_lay_29 ?_
    refine va_put (D := (dC, dI)) (ci := 6) (v := .int (x5 + 1)) (ty := .int) (C := RMM) (T := TMM) (N := 18) hx hb hts hi_MM tyMM tyMM_ok nmMM hown hK hP hD hS 0 rfl rfl 12 (by decide) (hts _ tw_352) (fun _ h9 => h9) rfl (by decide +kernel) rfl rfl (Nat.le_of_ble_eq_true rfl) dMM_lay_30 (fun H locs hP hD hS => ?_)
    have hP : va_P (dC, dI) vwCl (w_MM_lay cI cZ cL cB q q_draft q_drafted q_counts q_symbols q_lengths q_codes q_often q_row q_number q_group q_bitsOf q_many k_thrown k_drafts k_words k_total (x5 + 1) k_place g7) H := hP
    have hD : va_D A (w_MM_lay cI cZ cL cB q q_draft q_drafted q_counts q_symbols q_lengths q_codes q_often q_row q_number q_group q_bitsOf q_many k_thrown k_drafts k_words k_total (x5 + 1) k_place g7) := hD
    refine lv_iinc (v := (x3 + (-1))) (lv' := [(3, .int (x3 + (-1))), (0, .ref q), (1, .int a_0), (2, .int a_1)]) hx hb dMM_lay_33 hl (k := 3) rfl rfl (by decide) rfl (fun ls hl => ?_)
    refine lv_goto (tgt := 4) hx hb dMM_lay_36 (by decide) ?_
    exact ih2 (x3 + (-1)) g7 (x5 + 1) hf _ _ _ hP hD hS (lv_sub hl [1, 2, 3, 0] rfl)
