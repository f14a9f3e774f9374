abbrev wsMM_cut : List Cond := Cond.code yMM_cut cMM_cut 2 (some .boolean) :: tt
set_option maxHeartbeats 4000000 in
set_option maxRecDepth 100000 in
theorem cc_MM_cut (l : Launch) (dC : Nat → ClassId) (dI : Nat → Nat → Nat) (cI cZ cL cB : ClassId) (q q_draft q_drafted q_counts q_symbols q_lengths q_codes q_often q_row q_number q_group q_bitsOf q_many : Nat) (sz : Nat) (k_thrown : Int32) (k_drafts : Int32) (k_words : Int32) (k_total : Int32) (k_size : Int32) (k_place : Int32) (a_0 : Int32) (r : Int32) (o_thrown : Int32) (o_size : Int32) (o_place : Int32) (hf : f_MM_cut k_thrown k_drafts k_words k_total k_size k_place a_0 = some (r, o_thrown, o_size, o_place)) : Met l yMM_cut wsMM_cut ({ frames := 0, cells := 0, slots := 0, locals := 0 }) (va_Pc [.ref q, .int a_0] (kz_P dC dI cI cZ cL cB sz (w_MM_cut cI cZ cL cB q q_draft q_drafted q_counts q_symbols q_lengths q_codes q_often q_row q_number q_group q_bitsOf q_many k_thrown k_drafts k_words k_total k_size k_place))) (va_Qi (fun (r' : Int32) (_ : Unit) => r' = r) (fun _ t => va_P (dC, dI) vwCl (w_MM_cut cI cZ cL cB q q_draft q_drafted q_counts q_symbols q_lengths q_codes q_often q_row q_number q_group q_bitsOf q_many o_thrown k_drafts k_words k_total o_size o_place) t.heap ∧ va_D (va_A (w_MM_cut cI cZ cL cB q q_draft q_drafted q_counts q_symbols q_lengths q_codes q_often q_row q_number q_group q_bitsOf q_many k_thrown k_drafts k_words k_total k_size k_place) sz) (w_MM_cut cI cZ cL cB q q_draft q_drafted q_counts q_symbols q_lengths q_codes q_often q_row q_number q_group q_bitsOf q_many o_thrown k_drafts k_words k_total o_size o_place)) (va_A (w_MM_cut cI cZ cL cB q q_draft q_drafted q_counts q_symbols q_lengths q_codes q_often q_row q_number q_group q_bitsOf q_many k_thrown k_drafts k_words k_total k_size k_place) sz)) 0 0 (va_A (w_MM_cut cI cZ cL cB q q_draft q_drafted q_counts q_symbols q_lengths q_codes q_often q_row q_number q_group q_bitsOf q_many k_thrown k_drafts k_words k_total k_size k_place) sz) := by
  refine Met.ofW (cc := cMM_cut) (maxL := 2) (ret := (some .boolean)) (by decide) rfl ?_
  intro p e s m args below meth c s₁ B hml hv
  obtain ⟨rfl, hsz, hP, hZ, hD0⟩ := hv
  have hK := hZ.1
  have hx := B.exec
  have hb := B.bytes
  have hr := B.returns
  have hts : ∀ w ∈ tt, w.before _ s = true := fun w h => atoms_spec (ws := wsMM_cut) B.pre w (List.mem_cons_of_mem _ h)
  have hown : s.vm.findClass RMM = some m.cls := findClass_of_methodNamed B.named
  have hlocks := B.notSynchronized
  subst hsz
  have hD := hD0.self (sz := s.heap.size)
  generalize hAe : va_A (w_MM_cut cI cZ cL cB q q_draft q_drafted q_counts q_symbols q_lengths q_codes q_often q_row q_number q_group q_bitsOf q_many k_thrown k_drafts k_words k_total k_size k_place) s.heap.size = A at hD ⊢
  have hA : ∀ q : Nat, s.heap.size ≤ q → A q := fun q h => by rw [← hAe]; exact Or.inr h
  have hS : va_S A s.heap s.heap [] := va_S.rf
  have hl := lv_entry [.ref q, .int a_0] (n := 2) (Nat.le_of_ble_eq_true rfl)
  rw [lg_entry_eq]
  generalize (lg_sl [.ref q, .int a_0] ++ List.replicate (2 - (lg_sl [.ref q, .int a_0]).length) Slot.unset).toArray = ls at hl ⊢
  have hl : lv_has ls 2 [(0, .ref q), (1, .int a_0)] := hl
  unfold f_MM_cut at hf
  refine lv_aload_n hx hb dMM_cut_0 rfl (lv_at hl 0 rfl) ?_
  refine lv_iconst (v := 0) hx hb dMM_cut_1 (by decide) ?_
  refine va_put (D := (dC, dI)) (ci := 6) (v := .int 0) (ty := .int) (C := RMM) (T := TMM) (N := 18) hx hb hts hi_MM tyMM tyMM_ok nmMM hown hK hP hD hS 0 rfl rfl 0 (by decide) (hts _ tw_340) (fun _ h9 => h9) rfl (by decide +kernel) rfl rfl (Nat.le_of_ble_eq_true rfl) dMM_cut_2 (fun H locs hP hD hS => ?_)
  have hP : va_P (dC, dI) vwCl (w_MM_cut cI cZ cL cB q q_draft q_drafted q_counts q_symbols q_lengths q_codes q_often q_row q_number q_group q_bitsOf q_many 0 k_drafts k_words k_total k_size k_place) H := hP
  have hD : va_D A (w_MM_cut cI cZ cL cB q q_draft q_drafted q_counts q_symbols q_lengths q_codes q_often q_row q_number q_group q_bitsOf q_many 0 k_drafts k_words k_total k_size k_place) := hD
  refine lv_iload_n hx hb dMM_cut_5 rfl (lv_at hl 1 rfl) ?_
  refine lv_if_lt (tgt := 17) hx hb dMM_cut_6 (by decide) (fun c_1 => ?_) (fun c_1 => ?_)
  · have hf := ifT hf c_1
    refine lv_iconst (v := 0) hx hb dMM_cut_17 (by decide) ?_
    cases hf
    exact ax_zret hx hb hr rfl hP hD hS dMM_cut_18 hlocks
  · have hf := ifF hf c_1
    refine lv_iload_n hx hb dMM_cut_9 rfl (lv_at hl 1 rfl) ?_
    refine lv_aload_n hx hb dMM_cut_10 rfl (lv_at hl 0 rfl) ?_
    refine va_get (D := (dC, dI)) (ci := 6) (v := .int k_size) (C := RMM) (T := TMM) (N := 18) hx hb hts hi_MM hown hK hP 0 rfl rfl 12 (by decide) (hts _ tw_352) (fun _ h9 => h9) rfl dMM_cut_11 ?_
    refine lv_icmp_le (tgt := 19) hx hb dMM_cut_14 (by decide) (fun c_2 => ?_) (fun c_2 => ?_)
    · have hf := ifT hf c_2
      refine lv_aload_n hx hb dMM_cut_19 rfl (lv_at hl 0 rfl) ?_
      refine lv_iload_n hx hb dMM_cut_20 rfl (lv_at hl 1 rfl) ?_
      refine va_put (D := (dC, dI)) (ci := 6) (v := .int a_0) (ty := .int) (C := RMM) (T := TMM) (N := 18) hx hb hts hi_MM tyMM tyMM_ok nmMM hown hK hP hD hS 0 rfl rfl 12 (by decide) (hts _ tw_352) (fun _ h9 => h9) rfl (by decide +kernel) rfl rfl (Nat.le_of_ble_eq_true rfl) dMM_cut_21 (fun H locs hP hD hS => ?_)
      have hP : va_P (dC, dI) vwCl (w_MM_cut cI cZ cL cB q q_draft q_drafted q_counts q_symbols q_lengths q_codes q_often q_row q_number q_group q_bitsOf q_many 0 k_drafts k_words k_total a_0 k_place) H := hP
      have hD : va_D A (w_MM_cut cI cZ cL cB q q_draft q_drafted q_counts q_symbols q_lengths q_codes q_often q_row q_number q_group q_bitsOf q_many 0 k_drafts k_words k_total a_0 k_place) := hD
      refine lv_aload_n hx hb dMM_cut_24 rfl (lv_at hl 0 rfl) ?_
      refine lv_aload_n hx hb dMM_cut_25 rfl (lv_at hl 0 rfl) ?_
      refine va_get (D := (dC, dI)) (ci := 6) (v := .int k_place) (C := RMM) (T := TMM) (N := 18) hx hb hts hi_MM hown hK hP 0 rfl rfl 13 (by decide) (hts _ tw_353) (fun _ h9 => h9) rfl dMM_cut_26 ?_
      refine lv_iload_n hx hb dMM_cut_29 rfl (lv_at hl 1 rfl) ?_
      refine lv_icmp_le (tgt := 37) hx hb dMM_cut_30 (by decide) (fun c_3 => ?_) (fun c_3 => ?_)
      · have hf := ifT hf c_3
        refine lv_aload_n hx hb dMM_cut_37 rfl (lv_at hl 0 rfl) ?_
        refine va_get (D := (dC, dI)) (ci := 6) (v := .int k_place) (C := RMM) (T := TMM) (N := 18) hx hb hts hi_MM hown hK hP 0 rfl rfl 13 (by decide) (hts _ tw_353) (fun _ h9 => h9) rfl dMM_cut_38 ?_
        refine va_put (D := (dC, dI)) (ci := 6) (v := .int k_place) (ty := .int) (C := RMM) (T := TMM) (N := 18) hx hb hts hi_MM tyMM tyMM_ok nmMM hown hK hP hD hS 0 rfl rfl 13 (by decide) (hts _ tw_353) (fun _ h9 => h9) rfl (by decide +kernel) rfl rfl (Nat.le_of_ble_eq_true rfl) dMM_cut_41 (fun H locs hP hD hS => ?_)
        have hP : va_P (dC, dI) vwCl (w_MM_cut cI cZ cL cB q q_draft q_drafted q_counts q_symbols q_lengths q_codes q_often q_row q_number q_group q_bitsOf q_many 0 k_drafts k_words k_total a_0 k_place) H := hP
        have hD : va_D A (w_MM_cut cI cZ cL cB q q_draft q_drafted q_counts q_symbols q_lengths q_codes q_often q_row q_number q_group q_bitsOf q_many 0 k_drafts k_words k_total a_0 k_place) := hD
        refine lv_iconst (v := 1) hx hb dMM_cut_44 (by decide) ?_
        cases hf
        exact ax_zret hx hb hr rfl hP hD hS dMM_cut_45 hlocks
      · have hf := ifF hf c_3
        refine lv_iload_n hx hb dMM_cut_33 rfl (lv_at hl 1 rfl) ?_
        refine lv_goto (tgt := 41) hx hb dMM_cut_34 (by decide) ?_
        refine va_put (D := (dC, dI)) (ci := 6) (v := .int a_0) (ty := .int) (C := RMM) (T := TMM) (N := 18) hx hb hts hi_MM tyMM tyMM_ok nmMM hown hK hP hD hS 0 rfl rfl 13 (by decide) (hts _ tw_353) (fun _ h9 => h9) rfl (by decide +kernel) rfl rfl (Nat.le_of_ble_eq_true rfl) dMM_cut_41 (fun H locs hP hD hS => ?_)
        have hP : va_P (dC, dI) vwCl (w_MM_cut cI cZ cL cB q q_draft q_drafted q_counts q_symbols q_lengths q_codes q_often q_row q_number q_group q_bitsOf q_many 0 k_drafts k_words k_total a_0 a_0) H := hP
        have hD : va_D A (w_MM_cut cI cZ cL cB q q_draft q_drafted q_counts q_symbols q_lengths q_codes q_often q_row q_number q_group q_bitsOf q_many 0 k_drafts k_words k_total a_0 a_0) := hD
        refine lv_iconst (v := 1) hx hb dMM_cut_44 (by decide) ?_
        cases hf
        exact ax_zret hx hb hr rfl hP hD hS dMM_cut_45 hlocks
    · have hf := ifF hf c_2
      refine lv_iconst (v := 0) hx hb dMM_cut_17 (by decide) ?_
      cases hf
      exact ax_zret hx hb hr rfl hP hD hS dMM_cut_18 hlocks
abbrev wsMM_look : List Cond := Cond.code yMM_look cMM_look 5 (some .int) :: tt
set_option maxHeartbeats 4000000 in
set_option maxRecDepth 100000 in
theorem cc_MM_look (l : Launch) (dC : Nat → ClassId) (dI : Nat → Nat → Nat) (cI cZ cL cB : ClassId) (q q_draft q_drafted q_counts q_symbols q_lengths q_codes q_often q_row q_number q_group q_bitsOf q_many : Nat) (sz : Nat) (k_thrown : Int32) (k_drafts : Int32) (k_words : Int32) (k_total : Int32) (k_size : Int32) (k_place : Int32) (k_often : Nat → Int32) (k_lengths : Nat → Int32) (a_0 : Int32) (r : Int32) (o_thrown : Int32) (hf : f_MM_look k_thrown k_drafts k_words k_total k_size k_place k_often k_lengths a_0 = some (r, o_thrown)) : Met l yMM_look wsMM_look ({ frames := 0, cells := 0, slots := 0, locals := 0 }) (va_Pc [.ref q, .int a_0] (kz_P dC dI cI cZ cL cB sz (w_MM_look cI cZ cL cB q q_draft q_drafted q_counts q_symbols q_lengths q_codes q_often q_row q_number q_group q_bitsOf q_many k_thrown k_drafts k_words k_total k_size k_place k_often k_lengths))) (va_Qi (fun (r' : Int32) (_ : Unit) => r' = r) (fun _ t => va_P (dC, dI) vwCl (w_MM_look cI cZ cL cB q q_draft q_drafted q_counts q_symbols q_lengths q_codes q_often q_row q_number q_group q_bitsOf q_many o_thrown k_drafts k_words k_total k_size k_place k_often k_lengths) t.heap ∧ va_D (va_A (w_MM_look cI cZ cL cB q q_draft q_drafted q_counts q_symbols q_lengths q_codes q_often q_row q_number q_group q_bitsOf q_many k_thrown k_drafts k_words k_total k_size k_place k_often k_lengths) sz) (w_MM_look cI cZ cL cB q q_draft q_drafted q_counts q_symbols q_lengths q_codes q_often q_row q_number q_group q_bitsOf q_many o_thrown k_drafts k_words k_total k_size k_place k_often k_lengths)) (va_A (w_MM_look cI cZ cL cB q q_draft q_drafted q_counts q_symbols q_lengths q_codes q_often q_row q_number q_group q_bitsOf q_many k_thrown k_drafts k_words k_total k_size k_place k_often k_lengths) sz)) 0 0 (va_A (w_MM_look cI cZ cL cB q q_draft q_drafted q_counts q_symbols q_lengths q_codes q_often q_row q_number q_group q_bitsOf q_many k_thrown k_drafts k_words k_total k_size k_place k_often k_lengths) sz) := by
  refine Met.ofW (cc := cMM_look) (maxL := 5) (ret := (some .int)) (by decide) rfl ?_
  intro p e s m args below meth c s₁ B hml hv
  obtain ⟨rfl, hsz, hP, hZ, hD0⟩ := hv
  have hK := hZ.1
  have hx := B.exec
  have hb := B.bytes
  have hr := B.returns
  have hts : ∀ w ∈ tt, w.before _ s = true := fun w h => atoms_spec (ws := wsMM_look) B.pre w (List.mem_cons_of_mem _ h)
  have hown : s.vm.findClass RMM = some m.cls := findClass_of_methodNamed B.named
  have hlocks := B.notSynchronized
  subst hsz
  have hD := hD0.self (sz := s.heap.size)
  generalize hAe : va_A (w_MM_look cI cZ cL cB q q_draft q_drafted q_counts q_symbols q_lengths q_codes q_often q_row q_number q_group q_bitsOf q_many k_thrown k_drafts k_words k_total k_size k_place k_often k_lengths) s.heap.size = A at hD ⊢
  have hA : ∀ q : Nat, s.heap.size ≤ q → A q := fun q h => by rw [← hAe]; exact Or.inr h
  have hS : va_S A s.heap s.heap [] := va_S.rf
  have hl := lv_entry [.ref q, .int a_0] (n := 5) (Nat.le_of_ble_eq_true rfl)
  rw [lg_entry_eq]
  generalize (lg_sl [.ref q, .int a_0] ++ List.replicate (5 - (lg_sl [.ref q, .int a_0]).length) Slot.unset).toArray = ls at hl ⊢
  have hl : lv_has ls 5 [(0, .ref q), (1, .int a_0)] := hl
  unfold f_MM_look at hf
  refine lv_aload_n hx hb dMM_look_0 rfl (lv_at hl 0 rfl) ?_
  refine lv_iconst (v := 0) hx hb dMM_look_1 (by decide) ?_
  refine va_put (D := (dC, dI)) (ci := 6) (v := .int 0) (ty := .int) (C := RMM) (T := TMM) (N := 18) hx hb hts hi_MM tyMM tyMM_ok nmMM hown hK hP hD hS 0 rfl rfl 0 (by decide) (hts _ tw_340) (fun _ h9 => h9) rfl (by decide +kernel) rfl rfl (Nat.le_of_ble_eq_true rfl) dMM_look_2 (fun H locs hP hD hS => ?_)
  have hP : va_P (dC, dI) vwCl (w_MM_look cI cZ cL cB q q_draft q_drafted q_counts q_symbols q_lengths q_codes q_often q_row q_number q_group q_bitsOf q_many 0 k_drafts k_words k_total k_size k_place k_often k_lengths) H := hP
  have hD : va_D A (w_MM_look cI cZ cL cB q q_draft q_drafted q_counts q_symbols q_lengths q_codes q_often q_row q_number q_group q_bitsOf q_many 0 k_drafts k_words k_total k_size k_place k_often k_lengths) := hD
  refine lv_iconst (v := 0) hx hb dMM_look_5 (by decide) ?_
  refine lv_istore_n (lv' := [(2, .int 0), (0, .ref q), (1, .int a_0)]) hx hb dMM_look_6 rfl hl (by decide) rfl (fun ls hl => ?_)
  refine lv_iconst (v := 0) hx hb dMM_look_7 (by decide) ?_
  refine lv_istore_n (lv' := [(3, .int 0), (2, .int 0), (0, .ref q), (1, .int a_0)]) hx hb dMM_look_8 rfl hl (by decide) rfl (fun ls hl => ?_)
  refine lv_iconst (v := 0) hx hb dMM_look_9 (by decide) ?_
  refine lv_istore (lv' := [(4, .int 0), (3, .int 0), (2, .int 0), (0, .ref q), (1, .int a_0)]) hx hb dMM_look_10 hl (by decide) rfl (fun ls hl => ?_)
  refine Lp3_W (P := fun (x3 : Int32) (x4 : Int32) (x5 : Int32) => ∀ (H : Heap) (locs : List Loc) (ls : Array Slot), va_P (dC, dI) vwCl (w_MM_look cI cZ cL cB q q_draft q_drafted q_counts q_symbols q_lengths q_codes q_often q_row q_number q_group q_bitsOf q_many 0 k_drafts k_words k_total k_size k_place k_often k_lengths) H → va_D A (w_MM_look cI cZ cL cB q q_draft q_drafted q_counts q_symbols q_lengths q_codes q_often q_row q_number q_group q_bitsOf q_many 0 k_drafts k_words k_total k_size k_place k_often k_lengths) → va_S A s.heap H locs → lv_has ls 5 [(0, .ref q), (1, .int a_0), (2, .int x3), (3, .int x4), (4, .int x5)] → W p l e _ s m _ below meth c H locs 0 0 _ (F0 m 12 ls [])) ?_ _ _ _ _ hf _ _ _ hP hD hS (lv_sub hl [3, 4, 2, 1, 0] rfl)
  clear hf hP hD hS hl
  intro ag1 ih2 x3 x4 x5 hf H locs ls hP hD hS hl
  refine lv_iload hx hb dMM_look_12 (lv_at hl 4 rfl) ?_
  refine lv_sipush (v := 256) hx hb dMM_look_14 (by decide) ?_
  refine lv_icmp_ge (tgt := 67) hx hb dMM_look_17 (by decide) (fun c_6 => ?_) (fun c_6 => ?_)
  · have hf := ifT hf c_6
    refine lv_iload_n hx hb dMM_look_67 rfl (lv_at hl 1 rfl) ?_
    by_cases c_7 : a_0 = 0
    · have hf := ifT hf c_7
      refine lv_tableIn (off := 44) (tgt := 112) hx hb dMM_look_68 (by rw [c_7]; decide) (by rw [c_7]; decide) (by rw [c_7]; rfl) (by decide) ?_
      refine lv_aload_n hx hb dMM_look_112 rfl (lv_at hl 0 rfl) ?_
      refine va_get (D := (dC, dI)) (ci := 6) (v := .int k_words) (C := RMM) (T := TMM) (N := 18) hx hb hts hi_MM hown hK hP 0 rfl rfl 6 (by decide) (hts _ tw_346) (fun _ h9 => h9) rfl dMM_look_113 ?_
      cases hf
      exact ax_iret hx hb hr hP hD hS dMM_look_116 hlocks
    have hf := ifF hf c_7
    by_cases c_8 : a_0 = 1
    · have hf := ifT hf c_8
      refine lv_tableIn (off := 49) (tgt := 117) hx hb dMM_look_68 (by rw [c_8]; decide) (by rw [c_8]; decide) (by rw [c_8]; rfl) (by decide) ?_
      refine lv_aload_n hx hb dMM_look_117 rfl (lv_at hl 0 rfl) ?_
      refine va_get (D := (dC, dI)) (ci := 6) (v := .int k_drafts) (C := RMM) (T := TMM) (N := 18) hx hb hts hi_MM hown hK hP 0 rfl rfl 3 (by decide) (hts _ tw_343) (fun _ h9 => h9) rfl dMM_look_118 ?_
      cases hf
      exact ax_iret hx hb hr hP hD hS dMM_look_121 hlocks
    have hf := ifF hf c_8
    by_cases c_9 : a_0 = 2
    · have hf := ifT hf c_9
      refine lv_tableIn (off := 54) (tgt := 122) hx hb dMM_look_68 (by rw [c_9]; decide) (by rw [c_9]; decide) (by rw [c_9]; rfl) (by decide) ?_
      refine lv_aload_n hx hb dMM_look_122 rfl (lv_at hl 0 rfl) ?_
      refine va_get (D := (dC, dI)) (ci := 6) (v := .int k_size) (C := RMM) (T := TMM) (N := 18) hx hb hts hi_MM hown hK hP 0 rfl rfl 12 (by decide) (hts _ tw_352) (fun _ h9 => h9) rfl dMM_look_123 ?_
      cases hf
      exact ax_iret hx hb hr hP hD hS dMM_look_126 hlocks
    have hf := ifF hf c_9
    by_cases c_10 : a_0 = 3
    · have hf := ifT hf c_10
      refine lv_tableIn (off := 59) (tgt := 127) hx hb dMM_look_68 (by rw [c_10]; decide) (by rw [c_10]; decide) (by rw [c_10]; rfl) (by decide) ?_
      refine lv_aload_n hx hb dMM_look_127 rfl (lv_at hl 0 rfl) ?_
      refine va_get (D := (dC, dI)) (ci := 6) (v := .int k_place) (C := RMM) (T := TMM) (N := 18) hx hb hts hi_MM hown hK hP 0 rfl rfl 13 (by decide) (hts _ tw_353) (fun _ h9 => h9) rfl dMM_look_128 ?_
      cases hf
      exact ax_iret hx hb hr hP hD hS dMM_look_131 hlocks
    have hf := ifF hf c_10
    by_cases c_11 : a_0 = 4
    · have hf := ifT hf c_11
      refine lv_tableIn (off := 64) (tgt := 132) hx hb dMM_look_68 (by rw [c_11]; decide) (by rw [c_11]; decide) (by rw [c_11]; rfl) (by decide) ?_
      refine lv_aload_n hx hb dMM_look_132 rfl (lv_at hl 0 rfl) ?_
      refine va_get (D := (dC, dI)) (ci := 6) (v := .int k_total) (C := RMM) (T := TMM) (N := 18) hx hb hts hi_MM hown hK hP 0 rfl rfl 10 (by decide) (hts _ tw_350) (fun _ h9 => h9) rfl dMM_look_133 ?_
      cases hf
      exact ax_iret hx hb hr hP hD hS dMM_look_136 hlocks
    have hf := ifF hf c_11
    by_cases c_12 : a_0 = 5
    · have hf := ifT hf c_12
      refine lv_tableIn (off := 69) (tgt := 137) hx hb dMM_look_68 (by rw [c_12]; decide) (by rw [c_12]; decide) (by rw [c_12]; rfl) (by decide) ?_
      refine lv_iload_n hx hb dMM_look_137 rfl (lv_at hl 2 rfl) ?_
      cases hf
      exact ax_iret hx hb hr hP hD hS dMM_look_138 hlocks
    have hf := ifF hf c_12
    by_cases c_13 : a_0 = 6
    · have hf := ifT hf c_13
      refine lv_tableIn (off := 71) (tgt := 139) hx hb dMM_look_68 (by rw [c_13]; decide) (by rw [c_13]; decide) (by rw [c_13]; rfl) (by decide) ?_
      refine lv_iload_n hx hb dMM_look_139 rfl (lv_at hl 3 rfl) ?_
      cases hf
      exact ax_iret hx hb hr hP hD hS dMM_look_140 hlocks
    have hf := ifF hf c_13
    refine lv_tableOut (tgt := 141) hx hb dMM_look_68 (by have z0 := lv_neT c_7 (show (0 : Int32).toInt = 0 from rfl); have z1 := lv_neT c_8 (show (1 : Int32).toInt = 1 from rfl); have z2 := lv_neT c_9 (show (2 : Int32).toInt = 2 from rfl); have z3 := lv_neT c_10 (show (3 : Int32).toInt = 3 from rfl); have z4 := lv_neT c_11 (show (4 : Int32).toInt = 4 from rfl); have z5 := lv_neT c_12 (show (5 : Int32).toInt = 5 from rfl); have z6 := lv_neT c_13 (show (6 : Int32).toInt = 6 from rfl); omega) (by decide) ?_
    refine lv_iconst (v := (-1)) hx hb dMM_look_141 (by decide) ?_
    cases hf
    exact ax_iret hx hb hr hP hD hS dMM_look_142 hlocks
  · have hf := ifF hf c_6
    refine lv_iload_n hx hb dMM_look_20 rfl (lv_at hl 2 rfl) ?_
    refine lv_aload_n hx hb dMM_look_21 rfl (lv_at hl 0 rfl) ?_
    refine va_get (D := (dC, dI)) (ci := 6) (v := .ref q_often) (C := RMM) (T := TMM) (N := 18) hx hb hts hi_MM hown hK hP 0 rfl rfl 9 (by decide) (hts _ tw_349) (fun _ h9 => h9) rfl dMM_look_22 ?_
    refine lv_iload hx hb dMM_look_25 (lv_at hl 4 rfl) ?_
    obtain ⟨v14, ev14, h15, hf⟩ := rd_some hf
    refine ax_iald hx hb hK hP 1 0 rfl rfl h15 ev14 dMM_look_27 ?_
    refine lv_if_le (tgt := 35) hx hb dMM_look_28 (by decide) (fun c_16 => ?_) (fun c_16 => ?_)
    · have hf := ifT hf c_16
      refine lv_iconst (v := 0) hx hb dMM_look_35 (by decide) ?_
      refine lv_iadd hx hb dMM_look_36 ?_
      refine lv_istore_n (lv' := [(2, .int (x3 + 0)), (0, .ref q), (1, .int a_0), (3, .int x4), (4, .int x5)]) hx hb dMM_look_37 rfl hl (by decide) rfl (fun ls hl => ?_)
      refine lv_aload_n hx hb dMM_look_38 rfl (lv_at hl 1 rfl) ?_
      refine va_get (D := (dC, dI)) (ci := 6) (v := .ref q_lengths) (C := RMM) (T := TMM) (N := 18) hx hb hts hi_MM hown hK hP 0 rfl rfl 7 (by decide) (hts _ tw_347) (fun _ h9 => h9) rfl dMM_look_39 ?_
      refine lv_iload hx hb dMM_look_42 (lv_at hl 4 rfl) ?_
      obtain ⟨v17, ev17, h18, hf⟩ := rd_some hf
      refine ax_iald hx hb hK hP 2 0 rfl rfl h18 ev17 dMM_look_44 ?_
      refine lv_iload_n hx hb dMM_look_45 rfl (lv_at hl 3 rfl) ?_
      refine lv_icmp_le (tgt := 59) hx hb dMM_look_46 (by decide) (fun c_19 => ?_) (fun c_19 => ?_)
      · have hf := ifT hf c_19
        refine lv_iload_n hx hb dMM_look_59 rfl (lv_at hl 3 rfl) ?_
        refine lv_istore_n (lv' := [(3, .int x4), (2, .int (x3 + 0)), (0, .ref q), (1, .int a_0), (4, .int x5)]) hx hb dMM_look_60 rfl hl (by decide) rfl (fun ls hl => ?_)
        refine lv_iinc (v := (x5 + 1)) (lv' := [(4, .int (x5 + 1)), (3, .int x4), (2, .int (x3 + 0)), (0, .ref q), (1, .int a_0)]) hx hb dMM_look_61 hl (k := 4) rfl rfl (by decide) rfl (fun ls hl => ?_)
        refine lv_goto (tgt := 12) hx hb dMM_look_64 (by decide) ?_
        exact ih2 (x3 + 0) x4 (x5 + 1) hf _ _ _ hP hD hS (lv_sub hl [3, 4, 2, 1, 0] rfl)
      · have hf := ifF hf c_19
        refine lv_aload_n hx hb dMM_look_49 rfl (lv_at hl 1 rfl) ?_
        refine va_get (D := (dC, dI)) (ci := 6) (v := .ref q_lengths) (C := RMM) (T := TMM) (N := 18) hx hb hts hi_MM hown hK hP 0 rfl rfl 7 (by decide) (hts _ tw_347) (fun _ h9 => h9) rfl dMM_look_50 ?_
        refine lv_iload hx hb dMM_look_53 (lv_at hl 4 rfl) ?_
        obtain ⟨v20, ev20, h21, hf⟩ := rd_some hf
        refine ax_iald hx hb hK hP 2 0 rfl rfl h21 ev20 dMM_look_55 ?_
        refine lv_goto (tgt := 60) hx hb dMM_look_56 (by decide) ?_
        refine lv_istore_n (lv' := [(3, .int v20), (2, .int (x3 + 0)), (0, .ref q), (1, .int a_0), (4, .int x5)]) hx hb dMM_look_60 rfl hl (by decide) rfl (fun ls hl => ?_)
        refine lv_iinc (v := (x5 + 1)) (lv' := [(4, .int (x5 + 1)), (3, .int v20), (2, .int (x3 + 0)), (0, .ref q), (1, .int a_0)]) hx hb dMM_look_61 hl (k := 4) rfl rfl (by decide) rfl (fun ls hl => ?_)
        refine lv_goto (tgt := 12) hx hb dMM_look_64 (by decide) ?_
        exact ih2 (x3 + 0) v20 (x5 + 1) hf _ _ _ hP hD hS (lv_sub hl [3, 4, 2, 1, 0] rfl)
    · have hf := ifF hf c_16
      refine lv_iconst (v := 1) hx hb dMM_look_31 (by decide) ?_
      refine lv_goto (tgt := 36) hx hb dMM_look_32 (by decide) ?_
      refine lv_iadd hx hb dMM_look_36 ?_
      refine lv_istore_n (lv' := [(2, .int (x3 + 1)), (0, .ref q), (1, .int a_0), (3, .int x4), (4, .int x5)]) hx hb dMM_look_37 rfl hl (by decide) rfl (fun ls hl => ?_)
      refine lv_aload_n hx hb dMM_look_38 rfl (lv_at hl 1 rfl) ?_
      refine va_get (D := (dC, dI)) (ci := 6) (v := .ref q_lengths) (C := RMM) (T := TMM) (N := 18) hx hb hts hi_MM hown hK hP 0 rfl rfl 7 (by decide) (hts _ tw_347) (fun _ h9 => h9) rfl dMM_look_39 ?_
      refine lv_iload hx hb dMM_look_42 (lv_at hl 4 rfl) ?_
      obtain ⟨v22, ev22, h23, hf⟩ := rd_some hf
      refine ax_iald hx hb hK hP 2 0 rfl rfl h23 ev22 dMM_look_44 ?_
      refine lv_iload_n hx hb dMM_look_45 rfl (lv_at hl 3 rfl) ?_
      refine lv_icmp_le (tgt := 59) hx hb dMM_look_46 (by decide) (fun c_24 => ?_) (fun c_24 => ?_)
      · have hf := ifT hf c_24
        refine lv_iload_n hx hb dMM_look_59 rfl (lv_at hl 3 rfl) ?_
        refine lv_istore_n (lv' := [(3, .int x4), (2, .int (x3 + 1)), (0, .ref q), (1, .int a_0), (4, .int x5)]) hx hb dMM_look_60 rfl hl (by decide) rfl (fun ls hl => ?_)
        refine lv_iinc (v := (x5 + 1)) (lv' := [(4, .int (x5 + 1)), (3, .int x4), (2, .int (x3 + 1)), (0, .ref q), (1, .int a_0)]) hx hb dMM_look_61 hl (k := 4) rfl rfl (by decide) rfl (fun ls hl => ?_)
        refine lv_goto (tgt := 12) hx hb dMM_look_64 (by decide) ?_
        exact ih2 (x3 + 1) x4 (x5 + 1) hf _ _ _ hP hD hS (lv_sub hl [3, 4, 2, 1, 0] rfl)
      · have hf := ifF hf c_24
        refine lv_aload_n hx hb dMM_look_49 rfl (lv_at hl 1 rfl) ?_
        refine va_get (D := (dC, dI)) (ci := 6) (v := .ref q_lengths) (C := RMM) (T := TMM) (N := 18) hx hb hts hi_MM hown hK hP 0 rfl rfl 7 (by decide) (hts _ tw_347) (fun _ h9 => h9) rfl dMM_look_50 ?_
        refine lv_iload hx hb dMM_look_53 (lv_at hl 4 rfl) ?_
        obtain ⟨v25, ev25, h26, hf⟩ := rd_some hf
        refine ax_iald hx hb hK hP 2 0 rfl rfl h26 ev25 dMM_look_55 ?_
        refine lv_goto (tgt := 60) hx hb dMM_look_56 (by decide) ?_
        refine lv_istore_n (lv' := [(3, .int v25), (2, .int (x3 + 1)), (0, .ref q), (1, .int a_0), (4, .int x5)]) hx hb dMM_look_60 rfl hl (by decide) rfl (fun ls hl => ?_)
        refine lv_iinc (v := (x5 + 1)) (lv' := [(4, .int (x5 + 1)), (3, .int v25), (2, .int (x3 + 1)), (0, .ref q), (1, .int a_0)]) hx hb dMM_look_61 hl (k := 4) rfl rfl (by decide) rfl (fun ls hl => ?_)
        refine lv_goto (tgt := 12) hx hb dMM_look_64 (by decide) ?_
        exact ih2 (x3 + 1) v25 (x5 + 1) hf _ _ _ hP hD hS (lv_sub hl [3, 4, 2, 1, 0] rfl)
