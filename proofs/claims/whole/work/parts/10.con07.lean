abbrev wsMM_wrong : List Cond := Cond.code yMM_wrong cMM_wrong 6 (some .int) :: tt
set_option maxHeartbeats 4000000 in
set_option maxRecDepth 100000 in
theorem cc_MM_wrong (l : Launch) (dC : Nat → ClassId) (dI : Nat → Nat → Nat) (cI cZ cL cB : ClassId) (q q_draft q_drafted q_counts q_symbols q_lengths q_codes q_often q_row q_number q_group q_bitsOf q_many : Nat) (sz : Nat) (k_thrown : Int32) (k_drafts : Int32) (k_words : Int32) (k_total : Int32) (k_size : Int32) (k_place : Int32) (k_draft : Nat → Int32) (k_drafted : Nat → Int32) (r : Int32) (hf : f_MM_wrong k_thrown k_drafts k_words k_total k_size k_place k_draft k_drafted = some r) : Met l yMM_wrong wsMM_wrong ({ frames := 0, cells := 0, slots := 0, locals := 0 }) (va_Pc [.ref q] (kz_P dC dI cI cZ cL cB sz (w_MM_wrong cI cZ cL cB q q_draft q_drafted q_counts q_symbols q_lengths q_codes q_often q_row q_number q_group q_bitsOf q_many k_thrown k_drafts k_words k_total k_size k_place k_draft k_drafted))) (va_Qi (fun (r' : Int32) (_ : Unit) => r' = r) (fun _ t => va_P (dC, dI) vwCl (w_MM_wrong cI cZ cL cB q q_draft q_drafted q_counts q_symbols q_lengths q_codes q_often q_row q_number q_group q_bitsOf q_many k_thrown k_drafts k_words k_total k_size k_place k_draft k_drafted) t.heap ∧ va_D (va_A (w_MM_wrong cI cZ cL cB q q_draft q_drafted q_counts q_symbols q_lengths q_codes q_often q_row q_number q_group q_bitsOf q_many k_thrown k_drafts k_words k_total k_size k_place k_draft k_drafted) sz) (w_MM_wrong cI cZ cL cB q q_draft q_drafted q_counts q_symbols q_lengths q_codes q_often q_row q_number q_group q_bitsOf q_many k_thrown k_drafts k_words k_total k_size k_place k_draft k_drafted)) (va_A (w_MM_wrong cI cZ cL cB q q_draft q_drafted q_counts q_symbols q_lengths q_codes q_often q_row q_number q_group q_bitsOf q_many k_thrown k_drafts k_words k_total k_size k_place k_draft k_drafted) sz)) 0 0 (va_A (w_MM_wrong cI cZ cL cB q q_draft q_drafted q_counts q_symbols q_lengths q_codes q_often q_row q_number q_group q_bitsOf q_many k_thrown k_drafts k_words k_total k_size k_place k_draft k_drafted) sz) := by
  refine Met.ofW (cc := cMM_wrong) (maxL := 6) (ret := (some .int)) (by decide) rfl ?_
  intro p e s m args below meth c s₁ B hml hv
  obtain ⟨rfl, hsz, hP, hZ, hD0⟩ := hv
  have hK := hZ.1
  have hx := B.exec
  have hb := B.bytes
  have hr := B.returns
  have hts : ∀ w ∈ tt, w.before _ s = true := fun w h => atoms_spec (ws := wsMM_wrong) B.pre w (List.mem_cons_of_mem _ h)
  have hown : s.vm.findClass RMM = some m.cls := findClass_of_methodNamed B.named
  have hlocks := B.notSynchronized
  subst hsz
  have hD := hD0.self (sz := s.heap.size)
  generalize hAe : va_A (w_MM_wrong cI cZ cL cB q q_draft q_drafted q_counts q_symbols q_lengths q_codes q_often q_row q_number q_group q_bitsOf q_many k_thrown k_drafts k_words k_total k_size k_place k_draft k_drafted) s.heap.size = A at hD ⊢
  have hA : ∀ q : Nat, s.heap.size ≤ q → A q := fun q h => by rw [← hAe]; exact Or.inr h
  have hS : va_S A s.heap s.heap [] := va_S.rf
  have hl := lv_entry [.ref q] (n := 6) (Nat.le_of_ble_eq_true rfl)
  rw [lg_entry_eq]
  generalize (lg_sl [.ref q] ++ List.replicate (6 - (lg_sl [.ref q]).length) Slot.unset).toArray = ls at hl ⊢
  have hl : lv_has ls 6 [(0, .ref q)] := hl
  unfold f_MM_wrong at hf
  refine lv_iconst (v := 0) hx hb dMM_wrong_0 (by decide) ?_
  refine lv_istore_n (lv' := [(1, .int 0), (0, .ref q)]) hx hb dMM_wrong_1 rfl hl (by decide) rfl (fun ls hl => ?_)
  refine lv_iconst (v := 1) hx hb dMM_wrong_2 (by decide) ?_
  refine lv_istore_n (lv' := [(2, .int 1), (1, .int 0), (0, .ref q)]) hx hb dMM_wrong_3 rfl hl (by decide) rfl (fun ls hl => ?_)
  refine Lp2_W (P := fun (x3 : Int32) (x4 : Int32) => ∀ (H : Heap) (locs : List Loc) (ls : Array Slot), va_P (dC, dI) vwCl (w_MM_wrong cI cZ cL cB q q_draft q_drafted q_counts q_symbols q_lengths q_codes q_often q_row q_number q_group q_bitsOf q_many k_thrown k_drafts k_words k_total k_size k_place k_draft k_drafted) H → va_D A (w_MM_wrong cI cZ cL cB q q_draft q_drafted q_counts q_symbols q_lengths q_codes q_often q_row q_number q_group q_bitsOf q_many k_thrown k_drafts k_words k_total k_size k_place k_draft k_drafted) → va_S A s.heap H locs → lv_has ls 6 [(0, .ref q), (1, .int x3), (2, .int x4)] → W p l e _ s m _ below meth c H locs 0 0 _ (F0 m 4 ls [])) ?_ _ _ _ hf _ _ _ hP hD hS (lv_sub hl [2, 1, 0] rfl)
  clear hf hP hD hS hl
  intro ag1 ih2 x3 x4 hf H locs ls hP hD hS hl
  refine lv_iload_n hx hb dMM_wrong_4 rfl (lv_at hl 2 rfl) ?_
  refine lv_bipush (v := 16) hx hb dMM_wrong_5 (by decide) ?_
  refine lv_icmp_gt (tgt := 25) hx hb dMM_wrong_7 (by decide) (fun c_5 => ?_) (fun c_5 => ?_)
  · have hf := ifT hf c_5
    refine lv_iload_n hx hb dMM_wrong_25 rfl (lv_at hl 1 rfl) ?_
    refine lv_aload_n hx hb dMM_wrong_26 rfl (lv_at hl 0 rfl) ?_
    refine va_get (D := (dC, dI)) (ci := 6) (v := .int k_drafts) (C := RMM) (T := TMM) (N := 18) hx hb hts hi_MM hown hK hP 0 rfl rfl 3 (by decide) (hts _ tw_343) (fun _ h9 => h9) rfl dMM_wrong_27 ?_
    refine lv_icmp_eq (tgt := 35) hx hb dMM_wrong_30 (by decide) (fun c_6 => ?_) (fun c_6 => ?_)
    · have hf := ifT hf c_6
      refine lv_iconst (v := 0) hx hb dMM_wrong_35 (by decide) ?_
      refine lv_istore_n (lv' := [(2, .int 0), (0, .ref q), (1, .int x3)]) hx hb dMM_wrong_36 rfl hl (by decide) rfl (fun ls hl => ?_)
      refine Lp1_W (P := fun (x9 : Int32) => ∀ (H : Heap) (locs : List Loc) (ls : Array Slot), va_P (dC, dI) vwCl (w_MM_wrong cI cZ cL cB q q_draft q_drafted q_counts q_symbols q_lengths q_codes q_often q_row q_number q_group q_bitsOf q_many k_thrown k_drafts k_words k_total k_size k_place k_draft k_drafted) H → va_D A (w_MM_wrong cI cZ cL cB q q_draft q_drafted q_counts q_symbols q_lengths q_codes q_often q_row q_number q_group q_bitsOf q_many k_thrown k_drafts k_words k_total k_size k_place k_draft k_drafted) → va_S A s.heap H locs → lv_has ls 6 [(0, .ref q), (1, .int x3), (2, .int x9)] → W p l e _ s m _ below meth c H locs 0 0 _ (F0 m 37 ls [])) ?_ _ _ hf _ _ _ hP hD hS (lv_sub hl [1, 2, 0] rfl)
      clear hf hP hD hS hl
      intro ag7 ih8 x9 hf H locs ls hP hD hS hl
      refine lv_iload_n hx hb dMM_wrong_37 rfl (lv_at hl 2 rfl) ?_
      refine lv_aload_n hx hb dMM_wrong_38 rfl (lv_at hl 0 rfl) ?_
      refine va_get (D := (dC, dI)) (ci := 6) (v := .int k_drafts) (C := RMM) (T := TMM) (N := 18) hx hb hts hi_MM hown hK hP 0 rfl rfl 3 (by decide) (hts _ tw_343) (fun _ h9 => h9) rfl dMM_wrong_39 ?_
      refine lv_icmp_ge (tgt := 82) hx hb dMM_wrong_42 (by decide) (fun c_10 => ?_) (fun c_10 => ?_)
      · have hf := ifT hf c_10
        refine lv_lconst (v := 0) hx hb dMM_wrong_82 (by decide) ?_
        refine lv_lstore_n (lv' := [(2, .long 0), (0, .ref q), (1, .int x3)]) hx hb dMM_wrong_83 rfl hl (by decide) rfl (fun ls hl => ?_)
        refine lv_iconst (v := 1) hx hb dMM_wrong_84 (by decide) ?_
        refine lv_istore (lv' := [(4, .int 1), (2, .long 0), (0, .ref q), (1, .int x3)]) hx hb dMM_wrong_85 hl (by decide) rfl (fun ls hl => ?_)
        refine Lp2_W (P := fun (x13 : Int64) (x14 : Int32) => ∀ (H : Heap) (locs : List Loc) (ls : Array Slot), va_P (dC, dI) vwCl (w_MM_wrong cI cZ cL cB q q_draft q_drafted q_counts q_symbols q_lengths q_codes q_often q_row q_number q_group q_bitsOf q_many k_thrown k_drafts k_words k_total k_size k_place k_draft k_drafted) H → va_D A (w_MM_wrong cI cZ cL cB q q_draft q_drafted q_counts q_symbols q_lengths q_codes q_often q_row q_number q_group q_bitsOf q_many k_thrown k_drafts k_words k_total k_size k_place k_draft k_drafted) → va_S A s.heap H locs → lv_has ls 6 [(0, .ref q), (1, .int x3), (2, .long x13), (4, .int x14)] → W p l e _ s m _ below meth c H locs 0 0 _ (F0 m 87 ls [])) ?_ _ _ _ hf _ _ _ hP hD hS (lv_sub hl [2, 3, 1, 0] rfl)
        clear hf hP hD hS hl
        intro ag11 ih12 x13 x14 hf H locs ls hP hD hS hl
        refine lv_iload hx hb dMM_wrong_87 (lv_at hl 3 rfl) ?_
        refine lv_bipush (v := 16) hx hb dMM_wrong_89 (by decide) ?_
        refine lv_icmp_gt (tgt := 145) hx hb dMM_wrong_91 (by decide) (fun c_15 => ?_) (fun c_15 => ?_)
        · have hf := ifT hf c_15
          refine lv_iconst (v := 0) hx hb dMM_wrong_145 (by decide) ?_
          cases hf
          exact ax_iret hx hb hr hP hD hS dMM_wrong_146 hlocks
        · have hf := ifF hf c_15
          refine lv_lload_n hx hb dMM_wrong_94 rfl (lv_at hl 2 rfl) ?_
          refine lv_ldc2 (v := 2) hx hb hown (hts _ tw_402) dMM_wrong_95 ?_
          refine lv_lmul hx hb dMM_wrong_98 ?_
          refine lv_lstore_n (lv' := [(2, .long (x13 * 2)), (0, .ref q), (1, .int x3), (4, .int x14)]) hx hb dMM_wrong_99 rfl hl (by decide) rfl (fun ls hl => ?_)
          refine lv_iconst (v := 0) hx hb dMM_wrong_100 (by decide) ?_
          refine lv_istore (lv' := [(5, .int 0), (2, .long (x13 * 2)), (0, .ref q), (1, .int x3), (4, .int x14)]) hx hb dMM_wrong_101 hl (by decide) rfl (fun ls hl => ?_)
          refine Lp2_W (P := fun (x18 : Int64) (x19 : Int32) => ∀ (H : Heap) (locs : List Loc) (ls : Array Slot), va_P (dC, dI) vwCl (w_MM_wrong cI cZ cL cB q q_draft q_drafted q_counts q_symbols q_lengths q_codes q_often q_row q_number q_group q_bitsOf q_many k_thrown k_drafts k_words k_total k_size k_place k_draft k_drafted) H → va_D A (w_MM_wrong cI cZ cL cB q q_draft q_drafted q_counts q_symbols q_lengths q_codes q_often q_row q_number q_group q_bitsOf q_many k_thrown k_drafts k_words k_total k_size k_place k_draft k_drafted) → va_S A s.heap H locs → lv_has ls 6 [(0, .ref q), (1, .int x3), (2, .long x18), (4, .int x14), (5, .int x19)] → W p l e _ s m _ below meth c H locs 0 0 _ (F0 m 103 ls [])) ?_ _ _ _ hf _ _ _ hP hD hS (lv_sub hl [2, 3, 1, 4, 0] rfl)
          clear hf hP hD hS hl
          intro ag16 ih17 x18 x19 hf H locs ls hP hD hS hl
          refine lv_iload hx hb dMM_wrong_103 (lv_at hl 4 rfl) ?_
          refine lv_aload_n hx hb dMM_wrong_105 rfl (lv_at hl 0 rfl) ?_
          refine va_get (D := (dC, dI)) (ci := 6) (v := .ref q_draft) (C := RMM) (T := TMM) (N := 18) hx hb hts hi_MM hown hK hP 0 rfl rfl 1 (by decide) (hts _ tw_341) (fun _ h9 => h9) rfl dMM_wrong_106 ?_
          refine lv_iload hx hb dMM_wrong_109 (lv_at hl 3 rfl) ?_
          obtain ⟨v20, ev20, h21, hf⟩ := rd_some hf
          refine ax_iald hx hb hK hP 1 0 rfl rfl h21 ev20 dMM_wrong_111 ?_
          refine lv_icmp_ge (tgt := 139) hx hb dMM_wrong_112 (by decide) (fun c_22 => ?_) (fun c_22 => ?_)
          · have hf := ifT hf c_22
            refine lv_iinc (v := (x14 + 1)) (lv' := [(4, .int (x14 + 1)), (0, .ref q), (1, .int x3), (2, .long x18), (5, .int x19)]) hx hb dMM_wrong_139 hl (k := 3) rfl rfl (by decide) rfl (fun ls hl => ?_)
            refine lv_goto (tgt := 87) hx hb dMM_wrong_142 (by decide) ?_
            exact ih12 x18 (x14 + 1) hf _ _ _ hP hD hS (lv_sub hl [1, 2, 3, 0] rfl)
          · have hf := ifF hf c_22
            refine lv_lload_n hx hb dMM_wrong_115 rfl (lv_at hl 2 rfl) ?_
            refine lv_lconst (v := 1) hx hb dMM_wrong_116 (by decide) ?_
            refine lv_iload hx hb dMM_wrong_117 (lv_at hl 3 rfl) ?_
            refine lv_lshl (v := ((1 : Int64) <<< (x14.toInt64 &&& 63))) hx hb dMM_wrong_119 rfl ?_
            refine lv_lconst (v := 1) hx hb dMM_wrong_120 (by decide) ?_
            refine lv_lsub hx hb dMM_wrong_121 ?_
            refine W.lcmp hx hb dMM_wrong_122 ?_
            refine lv_if_lt (tgt := 129) hx hb dMM_wrong_123 (by decide) (fun c_23 => ?_) (fun c_23 => ?_)
            · have hf := ifT hf c_23
              refine lv_lload_n hx hb dMM_wrong_129 rfl (lv_at hl 2 rfl) ?_
              refine lv_lconst (v := 1) hx hb dMM_wrong_130 (by decide) ?_
              refine lv_ladd hx hb dMM_wrong_131 ?_
              refine lv_lstore_n (lv' := [(2, .long (x18 + 1)), (0, .ref q), (1, .int x3), (4, .int x14), (5, .int x19)]) hx hb dMM_wrong_132 rfl hl (by decide) rfl (fun ls hl => ?_)
              refine lv_iinc (v := (x19 + 1)) (lv' := [(5, .int (x19 + 1)), (2, .long (x18 + 1)), (0, .ref q), (1, .int x3), (4, .int x14)]) hx hb dMM_wrong_133 hl (k := 4) rfl rfl (by decide) rfl (fun ls hl => ?_)
              refine lv_goto (tgt := 103) hx hb dMM_wrong_136 (by decide) ?_
              exact ih17 (x18 + 1) (x19 + 1) hf _ _ _ hP hD hS (lv_sub hl [2, 3, 1, 4, 0] rfl)
            · have hf := ifF hf c_23
              refine lv_bipush (v := (-3)) hx hb dMM_wrong_126 (by decide) ?_
              cases hf
              exact ax_iret hx hb hr hP hD hS dMM_wrong_128 hlocks
      · have hf := ifF hf c_10
        refine lv_iconst (v := 0) hx hb dMM_wrong_45 (by decide) ?_
        refine lv_istore_n (lv' := [(3, .int 0), (0, .ref q), (1, .int x3), (2, .int x9)]) hx hb dMM_wrong_46 rfl hl (by decide) rfl (fun ls hl => ?_)
        refine Lp1_W (P := fun (x26 : Int32) => ∀ (H : Heap) (locs : List Loc) (ls : Array Slot), va_P (dC, dI) vwCl (w_MM_wrong cI cZ cL cB q q_draft q_drafted q_counts q_symbols q_lengths q_codes q_often q_row q_number q_group q_bitsOf q_many k_thrown k_drafts k_words k_total k_size k_place k_draft k_drafted) H → va_D A (w_MM_wrong cI cZ cL cB q q_draft q_drafted q_counts q_symbols q_lengths q_codes q_often q_row q_number q_group q_bitsOf q_many k_thrown k_drafts k_words k_total k_size k_place k_draft k_drafted) → va_S A s.heap H locs → lv_has ls 6 [(0, .ref q), (1, .int x3), (2, .int x9), (3, .int x26)] → W p l e _ s m _ below meth c H locs 0 0 _ (F0 m 47 ls [])) ?_ _ _ hf _ _ _ hP hD hS (lv_sub hl [1, 2, 3, 0] rfl)
        clear hf hP hD hS hl
        intro ag24 ih25 x26 hf H locs ls hP hD hS hl
        refine lv_iload_n hx hb dMM_wrong_47 rfl (lv_at hl 3 rfl) ?_
        refine lv_iload_n hx hb dMM_wrong_48 rfl (lv_at hl 2 rfl) ?_
        refine lv_icmp_ge (tgt := 76) hx hb dMM_wrong_49 (by decide) (fun c_27 => ?_) (fun c_27 => ?_)
        · have hf := ifT hf c_27
          refine lv_iinc (v := (x9 + 1)) (lv' := [(2, .int (x9 + 1)), (0, .ref q), (1, .int x3), (3, .int x26)]) hx hb dMM_wrong_76 hl (k := 2) rfl rfl (by decide) rfl (fun ls hl => ?_)
          refine lv_goto (tgt := 37) hx hb dMM_wrong_79 (by decide) ?_
          exact ih8 (x9 + 1) hf _ _ _ hP hD hS (lv_sub hl [1, 2, 0] rfl)
        · have hf := ifF hf c_27
          refine lv_aload_n hx hb dMM_wrong_52 rfl (lv_at hl 0 rfl) ?_
          refine va_get (D := (dC, dI)) (ci := 6) (v := .ref q_drafted) (C := RMM) (T := TMM) (N := 18) hx hb hts hi_MM hown hK hP 0 rfl rfl 2 (by decide) (hts _ tw_342) (fun _ h9 => h9) rfl dMM_wrong_53 ?_
          refine lv_iload_n hx hb dMM_wrong_56 rfl (lv_at hl 2 rfl) ?_
          obtain ⟨v28, ev28, h29, hf⟩ := rd_some hf
          refine ax_iald hx hb hK hP 2 0 rfl rfl h29 ev28 dMM_wrong_57 ?_
          refine lv_aload_n hx hb dMM_wrong_58 rfl (lv_at hl 0 rfl) ?_
          refine va_get (D := (dC, dI)) (ci := 6) (v := .ref q_drafted) (C := RMM) (T := TMM) (N := 18) hx hb hts hi_MM hown hK hP 0 rfl rfl 2 (by decide) (hts _ tw_342) (fun _ h9 => h9) rfl dMM_wrong_59 ?_
          refine lv_iload_n hx hb dMM_wrong_62 rfl (lv_at hl 3 rfl) ?_
          obtain ⟨v30, ev30, h31, hf⟩ := rd_some hf
          refine ax_iald hx hb hK hP 2 0 rfl rfl h31 ev30 dMM_wrong_63 ?_
          refine lv_icmp_ne (tgt := 70) hx hb dMM_wrong_64 (by decide) (fun c_32 => ?_) (fun c_32 => ?_)
          · have hf := ifF hf c_32
            refine lv_iinc (v := (x26 + 1)) (lv' := [(3, .int (x26 + 1)), (0, .ref q), (1, .int x3), (2, .int x9)]) hx hb dMM_wrong_70 hl (k := 3) rfl rfl (by decide) rfl (fun ls hl => ?_)
            refine lv_goto (tgt := 47) hx hb dMM_wrong_73 (by decide) ?_
            exact ih25 (x26 + 1) hf _ _ _ hP hD hS (lv_sub hl [1, 2, 3, 0] rfl)
          · have hf := ifT hf c_32
            refine lv_bipush (v := (-2)) hx hb dMM_wrong_67 (by decide) ?_
            cases hf
            exact ax_iret hx hb hr hP hD hS dMM_wrong_69 hlocks
    · have hf := ifF hf c_6
      refine lv_iconst (v := (-1)) hx hb dMM_wrong_33 (by decide) ?_
      cases hf
      exact ax_iret hx hb hr hP hD hS dMM_wrong_34 hlocks
  · have hf := ifF hf c_5
    refine lv_iload_n hx hb dMM_wrong_10 rfl (lv_at hl 1 rfl) ?_
    refine lv_aload_n hx hb dMM_wrong_11 rfl (lv_at hl 0 rfl) ?_
    refine va_get (D := (dC, dI)) (ci := 6) (v := .ref q_draft) (C := RMM) (T := TMM) (N := 18) hx hb hts hi_MM hown hK hP 0 rfl rfl 1 (by decide) (hts _ tw_341) (fun _ h9 => h9) rfl dMM_wrong_12 ?_
    refine lv_iload_n hx hb dMM_wrong_15 rfl (lv_at hl 2 rfl) ?_
    obtain ⟨v33, ev33, h34, hf⟩ := rd_some hf
    refine ax_iald hx hb hK hP 1 0 rfl rfl h34 ev33 dMM_wrong_16 ?_
    refine lv_iadd hx hb dMM_wrong_17 ?_
    refine lv_istore_n (lv' := [(1, .int (x3 + v33)), (0, .ref q), (2, .int x4)]) hx hb dMM_wrong_18 rfl hl (by decide) rfl (fun ls hl => ?_)
    refine lv_iinc (v := (x4 + 1)) (lv' := [(2, .int (x4 + 1)), (1, .int (x3 + v33)), (0, .ref q)]) hx hb dMM_wrong_19 hl (k := 2) rfl rfl (by decide) rfl (fun ls hl => ?_)
    refine lv_goto (tgt := 4) hx hb dMM_wrong_22 (by decide) ?_
    exact ih2 (x3 + v33) (x4 + 1) hf _ _ _ hP hD hS (lv_sub hl [2, 1, 0] rfl)
abbrev wsMM_giveWords : List Cond := Cond.code yMM_giveWords cMM_giveWords 5 none :: tt
set_option maxHeartbeats 4000000 in
set_option maxRecDepth 100000 in
theorem cc_MM_giveWords (l : Launch) (dC : Nat → ClassId) (dI : Nat → Nat → Nat) (cI cZ cL cB : ClassId) (q q_draft q_drafted q_counts q_symbols q_lengths q_codes q_often q_row q_number q_group q_bitsOf q_many : Nat) (sz : Nat) (k_thrown : Int32) (k_drafts : Int32) (k_words : Int32) (k_total : Int32) (k_size : Int32) (k_place : Int32) (k_counts : Nat → Int32) (k_symbols : Nat → Int32) (k_lengths : Nat → Int32) (k_codes : Nat → Int32) (o_lengths : Nat → Int32) (o_codes : Nat → Int32) (hf : f_MM_giveWords k_thrown k_drafts k_words k_total k_size k_place k_counts k_symbols k_lengths k_codes = some (o_lengths, o_codes)) : Met l yMM_giveWords wsMM_giveWords ({ frames := 0, cells := 0, slots := 0, locals := 0 }) (va_Pc [.ref q] (kz_P dC dI cI cZ cL cB sz (w_MM_giveWords cI cZ cL cB q q_draft q_drafted q_counts q_symbols q_lengths q_codes q_often q_row q_number q_group q_bitsOf q_many k_thrown k_drafts k_words k_total k_size k_place k_counts k_symbols k_lengths k_codes))) (va_Qv (fun (_ : Unit) => True) (fun _ t => va_P (dC, dI) vwCl (w_MM_giveWords cI cZ cL cB q q_draft q_drafted q_counts q_symbols q_lengths q_codes q_often q_row q_number q_group q_bitsOf q_many k_thrown k_drafts k_words k_total k_size k_place k_counts k_symbols o_lengths o_codes) t.heap ∧ va_D (va_A (w_MM_giveWords cI cZ cL cB q q_draft q_drafted q_counts q_symbols q_lengths q_codes q_often q_row q_number q_group q_bitsOf q_many k_thrown k_drafts k_words k_total k_size k_place k_counts k_symbols k_lengths k_codes) sz) (w_MM_giveWords cI cZ cL cB q q_draft q_drafted q_counts q_symbols q_lengths q_codes q_often q_row q_number q_group q_bitsOf q_many k_thrown k_drafts k_words k_total k_size k_place k_counts k_symbols o_lengths o_codes)) (va_A (w_MM_giveWords cI cZ cL cB q q_draft q_drafted q_counts q_symbols q_lengths q_codes q_often q_row q_number q_group q_bitsOf q_many k_thrown k_drafts k_words k_total k_size k_place k_counts k_symbols k_lengths k_codes) sz)) 0 0 (va_A (w_MM_giveWords cI cZ cL cB q q_draft q_drafted q_counts q_symbols q_lengths q_codes q_often q_row q_number q_group q_bitsOf q_many k_thrown k_drafts k_words k_total k_size k_place k_counts k_symbols k_lengths k_codes) sz) := by
  refine Met.ofW (cc := cMM_giveWords) (maxL := 5) (ret := none) (by decide) rfl ?_
  intro p e s m args below meth c s₁ B hml hv
  obtain ⟨rfl, hsz, hP, hZ, hD0⟩ := hv
  have hK := hZ.1
  have hx := B.exec
  have hb := B.bytes
  have hr := B.returns
  have hts : ∀ w ∈ tt, w.before _ s = true := fun w h => atoms_spec (ws := wsMM_giveWords) B.pre w (List.mem_cons_of_mem _ h)
  have hown : s.vm.findClass RMM = some m.cls := findClass_of_methodNamed B.named
  have hlocks := B.notSynchronized
  subst hsz
  have hD := hD0.self (sz := s.heap.size)
  generalize hAe : va_A (w_MM_giveWords cI cZ cL cB q q_draft q_drafted q_counts q_symbols q_lengths q_codes q_often q_row q_number q_group q_bitsOf q_many k_thrown k_drafts k_words k_total k_size k_place k_counts k_symbols k_lengths k_codes) s.heap.size = A at hD ⊢
  have hA : ∀ q : Nat, s.heap.size ≤ q → A q := fun q h => by rw [← hAe]; exact Or.inr h
  have hS : va_S A s.heap s.heap [] := va_S.rf
  have hl := lv_entry [.ref q] (n := 5) (Nat.le_of_ble_eq_true rfl)
  rw [lg_entry_eq]
  generalize (lg_sl [.ref q] ++ List.replicate (5 - (lg_sl [.ref q]).length) Slot.unset).toArray = ls at hl ⊢
  have hl : lv_has ls 5 [(0, .ref q)] := hl
  unfold f_MM_giveWords at hf
  refine lv_iconst (v := 0) hx hb dMM_giveWords_0 (by decide) ?_
  refine lv_istore_n (lv' := [(1, .int 0), (0, .ref q)]) hx hb dMM_giveWords_1 rfl hl (by decide) rfl (fun ls hl => ?_)
  refine Lp3_W (P := fun (x3 : Int32) (x4 : Nat → Int32) (x5 : Nat → Int32) => ∀ (H : Heap) (locs : List Loc) (ls : Array Slot), va_P (dC, dI) vwCl (w_MM_giveWords cI cZ cL cB q q_draft q_drafted q_counts q_symbols q_lengths q_codes q_often q_row q_number q_group q_bitsOf q_many k_thrown k_drafts k_words k_total k_size k_place k_counts k_symbols x5 x4) H → va_D A (w_MM_giveWords cI cZ cL cB q q_draft q_drafted q_counts q_symbols q_lengths q_codes q_often q_row q_number q_group q_bitsOf q_many k_thrown k_drafts k_words k_total k_size k_place k_counts k_symbols x5 x4) → va_S A s.heap H locs → lv_has ls 5 [(0, .ref q), (1, .int x3)] → W p l e _ s m _ below meth c H locs 0 0 _ (F0 m 2 ls [])) ?_ _ _ _ _ hf _ _ _ hP hD hS (lv_sub hl [1, 0] rfl)
  clear hf hP hD hS hl
  intro ag1 ih2 x3 x4 x5 hf H locs ls hP hD hS hl
  refine lv_iload_n hx hb dMM_giveWords_2 rfl (lv_at hl 1 rfl) ?_
  refine lv_sipush (v := 256) hx hb dMM_giveWords_3 (by decide) ?_
  refine lv_icmp_ge (tgt := 29) hx hb dMM_giveWords_6 (by decide) (fun c_6 => ?_) (fun c_6 => ?_)
  · have hf := ifT hf c_6
    refine lv_iconst (v := 0) hx hb dMM_giveWords_29 (by decide) ?_
    refine lv_istore_n (lv' := [(1, .int 0), (0, .ref q)]) hx hb dMM_giveWords_30 rfl hl (by decide) rfl (fun ls hl => ?_)
    refine lv_iconst (v := 0) hx hb dMM_giveWords_31 (by decide) ?_
    refine lv_istore_n (lv' := [(2, .int 0), (1, .int 0), (0, .ref q)]) hx hb dMM_giveWords_32 rfl hl (by decide) rfl (fun ls hl => ?_)
    refine lv_iconst (v := 1) hx hb dMM_giveWords_33 (by decide) ?_
    refine lv_istore_n (lv' := [(3, .int 1), (2, .int 0), (1, .int 0), (0, .ref q)]) hx hb dMM_giveWords_34 rfl hl (by decide) rfl (fun ls hl => ?_)
    refine Lp5_W (P := fun (x9 : Int32) (x10 : Int32) (x11 : Int32) (x12 : Nat → Int32) (x13 : Nat → Int32) => ∀ (H : Heap) (locs : List Loc) (ls : Array Slot), va_P (dC, dI) vwCl (w_MM_giveWords cI cZ cL cB q q_draft q_drafted q_counts q_symbols q_lengths q_codes q_often q_row q_number q_group q_bitsOf q_many k_thrown k_drafts k_words k_total k_size k_place k_counts k_symbols x13 x12) H → va_D A (w_MM_giveWords cI cZ cL cB q q_draft q_drafted q_counts q_symbols q_lengths q_codes q_often q_row q_number q_group q_bitsOf q_many k_thrown k_drafts k_words k_total k_size k_place k_counts k_symbols x13 x12) → va_S A s.heap H locs → lv_has ls 5 [(0, .ref q), (1, .int x9), (2, .int x10), (3, .int x11)] → W p l e _ s m _ below meth c H locs 0 0 _ (F0 m 35 ls [])) ?_ _ _ _ _ _ _ hf _ _ _ hP hD hS (lv_sub hl [3, 2, 1, 0] rfl)
    clear hf hP hD hS hl
    intro ag7 ih8 x9 x10 x11 x12 x13 hf H locs ls hP hD hS hl
    refine lv_iload_n hx hb dMM_giveWords_35 rfl (lv_at hl 3 rfl) ?_
    refine lv_bipush (v := 16) hx hb dMM_giveWords_36 (by decide) ?_
    refine lv_icmp_gt (tgt := 101) hx hb dMM_giveWords_38 (by decide) (fun c_14 => ?_) (fun c_14 => ?_)
    · have hf := ifT hf c_14
      cases hf
      exact ax_vret hx hb hr hP hD hS dMM_giveWords_101 hlocks
    · have hf := ifF hf c_14
      refine lv_iload_n hx hb dMM_giveWords_41 rfl (lv_at hl 1 rfl) ?_
      refine lv_iconst (v := 2) hx hb dMM_giveWords_42 (by decide) ?_
      refine lv_imul hx hb dMM_giveWords_43 ?_
      refine lv_istore_n (lv' := [(1, .int (x9 * 2)), (0, .ref q), (2, .int x10), (3, .int x11)]) hx hb dMM_giveWords_44 rfl hl (by decide) rfl (fun ls hl => ?_)
      refine lv_iconst (v := 0) hx hb dMM_giveWords_45 (by decide) ?_
      refine lv_istore (lv' := [(4, .int 0), (1, .int (x9 * 2)), (0, .ref q), (2, .int x10), (3, .int x11)]) hx hb dMM_giveWords_46 hl (by decide) rfl (fun ls hl => ?_)
      refine Lp5_W (P := fun (x17 : Int32) (x18 : Int32) (x19 : Int32) (x20 : Nat → Int32) (x21 : Nat → Int32) => ∀ (H : Heap) (locs : List Loc) (ls : Array Slot), va_P (dC, dI) vwCl (w_MM_giveWords cI cZ cL cB q q_draft q_drafted q_counts q_symbols q_lengths q_codes q_often q_row q_number q_group q_bitsOf q_many k_thrown k_drafts k_words k_total k_size k_place k_counts k_symbols x21 x20) H → va_D A (w_MM_giveWords cI cZ cL cB q q_draft q_drafted q_counts q_symbols q_lengths q_codes q_often q_row q_number q_group q_bitsOf q_many k_thrown k_drafts k_words k_total k_size k_place k_counts k_symbols x21 x20) → va_S A s.heap H locs → lv_has ls 5 [(0, .ref q), (1, .int x17), (2, .int x18), (3, .int x11), (4, .int x19)] → W p l e _ s m _ below meth c H locs 0 0 _ (F0 m 48 ls [])) ?_ _ _ _ _ _ _ hf _ _ _ hP hD hS (lv_sub hl [2, 1, 3, 4, 0] rfl)
      clear hf hP hD hS hl
      intro ag15 ih16 x17 x18 x19 x20 x21 hf H locs ls hP hD hS hl
      refine lv_iload hx hb dMM_giveWords_48 (lv_at hl 4 rfl) ?_
      refine lv_aload_n hx hb dMM_giveWords_50 rfl (lv_at hl 0 rfl) ?_
      refine va_get (D := (dC, dI)) (ci := 6) (v := .ref q_counts) (C := RMM) (T := TMM) (N := 18) hx hb hts hi_MM hown hK hP 0 rfl rfl 4 (by decide) (hts _ tw_344) (fun _ h9 => h9) rfl dMM_giveWords_51 ?_
      refine lv_iload_n hx hb dMM_giveWords_54 rfl (lv_at hl 3 rfl) ?_
      obtain ⟨v22, ev22, h23, hf⟩ := rd_some hf
      refine ax_iald hx hb hK hP 1 0 rfl rfl h23 ev22 dMM_giveWords_55 ?_
      refine lv_icmp_ge (tgt := 95) hx hb dMM_giveWords_56 (by decide) (fun c_24 => ?_) (fun c_24 => ?_)
      · have hf := ifT hf c_24
        refine lv_iinc (v := (x11 + 1)) (lv' := [(3, .int (x11 + 1)), (0, .ref q), (1, .int x17), (2, .int x18), (4, .int x19)]) hx hb dMM_giveWords_95 hl (k := 3) rfl rfl (by decide) rfl (fun ls hl => ?_)
        refine lv_goto (tgt := 35) hx hb dMM_giveWords_98 (by decide) ?_
        exact ih8 x17 x18 (x11 + 1) x20 x21 hf _ _ _ hP hD hS (lv_sub hl [1, 2, 3, 0] rfl)
      · have hf := ifF hf c_24
        refine lv_aload_n hx hb dMM_giveWords_59 rfl (lv_at hl 0 rfl) ?_
        refine va_get (D := (dC, dI)) (ci := 6) (v := .ref q_lengths) (C := RMM) (T := TMM) (N := 18) hx hb hts hi_MM hown hK hP 0 rfl rfl 7 (by decide) (hts _ tw_347) (fun _ h9 => h9) rfl dMM_giveWords_60 ?_
        refine lv_aload_n hx hb dMM_giveWords_63 rfl (lv_at hl 0 rfl) ?_
        refine va_get (D := (dC, dI)) (ci := 6) (v := .ref q_symbols) (C := RMM) (T := TMM) (N := 18) hx hb hts hi_MM hown hK hP 0 rfl rfl 5 (by decide) (hts _ tw_345) (fun _ h9 => h9) rfl dMM_giveWords_64 ?_
        refine lv_iload_n hx hb dMM_giveWords_67 rfl (lv_at hl 2 rfl) ?_
        obtain ⟨v25, ev25, h26, hf⟩ := rd_some hf
        refine ax_iald hx hb hK hP 2 0 rfl rfl h26 ev25 dMM_giveWords_68 ?_
        refine lv_iload_n hx hb dMM_giveWords_69 rfl (lv_at hl 3 rfl) ?_
        obtain ⟨g27, eg27, h28, hf⟩ := wr_some hf
        refine ax_iast hx hb hK hP hD hS 3 0 rfl rfl h28 eg27 dMM_giveWords_70 (ws' := (w_MM_giveWords cI cZ cL cB q q_draft q_drafted q_counts q_symbols q_lengths q_codes q_often q_row q_number q_group q_bitsOf q_many k_thrown k_drafts k_words k_total k_size k_place k_counts k_symbols g27 x20)) rfl (fun H locs hP hD hS => ?_)
        refine lv_aload_n hx hb dMM_giveWords_71 rfl (lv_at hl 0 rfl) ?_
        refine va_get (D := (dC, dI)) (ci := 6) (v := .ref q_codes) (C := RMM) (T := TMM) (N := 18) hx hb hts hi_MM hown hK hP 0 rfl rfl 8 (by decide) (hts _ tw_348) (fun _ h9 => h9) rfl dMM_giveWords_72 ?_
        refine lv_aload_n hx hb dMM_giveWords_75 rfl (lv_at hl 0 rfl) ?_
        refine va_get (D := (dC, dI)) (ci := 6) (v := .ref q_symbols) (C := RMM) (T := TMM) (N := 18) hx hb hts hi_MM hown hK hP 0 rfl rfl 5 (by decide) (hts _ tw_345) (fun _ h9 => h9) rfl dMM_giveWords_76 ?_
        refine lv_iload_n hx hb dMM_giveWords_79 rfl (lv_at hl 2 rfl) ?_
        obtain ⟨v29, ev29, h30, hf⟩ := rd_some hf
        refine ax_iald hx hb hK hP 2 0 rfl rfl h30 ev29 dMM_giveWords_80 ?_
        refine lv_iload_n hx hb dMM_giveWords_81 rfl (lv_at hl 1 rfl) ?_
        obtain ⟨g31, eg31, h32, hf⟩ := wr_some hf
        refine ax_iast hx hb hK hP hD hS 4 0 rfl rfl h32 eg31 dMM_giveWords_82 (ws' := (w_MM_giveWords cI cZ cL cB q q_draft q_drafted q_counts q_symbols q_lengths q_codes q_often q_row q_number q_group q_bitsOf q_many k_thrown k_drafts k_words k_total k_size k_place k_counts k_symbols g27 g31)) rfl (fun H locs hP hD hS => ?_)
        refine lv_iinc (v := (x17 + 1)) (lv' := [(1, .int (x17 + 1)), (0, .ref q), (2, .int x18), (3, .int x11), (4, .int x19)]) hx hb dMM_giveWords_83 hl (k := 1) rfl rfl (by decide) rfl (fun ls hl => ?_)
        refine lv_iinc (v := (x18 + 1)) (lv' := [(2, .int (x18 + 1)), (1, .int (x17 + 1)), (0, .ref q), (3, .int x11), (4, .int x19)]) hx hb dMM_giveWords_86 hl (k := 2) rfl rfl (by decide) rfl (fun ls hl => ?_)
        refine lv_iinc (v := (x19 + 1)) (lv' := [(4, .int (x19 + 1)), (2, .int (x18 + 1)), (1, .int (x17 + 1)), (0, .ref q), (3, .int x11)]) hx hb dMM_giveWords_89 hl (k := 4) rfl rfl (by decide) rfl (fun ls hl => ?_)
        refine lv_goto (tgt := 48) hx hb dMM_giveWords_92 (by decide) ?_
        exact ih16 (x17 + 1) (x18 + 1) (x19 + 1) g31 g27 hf _ _ _ hP hD hS (lv_sub hl [3, 2, 1, 4, 0] rfl)
  · have hf := ifF hf c_6
    refine lv_aload_n hx hb dMM_giveWords_9 rfl (lv_at hl 0 rfl) ?_
    refine va_get (D := (dC, dI)) (ci := 6) (v := .ref q_lengths) (C := RMM) (T := TMM) (N := 18) hx hb hts hi_MM hown hK hP 0 rfl rfl 7 (by decide) (hts _ tw_347) (fun _ h9 => h9) rfl dMM_giveWords_10 ?_
    refine lv_iload_n hx hb dMM_giveWords_13 rfl (lv_at hl 1 rfl) ?_
    refine lv_iconst (v := 0) hx hb dMM_giveWords_14 (by decide) ?_
    obtain ⟨g33, eg33, h34, hf⟩ := wr_some hf
    refine ax_iast hx hb hK hP hD hS 3 0 rfl rfl h34 eg33 dMM_giveWords_15 (ws' := (w_MM_giveWords cI cZ cL cB q q_draft q_drafted q_counts q_symbols q_lengths q_codes q_often q_row q_number q_group q_bitsOf q_many k_thrown k_drafts k_words k_total k_size k_place k_counts k_symbols g33 x4)) rfl (fun H locs hP hD hS => ?_)
    refine lv_aload_n hx hb dMM_giveWords_16 rfl (lv_at hl 0 rfl) ?_
    refine va_get (D := (dC, dI)) (ci := 6) (v := .ref q_codes) (C := RMM) (T := TMM) (N := 18) hx hb hts hi_MM hown hK hP 0 rfl rfl 8 (by decide) (hts _ tw_348) (fun _ h9 => h9) rfl dMM_giveWords_17 ?_
    refine lv_iload_n hx hb dMM_giveWords_20 rfl (lv_at hl 1 rfl) ?_
    refine lv_iconst (v := (-1)) hx hb dMM_giveWords_21 (by decide) ?_
    obtain ⟨g35, eg35, h36, hf⟩ := wr_some hf
    refine ax_iast hx hb hK hP hD hS 4 0 rfl rfl h36 eg35 dMM_giveWords_22 (ws' := (w_MM_giveWords cI cZ cL cB q q_draft q_drafted q_counts q_symbols q_lengths q_codes q_often q_row q_number q_group q_bitsOf q_many k_thrown k_drafts k_words k_total k_size k_place k_counts k_symbols g33 g35)) rfl (fun H locs hP hD hS => ?_)
    refine lv_iinc (v := (x3 + 1)) (lv' := [(1, .int (x3 + 1)), (0, .ref q)]) hx hb dMM_giveWords_23 hl (k := 1) rfl rfl (by decide) rfl (fun ls hl => ?_)
    refine lv_goto (tgt := 2) hx hb dMM_giveWords_26 (by decide) ?_
    exact ih2 (x3 + 1) g35 g33 hf _ _ _ hP hD hS (lv_sub hl [1, 0] rfl)
abbrev wsMM_make : List Cond := Cond.code yMM_make cMM_make 3 (some .int) :: tt
set_option maxHeartbeats 4000000 in
set_option maxRecDepth 100000 in
theorem cc_MM_make (l : Launch) (dC : Nat → ClassId) (dI : Nat → Nat → Nat) (cI cZ cL cB : ClassId) (q q_draft q_drafted q_counts q_symbols q_lengths q_codes q_often q_row q_number q_group q_bitsOf q_many : Nat) (sz : Nat) (k_thrown : Int32) (k_drafts : Int32) (k_words : Int32) (k_total : Int32) (k_size : Int32) (k_place : Int32) (k_draft : Nat → Int32) (k_drafted : Nat → Int32) (k_counts : Nat → Int32) (k_symbols : Nat → Int32) (k_lengths : Nat → Int32) (k_codes : Nat → Int32) (r : Int32) (o_thrown : Int32) (o_words : Int32) (o_counts : Nat → Int32) (o_symbols : Nat → Int32) (o_lengths : Nat → Int32) (o_codes : Nat → Int32) (hf : f_MM_make k_thrown k_drafts k_words k_total k_size k_place k_draft k_drafted k_counts k_symbols k_lengths k_codes = some (r, o_thrown, o_words, o_counts, o_symbols, o_lengths, o_codes)) : Met l yMM_make wsMM_make ({ frames := 1, cells := 0, slots := 0, locals := 25 }) (va_Pc [.ref q] (kz_P dC dI cI cZ cL cB sz (w_MM_make cI cZ cL cB q q_draft q_drafted q_counts q_symbols q_lengths q_codes q_often q_row q_number q_group q_bitsOf q_many k_thrown k_drafts k_words k_total k_size k_place k_draft k_drafted k_counts k_symbols k_lengths k_codes))) (va_Qi (fun (r' : Int32) (_ : Unit) => r' = r) (fun _ t => va_P (dC, dI) vwCl (w_MM_make cI cZ cL cB q q_draft q_drafted q_counts q_symbols q_lengths q_codes q_often q_row q_number q_group q_bitsOf q_many o_thrown k_drafts o_words k_total k_size k_place k_draft k_drafted o_counts o_symbols o_lengths o_codes) t.heap ∧ va_D (va_A (w_MM_make cI cZ cL cB q q_draft q_drafted q_counts q_symbols q_lengths q_codes q_often q_row q_number q_group q_bitsOf q_many k_thrown k_drafts k_words k_total k_size k_place k_draft k_drafted k_counts k_symbols k_lengths k_codes) sz) (w_MM_make cI cZ cL cB q q_draft q_drafted q_counts q_symbols q_lengths q_codes q_often q_row q_number q_group q_bitsOf q_many o_thrown k_drafts o_words k_total k_size k_place k_draft k_drafted o_counts o_symbols o_lengths o_codes)) (va_A (w_MM_make cI cZ cL cB q q_draft q_drafted q_counts q_symbols q_lengths q_codes q_often q_row q_number q_group q_bitsOf q_many k_thrown k_drafts k_words k_total k_size k_place k_draft k_drafted k_counts k_symbols k_lengths k_codes) sz)) 0 0 (va_A (w_MM_make cI cZ cL cB q q_draft q_drafted q_counts q_symbols q_lengths q_codes q_often q_row q_number q_group q_bitsOf q_many k_thrown k_drafts k_words k_total k_size k_place k_draft k_drafted k_counts k_symbols k_lengths k_codes) sz) := by
  refine Met.ofW (cc := cMM_make) (maxL := 3) (ret := (some .int)) (by decide) rfl ?_
  intro p e s m args below meth c s₁ B hml hv
  obtain ⟨rfl, hsz, hP, hZ, hD0⟩ := hv
  have hK := hZ.1
  have hx := B.exec
  have hb := B.bytes
  have hr := B.returns
  have hts : ∀ w ∈ tt, w.before _ s = true := fun w h => atoms_spec (ws := wsMM_make) B.pre w (List.mem_cons_of_mem _ h)
  have hown : s.vm.findClass RMM = some m.cls := findClass_of_methodNamed B.named
  have hlocks := B.notSynchronized
  subst hsz
  have hD := hD0.self (sz := s.heap.size)
  generalize hAe : va_A (w_MM_make cI cZ cL cB q q_draft q_drafted q_counts q_symbols q_lengths q_codes q_often q_row q_number q_group q_bitsOf q_many k_thrown k_drafts k_words k_total k_size k_place k_draft k_drafted k_counts k_symbols k_lengths k_codes) s.heap.size = A at hD ⊢
  have hA : ∀ q : Nat, s.heap.size ≤ q → A q := fun q h => by rw [← hAe]; exact Or.inr h
  have hS : va_S A s.heap s.heap [] := va_S.rf
  have hl := lv_entry [.ref q] (n := 3) (Nat.le_of_ble_eq_true rfl)
  rw [lg_entry_eq]
  generalize (lg_sl [.ref q] ++ List.replicate (3 - (lg_sl [.ref q]).length) Slot.unset).toArray = ls at hl ⊢
  have hl : lv_has ls 3 [(0, .ref q)] := hl
  unfold f_MM_make at hf
  refine lv_aload_n hx hb dMM_make_0 rfl (lv_at hl 0 rfl) ?_
  refine lv_iconst (v := 0) hx hb dMM_make_1 (by decide) ?_
  refine va_put (D := (dC, dI)) (ci := 6) (v := .int 0) (ty := .int) (C := RMM) (T := TMM) (N := 18) hx hb hts hi_MM tyMM tyMM_ok nmMM hown hK hP hD hS 0 rfl rfl 0 (by decide) (hts _ tw_340) (fun _ h9 => h9) rfl (by decide +kernel) rfl rfl (Nat.le_of_ble_eq_true rfl) dMM_make_2 (fun H locs hP hD hS => ?_)
  have hP : va_P (dC, dI) vwCl (w_MM_make cI cZ cL cB q q_draft q_drafted q_counts q_symbols q_lengths q_codes q_often q_row q_number q_group q_bitsOf q_many 0 k_drafts k_words k_total k_size k_place k_draft k_drafted k_counts k_symbols k_lengths k_codes) H := hP
  have hD : va_D A (w_MM_make cI cZ cL cB q q_draft q_drafted q_counts q_symbols q_lengths q_codes q_often q_row q_number q_group q_bitsOf q_many 0 k_drafts k_words k_total k_size k_place k_draft k_drafted k_counts k_symbols k_lengths k_codes) := hD
  refine lv_aload_n hx hb dMM_make_5 rfl (lv_at hl 0 rfl) ?_
  obtain ⟨r1, h2, hf⟩ := bd1_some hf
  have hPc := hP.sub (ws' := (w_MM_wrong cI cZ cL cB q q_draft q_drafted q_counts q_symbols q_lengths q_codes q_often q_row q_number q_group q_bitsOf q_many 0 k_drafts k_words k_total k_size k_place k_draft k_drafted)) [0, 1, 2] rfl
  have hDc := hD.sub (ws' := (w_MM_wrong cI cZ cL cB q q_draft q_drafted q_counts q_symbols q_lengths q_codes q_often q_row q_number q_group q_bitsOf q_many 0 k_drafts k_words k_total k_size k_place k_draft k_drafted)) [0, 1, 2] (by decide) rfl
  refine ax_calli (wr := [(q_counts, .inl (cI, 17, .inl k_counts)), (q_symbols, .inl (cI, 256, .inl k_symbols)), (q_lengths, .inl (cI, 256, .inl k_lengths)), (q_codes, .inl (cI, 256, .inl k_codes))]) (w2 := (w_MM_make cI cZ cL cB q q_draft q_drafted q_counts q_symbols q_lengths q_codes q_often q_row q_number q_group q_bitsOf q_many 0 k_drafts k_words k_total k_size k_place k_draft k_drafted k_counts k_symbols k_lengths k_codes)) (va_runV (As := []) (rest := []) ⟨hx, hb, hml, hown, hts⟩ (cc_MM_wrong l dC dI cI cZ cL cB q q_draft q_drafted q_counts q_symbols q_lengths q_codes q_often q_row q_number q_group q_bitsOf q_many H.size 0 k_drafts k_words k_total k_size k_place k_draft k_drafted r1 h2) (cwV 0 hts (tt_V tw_399 tw_400 tw_13 tw_27 tw_401) rfl rfl rfl (by decide +kernel) ⟨Nat.le_of_ble_eq_true rfl, Nat.le_of_ble_eq_true rfl⟩) ⟨kz_fb, va_recv hK hPc (ci := 6) (q0 := 0) rfl rfl, kz_pre hPc hZ hDc⟩ rfl rfl hl.1 rfl (lv_room (Nat.le_of_ble_eq_true rfl)) dMM_make_6 ⟨Nat.zero_le _, Nat.zero_le _⟩) hP hD hS hA [0, 1, 2] [3, 4, 5, 6] [4, 5, 6, 0, 1, 2, 3] rfl rfl (by decide) (by decide) rfl (by decide) (fun H locs hP hD hS => ?_)
  refine lv_istore_n (lv' := [(1, .int r1), (0, .ref q)]) hx hb dMM_make_9 rfl hl (by decide) rfl (fun ls hl => ?_)
  refine lv_iload_n hx hb dMM_make_10 rfl (lv_at hl 0 rfl) ?_
  refine lv_if_ge (tgt := 16) hx hb dMM_make_11 (by decide) (fun c_3 => ?_) (fun c_3 => ?_)
  · have hf := ifT hf c_3
    refine lv_aload_n hx hb dMM_make_16 rfl (lv_at hl 1 rfl) ?_
    refine lv_aload_n hx hb dMM_make_17 rfl (lv_at hl 1 rfl) ?_
    refine va_get (D := (dC, dI)) (ci := 6) (v := .int k_drafts) (C := RMM) (T := TMM) (N := 18) hx hb hts hi_MM hown hK hP 0 rfl rfl 3 (by decide) (hts _ tw_343) (fun _ h9 => h9) rfl dMM_make_18 ?_
    refine va_put (D := (dC, dI)) (ci := 6) (v := .int k_drafts) (ty := .int) (C := RMM) (T := TMM) (N := 18) hx hb hts hi_MM tyMM tyMM_ok nmMM hown hK hP hD hS 0 rfl rfl 6 (by decide) (hts _ tw_346) (fun _ h9 => h9) rfl (by decide +kernel) rfl rfl (Nat.le_of_ble_eq_true rfl) dMM_make_21 (fun H locs hP hD hS => ?_)
    have hP : va_P (dC, dI) vwCl (w_MM_make cI cZ cL cB q q_draft q_drafted q_counts q_symbols q_lengths q_codes q_often q_row q_number q_group q_bitsOf q_many 0 k_drafts k_drafts k_total k_size k_place k_draft k_drafted k_counts k_symbols k_lengths k_codes) H := hP
    have hD : va_D A (w_MM_make cI cZ cL cB q q_draft q_drafted q_counts q_symbols q_lengths q_codes q_often q_row q_number q_group q_bitsOf q_many 0 k_drafts k_drafts k_total k_size k_place k_draft k_drafted k_counts k_symbols k_lengths k_codes) := hD
    refine lv_iconst (v := 0) hx hb dMM_make_24 (by decide) ?_
    refine lv_istore_n (lv' := [(2, .int 0), (1, .int r1), (0, .ref q)]) hx hb dMM_make_25 rfl hl (by decide) rfl (fun ls hl => ?_)
    refine Lp2_W (P := fun (x6 : Int32) (x7 : Nat → Int32) => ∀ (H : Heap) (locs : List Loc) (ls : Array Slot), va_P (dC, dI) vwCl (w_MM_make cI cZ cL cB q q_draft q_drafted q_counts q_symbols q_lengths q_codes q_often q_row q_number q_group q_bitsOf q_many 0 k_drafts k_drafts k_total k_size k_place k_draft k_drafted x7 k_symbols k_lengths k_codes) H → va_D A (w_MM_make cI cZ cL cB q q_draft q_drafted q_counts q_symbols q_lengths q_codes q_often q_row q_number q_group q_bitsOf q_many 0 k_drafts k_drafts k_total k_size k_place k_draft k_drafted x7 k_symbols k_lengths k_codes) → va_S A s.heap H locs → lv_has ls 3 [(0, .ref q), (1, .int r1), (2, .int x6)] → W p l e _ s m _ below meth c H locs 0 0 _ (F0 m 26 ls [])) ?_ _ _ _ hf _ _ _ hP hD hS (lv_sub hl [2, 1, 0] rfl)
    clear hf hP hD hS hl
    intro ag4 ih5 x6 x7 hf H locs ls hP hD hS hl
    refine lv_iload_n hx hb dMM_make_26 rfl (lv_at hl 2 rfl) ?_
    refine lv_bipush (v := 17) hx hb dMM_make_27 (by decide) ?_
    refine lv_icmp_ge (tgt := 50) hx hb dMM_make_29 (by decide) (fun c_8 => ?_) (fun c_8 => ?_)
    · have hf := ifT hf c_8
      refine lv_iconst (v := 0) hx hb dMM_make_50 (by decide) ?_
      refine lv_istore_n (lv' := [(2, .int 0), (0, .ref q), (1, .int r1)]) hx hb dMM_make_51 rfl hl (by decide) rfl (fun ls hl => ?_)
      refine Lp2_W (P := fun (x11 : Int32) (x12 : Nat → Int32) => ∀ (H : Heap) (locs : List Loc) (ls : Array Slot), va_P (dC, dI) vwCl (w_MM_make cI cZ cL cB q q_draft q_drafted q_counts q_symbols q_lengths q_codes q_often q_row q_number q_group q_bitsOf q_many 0 k_drafts k_drafts k_total k_size k_place k_draft k_drafted x7 x12 k_lengths k_codes) H → va_D A (w_MM_make cI cZ cL cB q q_draft q_drafted q_counts q_symbols q_lengths q_codes q_often q_row q_number q_group q_bitsOf q_many 0 k_drafts k_drafts k_total k_size k_place k_draft k_drafted x7 x12 k_lengths k_codes) → va_S A s.heap H locs → lv_has ls 3 [(0, .ref q), (1, .int r1), (2, .int x11)] → W p l e _ s m _ below meth c H locs 0 0 _ (F0 m 52 ls [])) ?_ _ _ _ hf _ _ _ hP hD hS (lv_sub hl [1, 2, 0] rfl)
      clear hf hP hD hS hl
      intro ag9 ih10 x11 x12 hf H locs ls hP hD hS hl
      refine lv_iload_n hx hb dMM_make_52 rfl (lv_at hl 2 rfl) ?_
      refine lv_aload_n hx hb dMM_make_53 rfl (lv_at hl 0 rfl) ?_
      refine va_get (D := (dC, dI)) (ci := 6) (v := .int k_drafts) (C := RMM) (T := TMM) (N := 18) hx hb hts hi_MM hown hK hP 0 rfl rfl 3 (by decide) (hts _ tw_343) (fun _ h9 => h9) rfl dMM_make_54 ?_
      refine lv_icmp_ge (tgt := 78) hx hb dMM_make_57 (by decide) (fun c_13 => ?_) (fun c_13 => ?_)
      · have hf := ifT hf c_13
        refine lv_aload_n hx hb dMM_make_78 rfl (lv_at hl 0 rfl) ?_
        obtain ⟨o14, o15, h16, hf⟩ := bd2_some hf
        have hPc := hP.sub (ws' := (w_MM_giveWords cI cZ cL cB q q_draft q_drafted q_counts q_symbols q_lengths q_codes q_often q_row q_number q_group q_bitsOf q_many 0 k_drafts k_drafts k_total k_size k_place x7 x12 k_lengths k_codes)) [0, 3, 4, 5, 6] rfl
        have hDc := hD.sub (ws' := (w_MM_giveWords cI cZ cL cB q q_draft q_drafted q_counts q_symbols q_lengths q_codes q_often q_row q_number q_group q_bitsOf q_many 0 k_drafts k_drafts k_total k_size k_place x7 x12 k_lengths k_codes)) [0, 3, 4, 5, 6] (by decide) rfl
        refine ax_callv (wr := [(q_draft, .inl (cI, 17, .inl k_draft)), (q_drafted, .inl (cI, 256, .inl k_drafted))]) (w2 := (w_MM_make cI cZ cL cB q q_draft q_drafted q_counts q_symbols q_lengths q_codes q_often q_row q_number q_group q_bitsOf q_many 0 k_drafts k_drafts k_total k_size k_place k_draft k_drafted x7 x12 o14 o15)) (va_runV (As := []) (rest := []) ⟨hx, hb, hml, hown, hts⟩ (cc_MM_giveWords l dC dI cI cZ cL cB q q_draft q_drafted q_counts q_symbols q_lengths q_codes q_often q_row q_number q_group q_bitsOf q_many H.size 0 k_drafts k_drafts k_total k_size k_place x7 x12 k_lengths k_codes o14 o15 h16) (cwV 0 hts (tt_V tw_403 tw_404 tw_14 tw_27 tw_405) rfl rfl rfl (by decide +kernel) ⟨Nat.le_of_ble_eq_true rfl, Nat.le_of_ble_eq_true rfl⟩) ⟨kz_fb, va_recv hK hPc (ci := 6) (q0 := 0) rfl rfl, kz_pre hPc hZ hDc⟩ rfl rfl hl.1 rfl (lv_room (Nat.le_of_ble_eq_true rfl)) dMM_make_79 ⟨Nat.zero_le _, Nat.zero_le _⟩) hP hD hS hA [0, 3, 4, 5, 6] [1, 2] [2, 0, 1, 3, 4, 5, 6] rfl rfl (by decide) (by decide) rfl (by decide) (fun H locs hP hD hS => ?_)
        refine lv_aload_n hx hb dMM_make_82 rfl (lv_at hl 0 rfl) ?_
        refine va_get (D := (dC, dI)) (ci := 6) (v := .int k_drafts) (C := RMM) (T := TMM) (N := 18) hx hb hts hi_MM hown hK hP 0 rfl rfl 6 (by decide) (hts _ tw_346) (fun _ h9 => h9) rfl dMM_make_83 ?_
        cases hf
        exact ax_iret hx hb hr hP hD hS dMM_make_86 hlocks
      · have hf := ifF hf c_13
        refine lv_aload_n hx hb dMM_make_60 rfl (lv_at hl 0 rfl) ?_
        refine va_get (D := (dC, dI)) (ci := 6) (v := .ref q_symbols) (C := RMM) (T := TMM) (N := 18) hx hb hts hi_MM hown hK hP 0 rfl rfl 5 (by decide) (hts _ tw_345) (fun _ h9 => h9) rfl dMM_make_61 ?_
        refine lv_iload_n hx hb dMM_make_64 rfl (lv_at hl 2 rfl) ?_
        refine lv_aload_n hx hb dMM_make_65 rfl (lv_at hl 0 rfl) ?_
        refine va_get (D := (dC, dI)) (ci := 6) (v := .ref q_drafted) (C := RMM) (T := TMM) (N := 18) hx hb hts hi_MM hown hK hP 0 rfl rfl 2 (by decide) (hts _ tw_342) (fun _ h9 => h9) rfl dMM_make_66 ?_
        refine lv_iload_n hx hb dMM_make_69 rfl (lv_at hl 2 rfl) ?_
        obtain ⟨v17, ev17, h18, hf⟩ := rd_some hf
        refine ax_iald hx hb hK hP 2 0 rfl rfl h18 ev17 dMM_make_70 ?_
        obtain ⟨g19, eg19, h20, hf⟩ := wr_some hf
        refine ax_iast hx hb hK hP hD hS 4 0 rfl rfl h20 eg19 dMM_make_71 (ws' := (w_MM_make cI cZ cL cB q q_draft q_drafted q_counts q_symbols q_lengths q_codes q_often q_row q_number q_group q_bitsOf q_many 0 k_drafts k_drafts k_total k_size k_place k_draft k_drafted x7 g19 k_lengths k_codes)) rfl (fun H locs hP hD hS => ?_)
        refine lv_iinc (v := (x11 + 1)) (lv' := [(2, .int (x11 + 1)), (0, .ref q), (1, .int r1)]) hx hb dMM_make_72 hl (k := 2) rfl rfl (by decide) rfl (fun ls hl => ?_)
        refine lv_goto (tgt := 52) hx hb dMM_make_75 (by decide) ?_
        exact ih10 (x11 + 1) g19 hf _ _ _ hP hD hS (lv_sub hl [1, 2, 0] rfl)
    · have hf := ifF hf c_8
      refine lv_aload_n hx hb dMM_make_32 rfl (lv_at hl 0 rfl) ?_
      refine va_get (D := (dC, dI)) (ci := 6) (v := .ref q_counts) (C := RMM) (T := TMM) (N := 18) hx hb hts hi_MM hown hK hP 0 rfl rfl 4 (by decide) (hts _ tw_344) (fun _ h9 => h9) rfl dMM_make_33 ?_
      refine lv_iload_n hx hb dMM_make_36 rfl (lv_at hl 2 rfl) ?_
      refine lv_aload_n hx hb dMM_make_37 rfl (lv_at hl 0 rfl) ?_
      refine va_get (D := (dC, dI)) (ci := 6) (v := .ref q_draft) (C := RMM) (T := TMM) (N := 18) hx hb hts hi_MM hown hK hP 0 rfl rfl 1 (by decide) (hts _ tw_341) (fun _ h9 => h9) rfl dMM_make_38 ?_
      refine lv_iload_n hx hb dMM_make_41 rfl (lv_at hl 2 rfl) ?_
      obtain ⟨v21, ev21, h22, hf⟩ := rd_some hf
      refine ax_iald hx hb hK hP 1 0 rfl rfl h22 ev21 dMM_make_42 ?_
      obtain ⟨g23, eg23, h24, hf⟩ := wr_some hf
      refine ax_iast hx hb hK hP hD hS 3 0 rfl rfl h24 eg23 dMM_make_43 (ws' := (w_MM_make cI cZ cL cB q q_draft q_drafted q_counts q_symbols q_lengths q_codes q_often q_row q_number q_group q_bitsOf q_many 0 k_drafts k_drafts k_total k_size k_place k_draft k_drafted g23 k_symbols k_lengths k_codes)) rfl (fun H locs hP hD hS => ?_)
      refine lv_iinc (v := (x6 + 1)) (lv' := [(2, .int (x6 + 1)), (0, .ref q), (1, .int r1)]) hx hb dMM_make_44 hl (k := 2) rfl rfl (by decide) rfl (fun ls hl => ?_)
      refine lv_goto (tgt := 26) hx hb dMM_make_47 (by decide) ?_
      exact ih5 (x6 + 1) g23 hf _ _ _ hP hD hS (lv_sub hl [1, 2, 0] rfl)
  · have hf := ifF hf c_3
    refine lv_iload_n hx hb dMM_make_14 rfl (lv_at hl 0 rfl) ?_
    cases hf
    exact ax_iret hx hb hr hP hD hS dMM_make_15 hlocks
