abbrev wsFB_startGroups : List Cond := Cond.code yFB_startGroups cFB_startGroups 3 none :: tt
set_option maxHeartbeats 4000000 in
set_option maxRecDepth 100000 in
theorem cc_FB_startGroups (l : Launch) (dC : Nat → ClassId) (dI : Nat → Nat → Nat) (cI cZ cL cB : ClassId) (q q_counts q_symbols q_weights q_groups q_nodeOf q_parents q_depths q_p0 : Nat) (sz : Nat) (k_groupsLeft : Int32) (k_nodes : Int32) (n_p0 : Nat) (k_p0 : Nat → Int32) (k_weights : Nat → Int32) (k_nodeOf : Nat → Int32) (k_depths : Nat → Int32) (k_groups : Nat → Int32) (o_groupsLeft : Int32) (o_nodes : Int32) (o_weights : Nat → Int32) (o_nodeOf : Nat → Int32) (o_depths : Nat → Int32) (o_groups : Nat → Int32) (hf : f_FB_startGroups k_groupsLeft k_nodes n_p0 k_p0 k_weights k_nodeOf k_depths k_groups = some (o_groupsLeft, o_nodes, o_weights, o_nodeOf, o_depths, o_groups)) : Met l yFB_startGroups wsFB_startGroups ({ frames := 0, cells := 0, slots := 0, locals := 0 }) (va_Pc [.ref q, .ref q_p0] (kz_P dC dI cI cZ cL cB sz (w_FB_startGroups cI cZ cL cB q q_counts q_symbols q_weights q_groups q_nodeOf q_parents q_depths q_p0 k_groupsLeft k_nodes n_p0 k_p0 k_weights k_nodeOf k_depths k_groups))) (va_Qv (fun (_ : Unit) => True) (fun _ t => va_P (dC, dI) vwCl (w_FB_startGroups cI cZ cL cB q q_counts q_symbols q_weights q_groups q_nodeOf q_parents q_depths q_p0 o_groupsLeft o_nodes n_p0 k_p0 o_weights o_nodeOf o_depths o_groups) t.heap ∧ va_D (va_A (w_FB_startGroups cI cZ cL cB q q_counts q_symbols q_weights q_groups q_nodeOf q_parents q_depths q_p0 k_groupsLeft k_nodes n_p0 k_p0 k_weights k_nodeOf k_depths k_groups) sz) (w_FB_startGroups cI cZ cL cB q q_counts q_symbols q_weights q_groups q_nodeOf q_parents q_depths q_p0 o_groupsLeft o_nodes n_p0 k_p0 o_weights o_nodeOf o_depths o_groups)) (va_A (w_FB_startGroups cI cZ cL cB q q_counts q_symbols q_weights q_groups q_nodeOf q_parents q_depths q_p0 k_groupsLeft k_nodes n_p0 k_p0 k_weights k_nodeOf k_depths k_groups) sz)) 0 0 (va_A (w_FB_startGroups cI cZ cL cB q q_counts q_symbols q_weights q_groups q_nodeOf q_parents q_depths q_p0 k_groupsLeft k_nodes n_p0 k_p0 k_weights k_nodeOf k_depths k_groups) sz) := by
  refine Met.ofW (cc := cFB_startGroups) (maxL := 3) (ret := none) (by decide) rfl ?_
  intro p e s m args below meth c s₁ B hml hv
  obtain ⟨rfl, hsz, hP, hZ, hD0⟩ := hv
  have hK := hZ.1
  have hx := B.exec
  have hb := B.bytes
  have hr := B.returns
  have hts : ∀ w ∈ tt, w.before _ s = true := fun w h => atoms_spec (ws := wsFB_startGroups) B.pre w (List.mem_cons_of_mem _ h)
  have hown : s.vm.findClass RFB = some m.cls := findClass_of_methodNamed B.named
  have hlocks := B.notSynchronized
  subst hsz
  have hD := hD0.self (sz := s.heap.size)
  generalize hAe : va_A (w_FB_startGroups cI cZ cL cB q q_counts q_symbols q_weights q_groups q_nodeOf q_parents q_depths q_p0 k_groupsLeft k_nodes n_p0 k_p0 k_weights k_nodeOf k_depths k_groups) s.heap.size = A at hD ⊢
  have hA : ∀ q : Nat, s.heap.size ≤ q → A q := fun q h => by rw [← hAe]; exact Or.inr h
  have hS : va_S A s.heap s.heap [] := va_S.rf
  have hl := lv_entry [.ref q, .ref q_p0] (n := 3) (Nat.le_of_ble_eq_true rfl)
  rw [lg_entry_eq]
  generalize (lg_sl [.ref q, .ref q_p0] ++ List.replicate (3 - (lg_sl [.ref q, .ref q_p0]).length) Slot.unset).toArray = ls at hl ⊢
  have hl : lv_has ls 3 [(0, .ref q), (1, .ref q_p0)] := hl
  unfold f_FB_startGroups at hf
  refine lv_aload_n hx hb dFB_startGroups_0 rfl (lv_at hl 0 rfl) ?_
  refine lv_iconst (v := 0) hx hb dFB_startGroups_1 (by decide) ?_
  refine va_put (D := (dC, dI)) (ci := 0) (v := .int 0) (ty := .int) (C := RFB) (T := TFB) (N := 9) hx hb hts hi_FB tyFB tyFB_ok nmFB hown hK hP hD hS 0 rfl rfl 4 (by decide) (hts _ tw_98) (fun _ h9 => h9) rfl (by decide +kernel) rfl rfl (Nat.le_of_ble_eq_true rfl) dFB_startGroups_2 (fun H locs hP hD hS => ?_)
  have hP : va_P (dC, dI) vwCl (w_FB_startGroups cI cZ cL cB q q_counts q_symbols q_weights q_groups q_nodeOf q_parents q_depths q_p0 0 k_nodes n_p0 k_p0 k_weights k_nodeOf k_depths k_groups) H := hP
  have hD : va_D A (w_FB_startGroups cI cZ cL cB q q_counts q_symbols q_weights q_groups q_nodeOf q_parents q_depths q_p0 0 k_nodes n_p0 k_p0 k_weights k_nodeOf k_depths k_groups) := hD
  refine lv_iconst (v := 0) hx hb dFB_startGroups_5 (by decide) ?_
  refine lv_istore_n (lv' := [(2, .int 0), (0, .ref q), (1, .ref q_p0)]) hx hb dFB_startGroups_6 rfl hl (by decide) rfl (fun ls hl => ?_)
  refine Lp6_W (P := fun (x3 : Int32) (x4 : Nat → Int32) (x5 : Nat → Int32) (x6 : Int32) (x7 : Nat → Int32) (x8 : Nat → Int32) => ∀ (H : Heap) (locs : List Loc) (ls : Array Slot), va_P (dC, dI) vwCl (w_FB_startGroups cI cZ cL cB q q_counts q_symbols q_weights q_groups q_nodeOf q_parents q_depths q_p0 x6 k_nodes n_p0 k_p0 x8 x7 x4 x5) H → va_D A (w_FB_startGroups cI cZ cL cB q q_counts q_symbols q_weights q_groups q_nodeOf q_parents q_depths q_p0 x6 k_nodes n_p0 k_p0 x8 x7 x4 x5) → va_S A s.heap H locs → lv_has ls 3 [(0, .ref q), (1, .ref q_p0), (2, .int x3)] → W p l e _ s m _ below meth c H locs 0 0 _ (F0 m 7 ls [])) ?_ _ _ _ _ _ _ _ hf _ _ _ hP hD hS (lv_sub hl [1, 2, 0] rfl)
  clear hf hP hD hS hl
  intro ag1 ih2 x3 x4 x5 x6 x7 x8 hf H locs ls hP hD hS hl
  refine lv_iload_n hx hb dFB_startGroups_7 rfl (lv_at hl 2 rfl) ?_
  refine lv_sipush (v := 257) hx hb dFB_startGroups_8 (by decide) ?_
  refine lv_icmp_ge (tgt := 83) hx hb dFB_startGroups_11 (by decide) (fun c_9 => ?_) (fun c_9 => ?_)
  · have hf := ifT hf c_9
    refine lv_aload_n hx hb dFB_startGroups_83 rfl (lv_at hl 0 rfl) ?_
    refine lv_sipush (v := 257) hx hb dFB_startGroups_84 (by decide) ?_
    refine va_put (D := (dC, dI)) (ci := 0) (v := .int 257) (ty := .int) (C := RFB) (T := TFB) (N := 9) hx hb hts hi_FB tyFB tyFB_ok nmFB hown hK hP hD hS 0 rfl rfl 8 (by decide) (hts _ tw_102) (fun _ h9 => h9) rfl (by decide +kernel) rfl rfl (Nat.le_of_ble_eq_true rfl) dFB_startGroups_87 (fun H locs hP hD hS => ?_)
    have hP : va_P (dC, dI) vwCl (w_FB_startGroups cI cZ cL cB q q_counts q_symbols q_weights q_groups q_nodeOf q_parents q_depths q_p0 x6 257 n_p0 k_p0 x8 x7 x4 x5) H := hP
    have hD : va_D A (w_FB_startGroups cI cZ cL cB q q_counts q_symbols q_weights q_groups q_nodeOf q_parents q_depths q_p0 x6 257 n_p0 k_p0 x8 x7 x4 x5) := hD
    cases hf
    exact ax_vret hx hb hr hP hD hS dFB_startGroups_90 hlocks
  · have hf := ifF hf c_9
    refine lv_aload_n hx hb dFB_startGroups_14 rfl (lv_at hl 0 rfl) ?_
    refine va_get (D := (dC, dI)) (ci := 0) (v := .ref q_weights) (C := RFB) (T := TFB) (N := 9) hx hb hts hi_FB hown hK hP 0 rfl rfl 2 (by decide) (hts _ tw_96) (fun _ h9 => h9) rfl dFB_startGroups_15 ?_
    refine lv_iload_n hx hb dFB_startGroups_18 rfl (lv_at hl 2 rfl) ?_
    refine lv_iload_n hx hb dFB_startGroups_19 rfl (lv_at hl 2 rfl) ?_
    refine lv_sipush (v := 256) hx hb dFB_startGroups_20 (by decide) ?_
    refine lv_icmp_ne (tgt := 30) hx hb dFB_startGroups_23 (by decide) (fun c_10 => ?_) (fun c_10 => ?_)
    · have hf := ifF hf c_10
      refine lv_aload_n hx hb dFB_startGroups_30 rfl (lv_at hl 1 rfl) ?_
      refine lv_iload_n hx hb dFB_startGroups_31 rfl (lv_at hl 2 rfl) ?_
      obtain ⟨v11, ev11, h12, hf⟩ := rd_some hf
      refine ax_iald hx hb hK hP 1 0 rfl rfl h12 ev11 dFB_startGroups_32 ?_
      obtain ⟨g13, eg13, h14, hf⟩ := wr_some hf
      refine ax_iast hx hb hK hP hD hS 2 0 rfl rfl h14 eg13 dFB_startGroups_33 (ws' := (w_FB_startGroups cI cZ cL cB q q_counts q_symbols q_weights q_groups q_nodeOf q_parents q_depths q_p0 x6 k_nodes n_p0 k_p0 g13 x7 x4 x5)) rfl (fun H locs hP hD hS => ?_)
      refine lv_aload_n hx hb dFB_startGroups_34 rfl (lv_at hl 0 rfl) ?_
      refine va_get (D := (dC, dI)) (ci := 0) (v := .ref q_nodeOf) (C := RFB) (T := TFB) (N := 9) hx hb hts hi_FB hown hK hP 0 rfl rfl 5 (by decide) (hts _ tw_99) (fun _ h9 => h9) rfl dFB_startGroups_35 ?_
      refine lv_iload_n hx hb dFB_startGroups_38 rfl (lv_at hl 2 rfl) ?_
      refine lv_iload_n hx hb dFB_startGroups_39 rfl (lv_at hl 2 rfl) ?_
      obtain ⟨g15, eg15, h16, hf⟩ := wr_some hf
      refine ax_iast hx hb hK hP hD hS 3 0 rfl rfl h16 eg15 dFB_startGroups_40 (ws' := (w_FB_startGroups cI cZ cL cB q q_counts q_symbols q_weights q_groups q_nodeOf q_parents q_depths q_p0 x6 k_nodes n_p0 k_p0 g13 g15 x4 x5)) rfl (fun H locs hP hD hS => ?_)
      refine lv_aload_n hx hb dFB_startGroups_41 rfl (lv_at hl 0 rfl) ?_
      refine va_get (D := (dC, dI)) (ci := 0) (v := .ref q_depths) (C := RFB) (T := TFB) (N := 9) hx hb hts hi_FB hown hK hP 0 rfl rfl 7 (by decide) (hts _ tw_101) (fun _ h9 => h9) rfl dFB_startGroups_42 ?_
      refine lv_iload_n hx hb dFB_startGroups_45 rfl (lv_at hl 2 rfl) ?_
      refine lv_iconst (v := 0) hx hb dFB_startGroups_46 (by decide) ?_
      obtain ⟨g17, eg17, h18, hf⟩ := wr_some hf
      refine ax_iast hx hb hK hP hD hS 4 0 rfl rfl h18 eg17 dFB_startGroups_47 (ws' := (w_FB_startGroups cI cZ cL cB q q_counts q_symbols q_weights q_groups q_nodeOf q_parents q_depths q_p0 x6 k_nodes n_p0 k_p0 g13 g15 g17 x5)) rfl (fun H locs hP hD hS => ?_)
      refine lv_aload_n hx hb dFB_startGroups_48 rfl (lv_at hl 0 rfl) ?_
      refine va_get (D := (dC, dI)) (ci := 0) (v := .ref q_weights) (C := RFB) (T := TFB) (N := 9) hx hb hts hi_FB hown hK hP 0 rfl rfl 2 (by decide) (hts _ tw_96) (fun _ h9 => h9) rfl dFB_startGroups_49 ?_
      refine lv_iload_n hx hb dFB_startGroups_52 rfl (lv_at hl 2 rfl) ?_
      obtain ⟨v19, ev19, h20, hf⟩ := rd_some hf
      refine ax_iald hx hb hK hP 2 0 rfl rfl h20 ev19 dFB_startGroups_53 ?_
      refine lv_if_le (tgt := 77) hx hb dFB_startGroups_54 (by decide) (fun c_21 => ?_) (fun c_21 => ?_)
      · have hf := ifT hf c_21
        refine lv_iinc (v := (x3 + 1)) (lv' := [(2, .int (x3 + 1)), (0, .ref q), (1, .ref q_p0)]) hx hb dFB_startGroups_77 hl (k := 2) rfl rfl (by decide) rfl (fun ls hl => ?_)
        refine lv_goto (tgt := 7) hx hb dFB_startGroups_80 (by decide) ?_
        exact ih2 (x3 + 1) g17 x5 x6 g15 g13 hf _ _ _ hP hD hS (lv_sub hl [1, 2, 0] rfl)
      · have hf := ifF hf c_21
        refine lv_aload_n hx hb dFB_startGroups_57 rfl (lv_at hl 0 rfl) ?_
        refine va_get (D := (dC, dI)) (ci := 0) (v := .ref q_groups) (C := RFB) (T := TFB) (N := 9) hx hb hts hi_FB hown hK hP 0 rfl rfl 3 (by decide) (hts _ tw_97) (fun _ h9 => h9) rfl dFB_startGroups_58 ?_
        refine lv_aload_n hx hb dFB_startGroups_61 rfl (lv_at hl 0 rfl) ?_
        refine va_get (D := (dC, dI)) (ci := 0) (v := .int x6) (C := RFB) (T := TFB) (N := 9) hx hb hts hi_FB hown hK hP 0 rfl rfl 4 (by decide) (hts _ tw_98) (fun _ h9 => h9) rfl dFB_startGroups_62 ?_
        refine lv_iload_n hx hb dFB_startGroups_65 rfl (lv_at hl 2 rfl) ?_
        obtain ⟨g22, eg22, h23, hf⟩ := wr_some hf
        refine ax_iast hx hb hK hP hD hS 5 0 rfl rfl h23 eg22 dFB_startGroups_66 (ws' := (w_FB_startGroups cI cZ cL cB q q_counts q_symbols q_weights q_groups q_nodeOf q_parents q_depths q_p0 x6 k_nodes n_p0 k_p0 g13 g15 g17 g22)) rfl (fun H locs hP hD hS => ?_)
        refine lv_aload_n hx hb dFB_startGroups_67 rfl (lv_at hl 0 rfl) ?_
        refine lv_dup hx hb dFB_startGroups_68 rfl ?_
        refine va_get (D := (dC, dI)) (ci := 0) (v := .int x6) (C := RFB) (T := TFB) (N := 9) hx hb hts hi_FB hown hK hP 0 rfl rfl 4 (by decide) (hts _ tw_98) (fun _ h9 => h9) rfl dFB_startGroups_69 ?_
        refine lv_iconst (v := 1) hx hb dFB_startGroups_72 (by decide) ?_
        refine lv_iadd hx hb dFB_startGroups_73 ?_
        refine va_put (D := (dC, dI)) (ci := 0) (v := .int (x6 + 1)) (ty := .int) (C := RFB) (T := TFB) (N := 9) hx hb hts hi_FB tyFB tyFB_ok nmFB hown hK hP hD hS 0 rfl rfl 4 (by decide) (hts _ tw_98) (fun _ h9 => h9) rfl (by decide +kernel) rfl rfl (Nat.le_of_ble_eq_true rfl) dFB_startGroups_74 (fun H locs hP hD hS => ?_)
        have hP : va_P (dC, dI) vwCl (w_FB_startGroups cI cZ cL cB q q_counts q_symbols q_weights q_groups q_nodeOf q_parents q_depths q_p0 (x6 + 1) k_nodes n_p0 k_p0 g13 g15 g17 g22) H := hP
        have hD : va_D A (w_FB_startGroups cI cZ cL cB q q_counts q_symbols q_weights q_groups q_nodeOf q_parents q_depths q_p0 (x6 + 1) k_nodes n_p0 k_p0 g13 g15 g17 g22) := hD
        refine lv_iinc (v := (x3 + 1)) (lv' := [(2, .int (x3 + 1)), (0, .ref q), (1, .ref q_p0)]) hx hb dFB_startGroups_77 hl (k := 2) rfl rfl (by decide) rfl (fun ls hl => ?_)
        refine lv_goto (tgt := 7) hx hb dFB_startGroups_80 (by decide) ?_
        exact ih2 (x3 + 1) g17 g22 (x6 + 1) g15 g13 hf _ _ _ hP hD hS (lv_sub hl [1, 2, 0] rfl)
    · have hf := ifT hf c_10
      refine lv_iconst (v := 1) hx hb dFB_startGroups_26 (by decide) ?_
      refine lv_goto (tgt := 33) hx hb dFB_startGroups_27 (by decide) ?_
      obtain ⟨g24, eg24, h25, hf⟩ := wr_some hf
      refine ax_iast hx hb hK hP hD hS 2 0 rfl rfl h25 eg24 dFB_startGroups_33 (ws' := (w_FB_startGroups cI cZ cL cB q q_counts q_symbols q_weights q_groups q_nodeOf q_parents q_depths q_p0 x6 k_nodes n_p0 k_p0 g24 x7 x4 x5)) rfl (fun H locs hP hD hS => ?_)
      refine lv_aload_n hx hb dFB_startGroups_34 rfl (lv_at hl 0 rfl) ?_
      refine va_get (D := (dC, dI)) (ci := 0) (v := .ref q_nodeOf) (C := RFB) (T := TFB) (N := 9) hx hb hts hi_FB hown hK hP 0 rfl rfl 5 (by decide) (hts _ tw_99) (fun _ h9 => h9) rfl dFB_startGroups_35 ?_
      refine lv_iload_n hx hb dFB_startGroups_38 rfl (lv_at hl 2 rfl) ?_
      refine lv_iload_n hx hb dFB_startGroups_39 rfl (lv_at hl 2 rfl) ?_
      obtain ⟨g26, eg26, h27, hf⟩ := wr_some hf
      refine ax_iast hx hb hK hP hD hS 3 0 rfl rfl h27 eg26 dFB_startGroups_40 (ws' := (w_FB_startGroups cI cZ cL cB q q_counts q_symbols q_weights q_groups q_nodeOf q_parents q_depths q_p0 x6 k_nodes n_p0 k_p0 g24 g26 x4 x5)) rfl (fun H locs hP hD hS => ?_)
      refine lv_aload_n hx hb dFB_startGroups_41 rfl (lv_at hl 0 rfl) ?_
      refine va_get (D := (dC, dI)) (ci := 0) (v := .ref q_depths) (C := RFB) (T := TFB) (N := 9) hx hb hts hi_FB hown hK hP 0 rfl rfl 7 (by decide) (hts _ tw_101) (fun _ h9 => h9) rfl dFB_startGroups_42 ?_
      refine lv_iload_n hx hb dFB_startGroups_45 rfl (lv_at hl 2 rfl) ?_
      refine lv_iconst (v := 0) hx hb dFB_startGroups_46 (by decide) ?_
      obtain ⟨g28, eg28, h29, hf⟩ := wr_some hf
      refine ax_iast hx hb hK hP hD hS 4 0 rfl rfl h29 eg28 dFB_startGroups_47 (ws' := (w_FB_startGroups cI cZ cL cB q q_counts q_symbols q_weights q_groups q_nodeOf q_parents q_depths q_p0 x6 k_nodes n_p0 k_p0 g24 g26 g28 x5)) rfl (fun H locs hP hD hS => ?_)
      refine lv_aload_n hx hb dFB_startGroups_48 rfl (lv_at hl 0 rfl) ?_
      refine va_get (D := (dC, dI)) (ci := 0) (v := .ref q_weights) (C := RFB) (T := TFB) (N := 9) hx hb hts hi_FB hown hK hP 0 rfl rfl 2 (by decide) (hts _ tw_96) (fun _ h9 => h9) rfl dFB_startGroups_49 ?_
      refine lv_iload_n hx hb dFB_startGroups_52 rfl (lv_at hl 2 rfl) ?_
      obtain ⟨v30, ev30, h31, hf⟩ := rd_some hf
      refine ax_iald hx hb hK hP 2 0 rfl rfl h31 ev30 dFB_startGroups_53 ?_
      refine lv_if_le (tgt := 77) hx hb dFB_startGroups_54 (by decide) (fun c_32 => ?_) (fun c_32 => ?_)
      · have hf := ifT hf c_32
        refine lv_iinc (v := (x3 + 1)) (lv' := [(2, .int (x3 + 1)), (0, .ref q), (1, .ref q_p0)]) hx hb dFB_startGroups_77 hl (k := 2) rfl rfl (by decide) rfl (fun ls hl => ?_)
        refine lv_goto (tgt := 7) hx hb dFB_startGroups_80 (by decide) ?_
        exact ih2 (x3 + 1) g28 x5 x6 g26 g24 hf _ _ _ hP hD hS (lv_sub hl [1, 2, 0] rfl)
      · have hf := ifF hf c_32
        refine lv_aload_n hx hb dFB_startGroups_57 rfl (lv_at hl 0 rfl) ?_
        refine va_get (D := (dC, dI)) (ci := 0) (v := .ref q_groups) (C := RFB) (T := TFB) (N := 9) hx hb hts hi_FB hown hK hP 0 rfl rfl 3 (by decide) (hts _ tw_97) (fun _ h9 => h9) rfl dFB_startGroups_58 ?_
        refine lv_aload_n hx hb dFB_startGroups_61 rfl (lv_at hl 0 rfl) ?_
        refine va_get (D := (dC, dI)) (ci := 0) (v := .int x6) (C := RFB) (T := TFB) (N := 9) hx hb hts hi_FB hown hK hP 0 rfl rfl 4 (by decide) (hts _ tw_98) (fun _ h9 => h9) rfl dFB_startGroups_62 ?_
        refine lv_iload_n hx hb dFB_startGroups_65 rfl (lv_at hl 2 rfl) ?_
        obtain ⟨g33, eg33, h34, hf⟩ := wr_some hf
        refine ax_iast hx hb hK hP hD hS 5 0 rfl rfl h34 eg33 dFB_startGroups_66 (ws' := (w_FB_startGroups cI cZ cL cB q q_counts q_symbols q_weights q_groups q_nodeOf q_parents q_depths q_p0 x6 k_nodes n_p0 k_p0 g24 g26 g28 g33)) rfl (fun H locs hP hD hS => ?_)
        refine lv_aload_n hx hb dFB_startGroups_67 rfl (lv_at hl 0 rfl) ?_
        refine lv_dup hx hb dFB_startGroups_68 rfl ?_
        refine va_get (D := (dC, dI)) (ci := 0) (v := .int x6) (C := RFB) (T := TFB) (N := 9) hx hb hts hi_FB hown hK hP 0 rfl rfl 4 (by decide) (hts _ tw_98) (fun _ h9 => h9) rfl dFB_startGroups_69 ?_
        refine lv_iconst (v := 1) hx hb dFB_startGroups_72 (by decide) ?_
        refine lv_iadd hx hb dFB_startGroups_73 ?_
        refine va_put (D := (dC, dI)) (ci := 0) (v := .int (x6 + 1)) (ty := .int) (C := RFB) (T := TFB) (N := 9) hx hb hts hi_FB tyFB tyFB_ok nmFB hown hK hP hD hS 0 rfl rfl 4 (by decide) (hts _ tw_98) (fun _ h9 => h9) rfl (by decide +kernel) rfl rfl (Nat.le_of_ble_eq_true rfl) dFB_startGroups_74 (fun H locs hP hD hS => ?_)
        have hP : va_P (dC, dI) vwCl (w_FB_startGroups cI cZ cL cB q q_counts q_symbols q_weights q_groups q_nodeOf q_parents q_depths q_p0 (x6 + 1) k_nodes n_p0 k_p0 g24 g26 g28 g33) H := hP
        have hD : va_D A (w_FB_startGroups cI cZ cL cB q q_counts q_symbols q_weights q_groups q_nodeOf q_parents q_depths q_p0 (x6 + 1) k_nodes n_p0 k_p0 g24 g26 g28 g33) := hD
        refine lv_iinc (v := (x3 + 1)) (lv' := [(2, .int (x3 + 1)), (0, .ref q), (1, .ref q_p0)]) hx hb dFB_startGroups_77 hl (k := 2) rfl rfl (by decide) rfl (fun ls hl => ?_)
        refine lv_goto (tgt := 7) hx hb dFB_startGroups_80 (by decide) ?_
        exact ih2 (x3 + 1) g28 g33 (x6 + 1) g26 g24 hf _ _ _ hP hD hS (lv_sub hl [1, 2, 0] rfl)
abbrev wsFB_comesBefore : List Cond := Cond.code yFB_comesBefore cFB_comesBefore 3 (some .boolean) :: tt
set_option maxHeartbeats 4000000 in
set_option maxRecDepth 100000 in
theorem cc_FB_comesBefore (l : Launch) (dC : Nat → ClassId) (dI : Nat → Nat → Nat) (cI cZ cL cB : ClassId) (q q_counts q_symbols q_weights q_groups q_nodeOf q_parents q_depths : Nat) (sz : Nat) (k_groupsLeft : Int32) (k_nodes : Int32) (k_weights : Nat → Int32) (a_0 : Int32) (a_1 : Int32) (r : Int32) (hf : f_FB_comesBefore k_groupsLeft k_nodes k_weights a_0 a_1 = some r) : Met l yFB_comesBefore wsFB_comesBefore ({ frames := 0, cells := 0, slots := 0, locals := 0 }) (va_Pc [.ref q, .int a_0, .int a_1] (kz_P dC dI cI cZ cL cB sz (w_FB_comesBefore cI cZ cL cB q q_counts q_symbols q_weights q_groups q_nodeOf q_parents q_depths k_groupsLeft k_nodes k_weights))) (va_Qi (fun (r' : Int32) (_ : Unit) => r' = r) (fun _ t => va_P (dC, dI) vwCl (w_FB_comesBefore cI cZ cL cB q q_counts q_symbols q_weights q_groups q_nodeOf q_parents q_depths k_groupsLeft k_nodes k_weights) t.heap ∧ va_D (va_A (w_FB_comesBefore cI cZ cL cB q q_counts q_symbols q_weights q_groups q_nodeOf q_parents q_depths k_groupsLeft k_nodes k_weights) sz) (w_FB_comesBefore cI cZ cL cB q q_counts q_symbols q_weights q_groups q_nodeOf q_parents q_depths k_groupsLeft k_nodes k_weights)) (va_A (w_FB_comesBefore cI cZ cL cB q q_counts q_symbols q_weights q_groups q_nodeOf q_parents q_depths k_groupsLeft k_nodes k_weights) sz)) 0 0 (va_A (w_FB_comesBefore cI cZ cL cB q q_counts q_symbols q_weights q_groups q_nodeOf q_parents q_depths k_groupsLeft k_nodes k_weights) sz) := by
  refine Met.ofW (cc := cFB_comesBefore) (maxL := 3) (ret := (some .boolean)) (by decide) rfl ?_
  intro p e s m args below meth c s₁ B hml hv
  obtain ⟨rfl, hsz, hP, hZ, hD0⟩ := hv
  have hK := hZ.1
  have hx := B.exec
  have hb := B.bytes
  have hr := B.returns
  have hts : ∀ w ∈ tt, w.before _ s = true := fun w h => atoms_spec (ws := wsFB_comesBefore) B.pre w (List.mem_cons_of_mem _ h)
  have hown : s.vm.findClass RFB = some m.cls := findClass_of_methodNamed B.named
  have hlocks := B.notSynchronized
  subst hsz
  have hD := hD0.self (sz := s.heap.size)
  generalize hAe : va_A (w_FB_comesBefore cI cZ cL cB q q_counts q_symbols q_weights q_groups q_nodeOf q_parents q_depths k_groupsLeft k_nodes k_weights) s.heap.size = A at hD ⊢
  have hA : ∀ q : Nat, s.heap.size ≤ q → A q := fun q h => by rw [← hAe]; exact Or.inr h
  have hS : va_S A s.heap s.heap [] := va_S.rf
  have hl := lv_entry [.ref q, .int a_0, .int a_1] (n := 3) (Nat.le_of_ble_eq_true rfl)
  rw [lg_entry_eq]
  generalize (lg_sl [.ref q, .int a_0, .int a_1] ++ List.replicate (3 - (lg_sl [.ref q, .int a_0, .int a_1]).length) Slot.unset).toArray = ls at hl ⊢
  have hl : lv_has ls 3 [(0, .ref q), (1, .int a_0), (2, .int a_1)] := hl
  unfold f_FB_comesBefore at hf
  refine lv_aload_n hx hb dFB_comesBefore_0 rfl (lv_at hl 0 rfl) ?_
  refine va_get (D := (dC, dI)) (ci := 0) (v := .ref q_weights) (C := RFB) (T := TFB) (N := 9) hx hb hts hi_FB hown hK hP 0 rfl rfl 2 (by decide) (hts _ tw_96) (fun _ h9 => h9) rfl dFB_comesBefore_1 ?_
  refine lv_iload_n hx hb dFB_comesBefore_4 rfl (lv_at hl 1 rfl) ?_
  obtain ⟨v1, ev1, h2, hf⟩ := rd_some hf
  refine ax_iald hx hb hK hP 1 0 rfl rfl h2 ev1 dFB_comesBefore_5 ?_
  refine lv_aload_n hx hb dFB_comesBefore_6 rfl (lv_at hl 0 rfl) ?_
  refine va_get (D := (dC, dI)) (ci := 0) (v := .ref q_weights) (C := RFB) (T := TFB) (N := 9) hx hb hts hi_FB hown hK hP 0 rfl rfl 2 (by decide) (hts _ tw_96) (fun _ h9 => h9) rfl dFB_comesBefore_7 ?_
  refine lv_iload_n hx hb dFB_comesBefore_10 rfl (lv_at hl 2 rfl) ?_
  obtain ⟨v3, ev3, h4, hf⟩ := rd_some hf
  refine ax_iald hx hb hK hP 1 0 rfl rfl h4 ev3 dFB_comesBefore_11 ?_
  refine lv_icmp_lt (tgt := 35) hx hb dFB_comesBefore_12 (by decide) (fun c_5 => ?_) (fun c_5 => ?_)
  · have hf := ifT hf c_5
    refine lv_iconst (v := 1) hx hb dFB_comesBefore_35 (by decide) ?_
    refine lv_goto (tgt := 40) hx hb dFB_comesBefore_36 (by decide) ?_
    cases hf
    exact ax_zret hx hb hr rfl hP hD hS dFB_comesBefore_40 hlocks
  · have hf := ifF hf c_5
    refine lv_aload_n hx hb dFB_comesBefore_15 rfl (lv_at hl 0 rfl) ?_
    refine va_get (D := (dC, dI)) (ci := 0) (v := .ref q_weights) (C := RFB) (T := TFB) (N := 9) hx hb hts hi_FB hown hK hP 0 rfl rfl 2 (by decide) (hts _ tw_96) (fun _ h9 => h9) rfl dFB_comesBefore_16 ?_
    refine lv_iload_n hx hb dFB_comesBefore_19 rfl (lv_at hl 1 rfl) ?_
    obtain ⟨v6, ev6, h7, hf⟩ := rd_some hf
    refine ax_iald hx hb hK hP 1 0 rfl rfl h7 ev6 dFB_comesBefore_20 ?_
    refine lv_aload_n hx hb dFB_comesBefore_21 rfl (lv_at hl 0 rfl) ?_
    refine va_get (D := (dC, dI)) (ci := 0) (v := .ref q_weights) (C := RFB) (T := TFB) (N := 9) hx hb hts hi_FB hown hK hP 0 rfl rfl 2 (by decide) (hts _ tw_96) (fun _ h9 => h9) rfl dFB_comesBefore_22 ?_
    refine lv_iload_n hx hb dFB_comesBefore_25 rfl (lv_at hl 2 rfl) ?_
    obtain ⟨v8, ev8, h9, hf⟩ := rd_some hf
    refine ax_iald hx hb hK hP 1 0 rfl rfl h9 ev8 dFB_comesBefore_26 ?_
    refine lv_icmp_ne (tgt := 39) hx hb dFB_comesBefore_27 (by decide) (fun c_10 => ?_) (fun c_10 => ?_)
    · have hf := ifF hf c_10
      refine lv_iconst (v := 0) hx hb dFB_comesBefore_39 (by decide) ?_
      cases hf
      exact ax_zret hx hb hr rfl hP hD hS dFB_comesBefore_40 hlocks
    · have hf := ifT hf c_10
      refine lv_iload_n hx hb dFB_comesBefore_30 rfl (lv_at hl 1 rfl) ?_
      refine lv_iload_n hx hb dFB_comesBefore_31 rfl (lv_at hl 2 rfl) ?_
      refine lv_icmp_le (tgt := 39) hx hb dFB_comesBefore_32 (by decide) (fun c_11 => ?_) (fun c_11 => ?_)
      · have hf := ifT hf c_11
        refine lv_iconst (v := 0) hx hb dFB_comesBefore_39 (by decide) ?_
        cases hf
        exact ax_zret hx hb hr rfl hP hD hS dFB_comesBefore_40 hlocks
      · have hf := ifF hf c_11
        refine lv_iconst (v := 1) hx hb dFB_comesBefore_35 (by decide) ?_
        refine lv_goto (tgt := 40) hx hb dFB_comesBefore_36 (by decide) ?_
        cases hf
        exact ax_zret hx hb hr rfl hP hD hS dFB_comesBefore_40 hlocks
abbrev wsFB_takeLeastGroup : List Cond := Cond.code yFB_takeLeastGroup cFB_takeLeastGroup 3 (some .int) :: tt
set_option maxHeartbeats 4000000 in
set_option maxRecDepth 100000 in
theorem cc_FB_takeLeastGroup (l : Launch) (dC : Nat → ClassId) (dI : Nat → Nat → Nat) (cI cZ cL cB : ClassId) (q q_counts q_symbols q_weights q_groups q_nodeOf q_parents q_depths : Nat) (sz : Nat) (k_groupsLeft : Int32) (k_nodes : Int32) (k_groups : Nat → Int32) (k_weights : Nat → Int32) (r : Int32) (o_groupsLeft : Int32) (o_groups : Nat → Int32) (hf : f_FB_takeLeastGroup k_groupsLeft k_nodes k_groups k_weights = some (r, o_groupsLeft, o_groups)) : Met l yFB_takeLeastGroup wsFB_takeLeastGroup ({ frames := 1, cells := 0, slots := 0, locals := 22 }) (va_Pc [.ref q] (kz_P dC dI cI cZ cL cB sz (w_FB_takeLeastGroup cI cZ cL cB q q_counts q_symbols q_weights q_groups q_nodeOf q_parents q_depths k_groupsLeft k_nodes k_groups k_weights))) (va_Qi (fun (r' : Int32) (_ : Unit) => r' = r) (fun _ t => va_P (dC, dI) vwCl (w_FB_takeLeastGroup cI cZ cL cB q q_counts q_symbols q_weights q_groups q_nodeOf q_parents q_depths o_groupsLeft k_nodes o_groups k_weights) t.heap ∧ va_D (va_A (w_FB_takeLeastGroup cI cZ cL cB q q_counts q_symbols q_weights q_groups q_nodeOf q_parents q_depths k_groupsLeft k_nodes k_groups k_weights) sz) (w_FB_takeLeastGroup cI cZ cL cB q q_counts q_symbols q_weights q_groups q_nodeOf q_parents q_depths o_groupsLeft k_nodes o_groups k_weights)) (va_A (w_FB_takeLeastGroup cI cZ cL cB q q_counts q_symbols q_weights q_groups q_nodeOf q_parents q_depths k_groupsLeft k_nodes k_groups k_weights) sz)) 0 0 (va_A (w_FB_takeLeastGroup cI cZ cL cB q q_counts q_symbols q_weights q_groups q_nodeOf q_parents q_depths k_groupsLeft k_nodes k_groups k_weights) sz) := by
  refine Met.ofW (cc := cFB_takeLeastGroup) (maxL := 3) (ret := (some .int)) (by decide) rfl ?_
  intro p e s m args below meth c s₁ B hml hv
  obtain ⟨rfl, hsz, hP, hZ, hD0⟩ := hv
  have hK := hZ.1
  have hx := B.exec
  have hb := B.bytes
  have hr := B.returns
  have hts : ∀ w ∈ tt, w.before _ s = true := fun w h => atoms_spec (ws := wsFB_takeLeastGroup) B.pre w (List.mem_cons_of_mem _ h)
  have hown : s.vm.findClass RFB = some m.cls := findClass_of_methodNamed B.named
  have hlocks := B.notSynchronized
  subst hsz
  have hD := hD0.self (sz := s.heap.size)
  generalize hAe : va_A (w_FB_takeLeastGroup cI cZ cL cB q q_counts q_symbols q_weights q_groups q_nodeOf q_parents q_depths k_groupsLeft k_nodes k_groups k_weights) s.heap.size = A at hD ⊢
  have hA : ∀ q : Nat, s.heap.size ≤ q → A q := fun q h => by rw [← hAe]; exact Or.inr h
  have hS : va_S A s.heap s.heap [] := va_S.rf
  have hl := lv_entry [.ref q] (n := 3) (Nat.le_of_ble_eq_true rfl)
  rw [lg_entry_eq]
  generalize (lg_sl [.ref q] ++ List.replicate (3 - (lg_sl [.ref q]).length) Slot.unset).toArray = ls at hl ⊢
  have hl : lv_has ls 3 [(0, .ref q)] := hl
  unfold f_FB_takeLeastGroup at hf
  refine lv_iconst (v := 0) hx hb dFB_takeLeastGroup_0 (by decide) ?_
  refine lv_istore_n (lv' := [(1, .int 0), (0, .ref q)]) hx hb dFB_takeLeastGroup_1 rfl hl (by decide) rfl (fun ls hl => ?_)
  refine lv_iconst (v := 1) hx hb dFB_takeLeastGroup_2 (by decide) ?_
  refine lv_istore_n (lv' := [(2, .int 1), (1, .int 0), (0, .ref q)]) hx hb dFB_takeLeastGroup_3 rfl hl (by decide) rfl (fun ls hl => ?_)
  refine Lp2_W (P := fun (x3 : Int32) (x4 : Int32) => ∀ (H : Heap) (locs : List Loc) (ls : Array Slot), va_P (dC, dI) vwCl (w_FB_takeLeastGroup cI cZ cL cB q q_counts q_symbols q_weights q_groups q_nodeOf q_parents q_depths k_groupsLeft k_nodes k_groups k_weights) H → va_D A (w_FB_takeLeastGroup cI cZ cL cB q q_counts q_symbols q_weights q_groups q_nodeOf q_parents q_depths k_groupsLeft k_nodes k_groups k_weights) → va_S A s.heap H locs → lv_has ls 3 [(0, .ref q), (1, .int x3), (2, .int x4)] → W p l e _ s m _ below meth c H locs 0 0 _ (F0 m 4 ls [])) ?_ _ _ _ hf _ _ _ hP hD hS (lv_sub hl [2, 1, 0] rfl)
  clear hf hP hD hS hl
  intro ag1 ih2 x3 x4 hf H locs ls hP hD hS hl
  refine lv_iload_n hx hb dFB_takeLeastGroup_4 rfl (lv_at hl 2 rfl) ?_
  refine lv_aload_n hx hb dFB_takeLeastGroup_5 rfl (lv_at hl 0 rfl) ?_
  refine va_get (D := (dC, dI)) (ci := 0) (v := .int k_groupsLeft) (C := RFB) (T := TFB) (N := 9) hx hb hts hi_FB hown hK hP 0 rfl rfl 4 (by decide) (hts _ tw_98) (fun _ h9 => h9) rfl dFB_takeLeastGroup_6 ?_
  refine lv_icmp_ge (tgt := 39) hx hb dFB_takeLeastGroup_9 (by decide) (fun c_5 => ?_) (fun c_5 => ?_)
  · have hf := ifT hf c_5
    refine lv_aload_n hx hb dFB_takeLeastGroup_39 rfl (lv_at hl 0 rfl) ?_
    refine va_get (D := (dC, dI)) (ci := 0) (v := .ref q_groups) (C := RFB) (T := TFB) (N := 9) hx hb hts hi_FB hown hK hP 0 rfl rfl 3 (by decide) (hts _ tw_97) (fun _ h9 => h9) rfl dFB_takeLeastGroup_40 ?_
    refine lv_iload_n hx hb dFB_takeLeastGroup_43 rfl (lv_at hl 1 rfl) ?_
    obtain ⟨v6, ev6, h7, hf⟩ := rd_some hf
    refine ax_iald hx hb hK hP 1 0 rfl rfl h7 ev6 dFB_takeLeastGroup_44 ?_
    refine lv_istore_n (lv' := [(2, .int v6), (0, .ref q), (1, .int x3)]) hx hb dFB_takeLeastGroup_45 rfl hl (by decide) rfl (fun ls hl => ?_)
    refine lv_aload_n hx hb dFB_takeLeastGroup_46 rfl (lv_at hl 1 rfl) ?_
    refine lv_dup hx hb dFB_takeLeastGroup_47 rfl ?_
    refine va_get (D := (dC, dI)) (ci := 0) (v := .int k_groupsLeft) (C := RFB) (T := TFB) (N := 9) hx hb hts hi_FB hown hK hP 0 rfl rfl 4 (by decide) (hts _ tw_98) (fun _ h9 => h9) rfl dFB_takeLeastGroup_48 ?_
    refine lv_iconst (v := 1) hx hb dFB_takeLeastGroup_51 (by decide) ?_
    refine lv_isub hx hb dFB_takeLeastGroup_52 ?_
    refine va_put (D := (dC, dI)) (ci := 0) (v := .int (k_groupsLeft - 1)) (ty := .int) (C := RFB) (T := TFB) (N := 9) hx hb hts hi_FB tyFB tyFB_ok nmFB hown hK hP hD hS 0 rfl rfl 4 (by decide) (hts _ tw_98) (fun _ h9 => h9) rfl (by decide +kernel) rfl rfl (Nat.le_of_ble_eq_true rfl) dFB_takeLeastGroup_53 (fun H locs hP hD hS => ?_)
    have hP : va_P (dC, dI) vwCl (w_FB_takeLeastGroup cI cZ cL cB q q_counts q_symbols q_weights q_groups q_nodeOf q_parents q_depths (k_groupsLeft - 1) k_nodes k_groups k_weights) H := hP
    have hD : va_D A (w_FB_takeLeastGroup cI cZ cL cB q q_counts q_symbols q_weights q_groups q_nodeOf q_parents q_depths (k_groupsLeft - 1) k_nodes k_groups k_weights) := hD
    refine lv_aload_n hx hb dFB_takeLeastGroup_56 rfl (lv_at hl 1 rfl) ?_
    refine va_get (D := (dC, dI)) (ci := 0) (v := .ref q_groups) (C := RFB) (T := TFB) (N := 9) hx hb hts hi_FB hown hK hP 0 rfl rfl 3 (by decide) (hts _ tw_97) (fun _ h9 => h9) rfl dFB_takeLeastGroup_57 ?_
    refine lv_iload_n hx hb dFB_takeLeastGroup_60 rfl (lv_at hl 2 rfl) ?_
    refine lv_aload_n hx hb dFB_takeLeastGroup_61 rfl (lv_at hl 1 rfl) ?_
    refine va_get (D := (dC, dI)) (ci := 0) (v := .ref q_groups) (C := RFB) (T := TFB) (N := 9) hx hb hts hi_FB hown hK hP 0 rfl rfl 3 (by decide) (hts _ tw_97) (fun _ h9 => h9) rfl dFB_takeLeastGroup_62 ?_
    refine lv_aload_n hx hb dFB_takeLeastGroup_65 rfl (lv_at hl 1 rfl) ?_
    refine va_get (D := (dC, dI)) (ci := 0) (v := .int (k_groupsLeft - 1)) (C := RFB) (T := TFB) (N := 9) hx hb hts hi_FB hown hK hP 0 rfl rfl 4 (by decide) (hts _ tw_98) (fun _ h9 => h9) rfl dFB_takeLeastGroup_66 ?_
    obtain ⟨v8, ev8, h9, hf⟩ := rd_some hf
    refine ax_iald hx hb hK hP 1 0 rfl rfl h9 ev8 dFB_takeLeastGroup_69 ?_
    obtain ⟨g10, eg10, h11, hf⟩ := wr_some hf
    refine ax_iast hx hb hK hP hD hS 1 0 rfl rfl h11 eg10 dFB_takeLeastGroup_70 (ws' := (w_FB_takeLeastGroup cI cZ cL cB q q_counts q_symbols q_weights q_groups q_nodeOf q_parents q_depths (k_groupsLeft - 1) k_nodes g10 k_weights)) rfl (fun H locs hP hD hS => ?_)
    refine lv_iload_n hx hb dFB_takeLeastGroup_71 rfl (lv_at hl 0 rfl) ?_
    cases hf
    exact ax_iret hx hb hr hP hD hS dFB_takeLeastGroup_72 hlocks
  · have hf := ifF hf c_5
    refine lv_aload_n hx hb dFB_takeLeastGroup_12 rfl (lv_at hl 0 rfl) ?_
    refine lv_aload_n hx hb dFB_takeLeastGroup_13 rfl (lv_at hl 0 rfl) ?_
    refine va_get (D := (dC, dI)) (ci := 0) (v := .ref q_groups) (C := RFB) (T := TFB) (N := 9) hx hb hts hi_FB hown hK hP 0 rfl rfl 3 (by decide) (hts _ tw_97) (fun _ h9 => h9) rfl dFB_takeLeastGroup_14 ?_
    refine lv_iload_n hx hb dFB_takeLeastGroup_17 rfl (lv_at hl 2 rfl) ?_
    obtain ⟨v12, ev12, h13, hf⟩ := rd_some hf
    refine ax_iald hx hb hK hP 1 0 rfl rfl h13 ev12 dFB_takeLeastGroup_18 ?_
    refine lv_aload_n hx hb dFB_takeLeastGroup_19 rfl (lv_at hl 0 rfl) ?_
    refine va_get (D := (dC, dI)) (ci := 0) (v := .ref q_groups) (C := RFB) (T := TFB) (N := 9) hx hb hts hi_FB hown hK hP 0 rfl rfl 3 (by decide) (hts _ tw_97) (fun _ h9 => h9) rfl dFB_takeLeastGroup_20 ?_
    refine lv_iload_n hx hb dFB_takeLeastGroup_23 rfl (lv_at hl 1 rfl) ?_
    obtain ⟨v14, ev14, h15, hf⟩ := rd_some hf
    refine ax_iald hx hb hK hP 1 0 rfl rfl h15 ev14 dFB_takeLeastGroup_24 ?_
    obtain ⟨r16, h17, hf⟩ := bd1_some hf
    have hPc := hP.sub (ws' := (w_FB_comesBefore cI cZ cL cB q q_counts q_symbols q_weights q_groups q_nodeOf q_parents q_depths k_groupsLeft k_nodes k_weights)) [0, 2] rfl
    have hDc := hD.sub (ws' := (w_FB_comesBefore cI cZ cL cB q q_counts q_symbols q_weights q_groups q_nodeOf q_parents q_depths k_groupsLeft k_nodes k_weights)) [0, 2] (by decide) rfl
    refine ax_calli (wr := [(q_groups, .inl (cI, 257, .inl k_groups))]) (w2 := (w_FB_takeLeastGroup cI cZ cL cB q q_counts q_symbols q_weights q_groups q_nodeOf q_parents q_depths k_groupsLeft k_nodes k_groups k_weights)) (va_runV (As := [.int v12, .int v14]) (rest := []) ⟨hx, hb, hml, hown, hts⟩ (cc_FB_comesBefore l dC dI cI cZ cL cB q q_counts q_symbols q_weights q_groups q_nodeOf q_parents q_depths H.size k_groupsLeft k_nodes k_weights v12 v14 r16 h17) (cwV 2 hts (tt_V tw_212 tw_213 tw_7 tw_25 tw_214) rfl rfl rfl (by decide +kernel) ⟨Nat.le_of_ble_eq_true rfl, Nat.le_of_ble_eq_true rfl⟩) ⟨kz_fb, va_recv hK hPc (ci := 0) (q0 := 0) rfl rfl, kz_pre hPc hZ hDc⟩ rfl rfl hl.1 rfl (lv_room (Nat.le_of_ble_eq_true rfl)) dFB_takeLeastGroup_25 ⟨Nat.zero_le _, Nat.zero_le _⟩) hP hD hS hA [0, 2] [1] [1, 0, 2] rfl rfl (by decide) (by decide) rfl (by decide) (fun H locs hP hD hS => ?_)
    refine lv_if_eq (tgt := 33) hx hb dFB_takeLeastGroup_28 (by decide) (fun c_18 => ?_) (fun c_18 => ?_)
    · have hf := ifT hf c_18
      refine lv_iinc (v := (x4 + 1)) (lv' := [(2, .int (x4 + 1)), (0, .ref q), (1, .int x3)]) hx hb dFB_takeLeastGroup_33 hl (k := 2) rfl rfl (by decide) rfl (fun ls hl => ?_)
      refine lv_goto (tgt := 4) hx hb dFB_takeLeastGroup_36 (by decide) ?_
      exact ih2 x3 (x4 + 1) hf _ _ _ hP hD hS (lv_sub hl [1, 2, 0] rfl)
    · have hf := ifF hf c_18
      refine lv_iload_n hx hb dFB_takeLeastGroup_31 rfl (lv_at hl 2 rfl) ?_
      refine lv_istore_n (lv' := [(1, .int x4), (0, .ref q), (2, .int x4)]) hx hb dFB_takeLeastGroup_32 rfl hl (by decide) rfl (fun ls hl => ?_)
      refine lv_iinc (v := (x4 + 1)) (lv' := [(2, .int (x4 + 1)), (1, .int x4), (0, .ref q)]) hx hb dFB_takeLeastGroup_33 hl (k := 2) rfl rfl (by decide) rfl (fun ls hl => ?_)
      refine lv_goto (tgt := 4) hx hb dFB_takeLeastGroup_36 (by decide) ?_
      exact ih2 x4 (x4 + 1) hf _ _ _ hP hD hS (lv_sub hl [2, 1, 0] rfl)
abbrev wsFB_joinGroups : List Cond := Cond.code yFB_joinGroups cFB_joinGroups 4 none :: tt
set_option maxHeartbeats 4000000 in
set_option maxRecDepth 100000 in
theorem cc_FB_joinGroups (l : Launch) (dC : Nat → ClassId) (dI : Nat → Nat → Nat) (cI cZ cL cB : ClassId) (q q_counts q_symbols q_weights q_groups q_nodeOf q_parents q_depths : Nat) (sz : Nat) (k_groupsLeft : Int32) (k_nodes : Int32) (k_groups : Nat → Int32) (k_weights : Nat → Int32) (k_nodeOf : Nat → Int32) (k_parents : Nat → Int32) (o_groupsLeft : Int32) (o_nodes : Int32) (o_groups : Nat → Int32) (o_weights : Nat → Int32) (o_nodeOf : Nat → Int32) (o_parents : Nat → Int32) (hf : f_FB_joinGroups k_groupsLeft k_nodes k_groups k_weights k_nodeOf k_parents = some (o_groupsLeft, o_nodes, o_groups, o_weights, o_nodeOf, o_parents)) : Met l yFB_joinGroups wsFB_joinGroups ({ frames := 2, cells := 0, slots := 0, locals := 44 }) (va_Pc [.ref q] (kz_P dC dI cI cZ cL cB sz (w_FB_joinGroups cI cZ cL cB q q_counts q_symbols q_weights q_groups q_nodeOf q_parents q_depths k_groupsLeft k_nodes k_groups k_weights k_nodeOf k_parents))) (va_Qv (fun (_ : Unit) => True) (fun _ t => va_P (dC, dI) vwCl (w_FB_joinGroups cI cZ cL cB q q_counts q_symbols q_weights q_groups q_nodeOf q_parents q_depths o_groupsLeft o_nodes o_groups o_weights o_nodeOf o_parents) t.heap ∧ va_D (va_A (w_FB_joinGroups cI cZ cL cB q q_counts q_symbols q_weights q_groups q_nodeOf q_parents q_depths k_groupsLeft k_nodes k_groups k_weights k_nodeOf k_parents) sz) (w_FB_joinGroups cI cZ cL cB q q_counts q_symbols q_weights q_groups q_nodeOf q_parents q_depths o_groupsLeft o_nodes o_groups o_weights o_nodeOf o_parents)) (va_A (w_FB_joinGroups cI cZ cL cB q q_counts q_symbols q_weights q_groups q_nodeOf q_parents q_depths k_groupsLeft k_nodes k_groups k_weights k_nodeOf k_parents) sz)) 0 0 (va_A (w_FB_joinGroups cI cZ cL cB q q_counts q_symbols q_weights q_groups q_nodeOf q_parents q_depths k_groupsLeft k_nodes k_groups k_weights k_nodeOf k_parents) sz) := by
  refine Met.ofW (cc := cFB_joinGroups) (maxL := 4) (ret := none) (by decide) rfl ?_
  intro p e s m args below meth c s₁ B hml hv
  obtain ⟨rfl, hsz, hP, hZ, hD0⟩ := hv
  have hK := hZ.1
  have hx := B.exec
  have hb := B.bytes
  have hr := B.returns
  have hts : ∀ w ∈ tt, w.before _ s = true := fun w h => atoms_spec (ws := wsFB_joinGroups) B.pre w (List.mem_cons_of_mem _ h)
  have hown : s.vm.findClass RFB = some m.cls := findClass_of_methodNamed B.named
  have hlocks := B.notSynchronized
  subst hsz
  have hD := hD0.self (sz := s.heap.size)
  generalize hAe : va_A (w_FB_joinGroups cI cZ cL cB q q_counts q_symbols q_weights q_groups q_nodeOf q_parents q_depths k_groupsLeft k_nodes k_groups k_weights k_nodeOf k_parents) s.heap.size = A at hD ⊢
  have hA : ∀ q : Nat, s.heap.size ≤ q → A q := fun q h => by rw [← hAe]; exact Or.inr h
  have hS : va_S A s.heap s.heap [] := va_S.rf
  have hl := lv_entry [.ref q] (n := 4) (Nat.le_of_ble_eq_true rfl)
  rw [lg_entry_eq]
  generalize (lg_sl [.ref q] ++ List.replicate (4 - (lg_sl [.ref q]).length) Slot.unset).toArray = ls at hl ⊢
  have hl : lv_has ls 4 [(0, .ref q)] := hl
  unfold f_FB_joinGroups at hf
  refine lv_iconst (v := 0) hx hb dFB_joinGroups_0 (by decide) ?_
  refine lv_istore_n (lv' := [(1, .int 0), (0, .ref q)]) hx hb dFB_joinGroups_1 rfl hl (by decide) rfl (fun ls hl => ?_)
  refine Lp7_W (P := fun (x3 : Int32) (x4 : Nat → Int32) (x5 : Int32) (x6 : Nat → Int32) (x7 : Int32) (x8 : Nat → Int32) (x9 : Nat → Int32) => ∀ (H : Heap) (locs : List Loc) (ls : Array Slot), va_P (dC, dI) vwCl (w_FB_joinGroups cI cZ cL cB q q_counts q_symbols q_weights q_groups q_nodeOf q_parents q_depths x5 x7 x4 x9 x6 x8) H → va_D A (w_FB_joinGroups cI cZ cL cB q q_counts q_symbols q_weights q_groups q_nodeOf q_parents q_depths x5 x7 x4 x9 x6 x8) → va_S A s.heap H locs → lv_has ls 4 [(0, .ref q), (1, .int x3)] → W p l e _ s m _ below meth c H locs 0 0 _ (F0 m 2 ls [])) ?_ _ _ _ _ _ _ _ _ hf _ _ _ hP hD hS (lv_sub hl [1, 0] rfl)
  clear hf hP hD hS hl
  intro ag1 ih2 x3 x4 x5 x6 x7 x8 x9 hf H locs ls hP hD hS hl
  refine lv_iload_n hx hb dFB_joinGroups_2 rfl (lv_at hl 1 rfl) ?_
  refine lv_sipush (v := 256) hx hb dFB_joinGroups_3 (by decide) ?_
  refine lv_icmp_ge (tgt := 118) hx hb dFB_joinGroups_6 (by decide) (fun c_10 => ?_) (fun c_10 => ?_)
  · have hf := ifT hf c_10
    cases hf
    exact ax_vret hx hb hr hP hD hS dFB_joinGroups_118 hlocks
  · have hf := ifF hf c_10
    refine lv_aload_n hx hb dFB_joinGroups_9 rfl (lv_at hl 0 rfl) ?_
    refine va_get (D := (dC, dI)) (ci := 0) (v := .int x5) (C := RFB) (T := TFB) (N := 9) hx hb hts hi_FB hown hK hP 0 rfl rfl 4 (by decide) (hts _ tw_98) (fun _ h9 => h9) rfl dFB_joinGroups_10 ?_
    refine lv_iconst (v := 1) hx hb dFB_joinGroups_13 (by decide) ?_
    refine lv_icmp_le (tgt := 118) hx hb dFB_joinGroups_14 (by decide) (fun c_11 => ?_) (fun c_11 => ?_)
    · have hf := ifT hf c_11
      cases hf
      exact ax_vret hx hb hr hP hD hS dFB_joinGroups_118 hlocks
    · have hf := ifF hf c_11
      refine lv_aload_n hx hb dFB_joinGroups_17 rfl (lv_at hl 0 rfl) ?_
      obtain ⟨r12, o13, o14, h15, hf⟩ := bd3_some hf
      have hPc := hP.sub (ws' := (w_FB_takeLeastGroup cI cZ cL cB q q_counts q_symbols q_weights q_groups q_nodeOf q_parents q_depths x5 x7 x4 x9)) [0, 1, 2] rfl
      have hDc := hD.sub (ws' := (w_FB_takeLeastGroup cI cZ cL cB q q_counts q_symbols q_weights q_groups q_nodeOf q_parents q_depths x5 x7 x4 x9)) [0, 1, 2] (by decide) rfl
      refine ax_calli (wr := [(q_nodeOf, .inl (cI, 257, .inl x6)), (q_parents, .inl (cI, 513, .inl x8))]) (w2 := (w_FB_joinGroups cI cZ cL cB q q_counts q_symbols q_weights q_groups q_nodeOf q_parents q_depths o13 x7 o14 x9 x6 x8)) (va_runV (As := []) (rest := []) ⟨hx, hb, hml, hown, hts⟩ (cc_FB_takeLeastGroup l dC dI cI cZ cL cB q q_counts q_symbols q_weights q_groups q_nodeOf q_parents q_depths H.size x5 x7 x4 x9 r12 o13 o14 h15) (cwV 0 hts (tt_V tw_209 tw_210 tw_6 tw_25 tw_211) rfl rfl rfl (by decide +kernel) ⟨Nat.le_of_ble_eq_true rfl, Nat.le_of_ble_eq_true rfl⟩) ⟨kz_fb, va_recv hK hPc (ci := 0) (q0 := 0) rfl rfl, kz_pre hPc hZ hDc⟩ rfl rfl hl.1 rfl (lv_room (Nat.le_of_ble_eq_true rfl)) dFB_joinGroups_18 ⟨Nat.zero_le _, Nat.zero_le _⟩) hP hD hS hA [0, 1, 2] [3, 4] [2, 3, 4, 0, 1] rfl rfl (by decide) (by decide) rfl (by decide) (fun H locs hP hD hS => ?_)
      refine lv_istore_n (lv' := [(2, .int r12), (0, .ref q), (1, .int x3)]) hx hb dFB_joinGroups_21 rfl hl (by decide) rfl (fun ls hl => ?_)
      refine lv_aload_n hx hb dFB_joinGroups_22 rfl (lv_at hl 1 rfl) ?_
      obtain ⟨r16, o17, o18, h19, hf⟩ := bd3_some hf
      have hPc := hP.sub (ws' := (w_FB_takeLeastGroup cI cZ cL cB q q_counts q_symbols q_weights q_groups q_nodeOf q_parents q_depths o13 x7 o14 x9)) [0, 1, 2] rfl
      have hDc := hD.sub (ws' := (w_FB_takeLeastGroup cI cZ cL cB q q_counts q_symbols q_weights q_groups q_nodeOf q_parents q_depths o13 x7 o14 x9)) [0, 1, 2] (by decide) rfl
      refine ax_calli (wr := [(q_nodeOf, .inl (cI, 257, .inl x6)), (q_parents, .inl (cI, 513, .inl x8))]) (w2 := (w_FB_joinGroups cI cZ cL cB q q_counts q_symbols q_weights q_groups q_nodeOf q_parents q_depths o17 x7 o18 x9 x6 x8)) (va_runV (As := []) (rest := []) ⟨hx, hb, hml, hown, hts⟩ (cc_FB_takeLeastGroup l dC dI cI cZ cL cB q q_counts q_symbols q_weights q_groups q_nodeOf q_parents q_depths H.size o13 x7 o14 x9 r16 o17 o18 h19) (cwV 0 hts (tt_V tw_209 tw_210 tw_6 tw_25 tw_211) rfl rfl rfl (by decide +kernel) ⟨Nat.le_of_ble_eq_true rfl, Nat.le_of_ble_eq_true rfl⟩) ⟨kz_fb, va_recv hK hPc (ci := 0) (q0 := 0) rfl rfl, kz_pre hPc hZ hDc⟩ rfl rfl hl.1 rfl (lv_room (Nat.le_of_ble_eq_true rfl)) dFB_joinGroups_23 ⟨Nat.zero_le _, Nat.zero_le _⟩) hP hD hS hA [0, 1, 2] [3, 4] [2, 3, 4, 0, 1] rfl rfl (by decide) (by decide) rfl (by decide) (fun H locs hP hD hS => ?_)
      refine lv_istore_n (lv' := [(3, .int r16), (2, .int r12), (0, .ref q), (1, .int x3)]) hx hb dFB_joinGroups_26 rfl hl (by decide) rfl (fun ls hl => ?_)
      refine lv_aload_n hx hb dFB_joinGroups_27 rfl (lv_at hl 2 rfl) ?_
      refine va_get (D := (dC, dI)) (ci := 0) (v := .ref q_parents) (C := RFB) (T := TFB) (N := 9) hx hb hts hi_FB hown hK hP 0 rfl rfl 6 (by decide) (hts _ tw_100) (fun _ h9 => h9) rfl dFB_joinGroups_28 ?_
      refine lv_aload_n hx hb dFB_joinGroups_31 rfl (lv_at hl 2 rfl) ?_
      refine va_get (D := (dC, dI)) (ci := 0) (v := .ref q_nodeOf) (C := RFB) (T := TFB) (N := 9) hx hb hts hi_FB hown hK hP 0 rfl rfl 5 (by decide) (hts _ tw_99) (fun _ h9 => h9) rfl dFB_joinGroups_32 ?_
      refine lv_iload_n hx hb dFB_joinGroups_35 rfl (lv_at hl 1 rfl) ?_
      obtain ⟨v20, ev20, h21, hf⟩ := rd_some hf
      refine ax_iald hx hb hK hP 3 0 rfl rfl h21 ev20 dFB_joinGroups_36 ?_
      refine lv_aload_n hx hb dFB_joinGroups_37 rfl (lv_at hl 2 rfl) ?_
      refine va_get (D := (dC, dI)) (ci := 0) (v := .int x7) (C := RFB) (T := TFB) (N := 9) hx hb hts hi_FB hown hK hP 0 rfl rfl 8 (by decide) (hts _ tw_102) (fun _ h9 => h9) rfl dFB_joinGroups_38 ?_
      obtain ⟨g22, eg22, h23, hf⟩ := wr_some hf
      refine ax_iast hx hb hK hP hD hS 4 0 rfl rfl h23 eg22 dFB_joinGroups_41 (ws' := (w_FB_joinGroups cI cZ cL cB q q_counts q_symbols q_weights q_groups q_nodeOf q_parents q_depths o17 x7 o18 x9 x6 g22)) rfl (fun H locs hP hD hS => ?_)
      refine lv_aload_n hx hb dFB_joinGroups_42 rfl (lv_at hl 2 rfl) ?_
      refine va_get (D := (dC, dI)) (ci := 0) (v := .ref q_parents) (C := RFB) (T := TFB) (N := 9) hx hb hts hi_FB hown hK hP 0 rfl rfl 6 (by decide) (hts _ tw_100) (fun _ h9 => h9) rfl dFB_joinGroups_43 ?_
      refine lv_aload_n hx hb dFB_joinGroups_46 rfl (lv_at hl 2 rfl) ?_
      refine va_get (D := (dC, dI)) (ci := 0) (v := .ref q_nodeOf) (C := RFB) (T := TFB) (N := 9) hx hb hts hi_FB hown hK hP 0 rfl rfl 5 (by decide) (hts _ tw_99) (fun _ h9 => h9) rfl dFB_joinGroups_47 ?_
      refine lv_iload_n hx hb dFB_joinGroups_50 rfl (lv_at hl 0 rfl) ?_
      obtain ⟨v24, ev24, h25, hf⟩ := rd_some hf
      refine ax_iald hx hb hK hP 3 0 rfl rfl h25 ev24 dFB_joinGroups_51 ?_
      refine lv_aload_n hx hb dFB_joinGroups_52 rfl (lv_at hl 2 rfl) ?_
      refine va_get (D := (dC, dI)) (ci := 0) (v := .int x7) (C := RFB) (T := TFB) (N := 9) hx hb hts hi_FB hown hK hP 0 rfl rfl 8 (by decide) (hts _ tw_102) (fun _ h9 => h9) rfl dFB_joinGroups_53 ?_
      obtain ⟨g26, eg26, h27, hf⟩ := wr_some hf
      refine ax_iast hx hb hK hP hD hS 4 0 rfl rfl h27 eg26 dFB_joinGroups_56 (ws' := (w_FB_joinGroups cI cZ cL cB q q_counts q_symbols q_weights q_groups q_nodeOf q_parents q_depths o17 x7 o18 x9 x6 g26)) rfl (fun H locs hP hD hS => ?_)
      refine lv_aload_n hx hb dFB_joinGroups_57 rfl (lv_at hl 2 rfl) ?_
      refine va_get (D := (dC, dI)) (ci := 0) (v := .ref q_nodeOf) (C := RFB) (T := TFB) (N := 9) hx hb hts hi_FB hown hK hP 0 rfl rfl 5 (by decide) (hts _ tw_99) (fun _ h9 => h9) rfl dFB_joinGroups_58 ?_
      refine lv_iload_n hx hb dFB_joinGroups_61 rfl (lv_at hl 1 rfl) ?_
      refine lv_aload_n hx hb dFB_joinGroups_62 rfl (lv_at hl 2 rfl) ?_
      refine va_get (D := (dC, dI)) (ci := 0) (v := .int x7) (C := RFB) (T := TFB) (N := 9) hx hb hts hi_FB hown hK hP 0 rfl rfl 8 (by decide) (hts _ tw_102) (fun _ h9 => h9) rfl dFB_joinGroups_63 ?_
      obtain ⟨g28, eg28, h29, hf⟩ := wr_some hf
      refine ax_iast hx hb hK hP hD hS 3 0 rfl rfl h29 eg28 dFB_joinGroups_66 (ws' := (w_FB_joinGroups cI cZ cL cB q q_counts q_symbols q_weights q_groups q_nodeOf q_parents q_depths o17 x7 o18 x9 g28 g26)) rfl (fun H locs hP hD hS => ?_)
      refine lv_aload_n hx hb dFB_joinGroups_67 rfl (lv_at hl 2 rfl) ?_
      refine lv_dup hx hb dFB_joinGroups_68 rfl ?_
      refine va_get (D := (dC, dI)) (ci := 0) (v := .int x7) (C := RFB) (T := TFB) (N := 9) hx hb hts hi_FB hown hK hP 0 rfl rfl 8 (by decide) (hts _ tw_102) (fun _ h9 => h9) rfl dFB_joinGroups_69 ?_
      refine lv_iconst (v := 1) hx hb dFB_joinGroups_72 (by decide) ?_
      refine lv_iadd hx hb dFB_joinGroups_73 ?_
      refine va_put (D := (dC, dI)) (ci := 0) (v := .int (x7 + 1)) (ty := .int) (C := RFB) (T := TFB) (N := 9) hx hb hts hi_FB tyFB tyFB_ok nmFB hown hK hP hD hS 0 rfl rfl 8 (by decide) (hts _ tw_102) (fun _ h9 => h9) rfl (by decide +kernel) rfl rfl (Nat.le_of_ble_eq_true rfl) dFB_joinGroups_74 (fun H locs hP hD hS => ?_)
      have hP : va_P (dC, dI) vwCl (w_FB_joinGroups cI cZ cL cB q q_counts q_symbols q_weights q_groups q_nodeOf q_parents q_depths o17 (x7 + 1) o18 x9 g28 g26) H := hP
      have hD : va_D A (w_FB_joinGroups cI cZ cL cB q q_counts q_symbols q_weights q_groups q_nodeOf q_parents q_depths o17 (x7 + 1) o18 x9 g28 g26) := hD
      refine lv_aload_n hx hb dFB_joinGroups_77 rfl (lv_at hl 2 rfl) ?_
      refine va_get (D := (dC, dI)) (ci := 0) (v := .ref q_weights) (C := RFB) (T := TFB) (N := 9) hx hb hts hi_FB hown hK hP 0 rfl rfl 2 (by decide) (hts _ tw_96) (fun _ h9 => h9) rfl dFB_joinGroups_78 ?_
      refine lv_iload_n hx hb dFB_joinGroups_81 rfl (lv_at hl 1 rfl) ?_
      refine lv_dup2_11 hx hb dFB_joinGroups_82 rfl rfl ?_
      obtain ⟨v30, ev30, h31, hf⟩ := rd_some hf
      refine ax_iald hx hb hK hP 2 0 rfl rfl h31 ev30 dFB_joinGroups_83 ?_
      refine lv_aload_n hx hb dFB_joinGroups_84 rfl (lv_at hl 2 rfl) ?_
      refine va_get (D := (dC, dI)) (ci := 0) (v := .ref q_weights) (C := RFB) (T := TFB) (N := 9) hx hb hts hi_FB hown hK hP 0 rfl rfl 2 (by decide) (hts _ tw_96) (fun _ h9 => h9) rfl dFB_joinGroups_85 ?_
      refine lv_iload_n hx hb dFB_joinGroups_88 rfl (lv_at hl 0 rfl) ?_
      obtain ⟨v32, ev32, h33, hf⟩ := rd_some hf
      refine ax_iald hx hb hK hP 2 0 rfl rfl h33 ev32 dFB_joinGroups_89 ?_
      refine lv_iadd hx hb dFB_joinGroups_90 ?_
      obtain ⟨g34, eg34, h35, hf⟩ := wr_some hf
      refine ax_iast hx hb hK hP hD hS 2 0 rfl rfl h35 eg34 dFB_joinGroups_91 (ws' := (w_FB_joinGroups cI cZ cL cB q q_counts q_symbols q_weights q_groups q_nodeOf q_parents q_depths o17 (x7 + 1) o18 g34 g28 g26)) rfl (fun H locs hP hD hS => ?_)
      refine lv_aload_n hx hb dFB_joinGroups_92 rfl (lv_at hl 2 rfl) ?_
      refine va_get (D := (dC, dI)) (ci := 0) (v := .ref q_groups) (C := RFB) (T := TFB) (N := 9) hx hb hts hi_FB hown hK hP 0 rfl rfl 3 (by decide) (hts _ tw_97) (fun _ h9 => h9) rfl dFB_joinGroups_93 ?_
      refine lv_aload_n hx hb dFB_joinGroups_96 rfl (lv_at hl 2 rfl) ?_
      refine va_get (D := (dC, dI)) (ci := 0) (v := .int o17) (C := RFB) (T := TFB) (N := 9) hx hb hts hi_FB hown hK hP 0 rfl rfl 4 (by decide) (hts _ tw_98) (fun _ h9 => h9) rfl dFB_joinGroups_97 ?_
      refine lv_iload_n hx hb dFB_joinGroups_100 rfl (lv_at hl 1 rfl) ?_
      obtain ⟨g36, eg36, h37, hf⟩ := wr_some hf
      refine ax_iast hx hb hK hP hD hS 1 0 rfl rfl h37 eg36 dFB_joinGroups_101 (ws' := (w_FB_joinGroups cI cZ cL cB q q_counts q_symbols q_weights q_groups q_nodeOf q_parents q_depths o17 (x7 + 1) g36 g34 g28 g26)) rfl (fun H locs hP hD hS => ?_)
      refine lv_aload_n hx hb dFB_joinGroups_102 rfl (lv_at hl 2 rfl) ?_
      refine lv_dup hx hb dFB_joinGroups_103 rfl ?_
      refine va_get (D := (dC, dI)) (ci := 0) (v := .int o17) (C := RFB) (T := TFB) (N := 9) hx hb hts hi_FB hown hK hP 0 rfl rfl 4 (by decide) (hts _ tw_98) (fun _ h9 => h9) rfl dFB_joinGroups_104 ?_
      refine lv_iconst (v := 1) hx hb dFB_joinGroups_107 (by decide) ?_
      refine lv_iadd hx hb dFB_joinGroups_108 ?_
      refine va_put (D := (dC, dI)) (ci := 0) (v := .int (o17 + 1)) (ty := .int) (C := RFB) (T := TFB) (N := 9) hx hb hts hi_FB tyFB tyFB_ok nmFB hown hK hP hD hS 0 rfl rfl 4 (by decide) (hts _ tw_98) (fun _ h9 => h9) rfl (by decide +kernel) rfl rfl (Nat.le_of_ble_eq_true rfl) dFB_joinGroups_109 (fun H locs hP hD hS => ?_)
      have hP : va_P (dC, dI) vwCl (w_FB_joinGroups cI cZ cL cB q q_counts q_symbols q_weights q_groups q_nodeOf q_parents q_depths (o17 + 1) (x7 + 1) g36 g34 g28 g26) H := hP
      have hD : va_D A (w_FB_joinGroups cI cZ cL cB q q_counts q_symbols q_weights q_groups q_nodeOf q_parents q_depths (o17 + 1) (x7 + 1) g36 g34 g28 g26) := hD
      refine lv_iinc (v := (x3 + 1)) (lv' := [(1, .int (x3 + 1)), (3, .int r16), (2, .int r12), (0, .ref q)]) hx hb dFB_joinGroups_112 hl (k := 3) rfl rfl (by decide) rfl (fun ls hl => ?_)
      refine lv_goto (tgt := 2) hx hb dFB_joinGroups_115 (by decide) ?_
      exact ih2 (x3 + 1) g36 (o17 + 1) g28 (x7 + 1) g26 g34 hf _ _ _ hP hD hS (lv_sub hl [3, 0] rfl)
