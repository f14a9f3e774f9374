abbrev wsFR_append : List Cond := Cond.code yFR_append cFR_append 6 none :: tt
set_option maxHeartbeats 4000000 in
set_option maxRecDepth 100000 in
theorem cc_FR_append (l : Launch) (dC : Nat → ClassId) (dI : Nat → Nat → Nat) (cI cZ cL cB : ClassId) (q q_cells : Nat) (sz : Nat) (k_size : Int32) (k_place : Int32) (k_cells : Nat → Int32) (a_0 : Int32) (a_1 : Int32) (o_size : Int32) (o_cells : Nat → Int32) (hf : f_FR_append k_size k_place k_cells a_0 a_1 = some (o_size, o_cells)) : Met l yFR_append wsFR_append ({ frames := 0, cells := 0, slots := 0, locals := 0 }) (va_Pc [.ref q, .int a_0, .int a_1] (kz_P dC dI cI cZ cL cB sz (w_FR_append cI cZ cL cB q q_cells k_size k_place k_cells))) (va_Qv (fun (_ : Unit) => True) (fun _ t => va_P (dC, dI) vwCl (w_FR_append cI cZ cL cB q q_cells o_size k_place o_cells) t.heap ∧ va_D (va_A (w_FR_append cI cZ cL cB q q_cells k_size k_place k_cells) sz) (w_FR_append cI cZ cL cB q q_cells o_size k_place o_cells)) (va_A (w_FR_append cI cZ cL cB q q_cells k_size k_place k_cells) sz)) 0 0 (va_A (w_FR_append cI cZ cL cB q q_cells k_size k_place k_cells) sz) := by
  refine Met.ofW (cc := cFR_append) (maxL := 6) (ret := none) (by decide) rfl ?_
  intro p e s m args below meth c s₁ B hml hv
  obtain ⟨rfl, hsz, hP, hZ, hD0⟩ := hv
  have hK := hZ.1
  have hx := B.exec
  have hb := B.bytes
  have hr := B.returns
  have hts : ∀ w ∈ tt, w.before _ s = true := fun w h => atoms_spec (ws := wsFR_append) B.pre w (List.mem_cons_of_mem _ h)
  have hown : s.vm.findClass RFR = some m.cls := findClass_of_methodNamed B.named
  have hlocks := B.notSynchronized
  subst hsz
  have hD := hD0.self (sz := s.heap.size)
  generalize hAe : va_A (w_FR_append cI cZ cL cB q q_cells k_size k_place k_cells) s.heap.size = A at hD ⊢
  have hA : ∀ q : Nat, s.heap.size ≤ q → A q := fun q h => by rw [← hAe]; exact Or.inr h
  have hS : va_S A s.heap s.heap [] := va_S.rf
  have hl := lv_entry [.ref q, .int a_0, .int a_1] (n := 6) (Nat.le_of_ble_eq_true rfl)
  rw [lg_entry_eq]
  generalize (lg_sl [.ref q, .int a_0, .int a_1] ++ List.replicate (6 - (lg_sl [.ref q, .int a_0, .int a_1]).length) Slot.unset).toArray = ls at hl ⊢
  have hl : lv_has ls 6 [(0, .ref q), (1, .int a_0), (2, .int a_1)] := hl
  unfold f_FR_append at hf
  refine lv_iload_n hx hb dFR_append_0 rfl (lv_at hl 2 rfl) ?_
  refine lv_iconst (v := 1) hx hb dFR_append_1 (by decide) ?_
  refine lv_isub hx hb dFR_append_2 ?_
  refine lv_istore_n (lv' := [(3, .int (a_1 - 1)), (0, .ref q), (1, .int a_0), (2, .int a_1)]) hx hb dFR_append_3 rfl hl (by decide) rfl (fun ls hl => ?_)
  refine Lp3_W (P := fun (x3 : Int32) (x4 : Nat → Int32) (x5 : Int32) => ∀ (H : Heap) (locs : List Loc) (ls : Array Slot), va_P (dC, dI) vwCl (w_FR_append cI cZ cL cB q q_cells x5 k_place x4) H → va_D A (w_FR_append cI cZ cL cB q q_cells x5 k_place x4) → va_S A s.heap H locs → lv_has ls 6 [(0, .ref q), (1, .int a_0), (2, .int a_1), (3, .int x3)] → W p l e _ s m _ below meth c H locs 0 0 _ (F0 m 4 ls [])) ?_ _ _ _ _ hf _ _ _ hP hD hS (lv_sub hl [1, 2, 3, 0] rfl)
  clear hf hP hD hS hl
  intro ag1 ih2 x3 x4 x5 hf H locs ls hP hD hS hl
  refine lv_iload_n hx hb dFR_append_4 rfl (lv_at hl 3 rfl) ?_
  refine lv_if_lt (tgt := 85) hx hb dFR_append_5 (by decide) (fun c_6 => ?_) (fun c_6 => ?_)
  · have hf := ifT hf c_6
    cases hf
    exact ax_vret hx hb hr hP hD hS dFR_append_85 hlocks
  · have hf := ifF hf c_6
    refine lv_aload_n hx hb dFR_append_8 rfl (lv_at hl 0 rfl) ?_
    refine va_get (D := (dC, dI)) (ci := 1) (v := .int x5) (C := RFR) (T := TFR) (N := 3) hx hb hts hi_FR hown hK hP 0 rfl rfl 1 (by decide) (hts _ tw_118) (fun _ h9 => h9) rfl dFR_append_9 ?_
    refine lv_bipush (v := 32) hx hb dFR_append_12 (by decide) ?_
    refine lv_idiv hx hb dFR_append_14 (by decide) ?_
    refine lv_istore (lv' := [(4, .int (x5 / 32)), (0, .ref q), (1, .int a_0), (2, .int a_1), (3, .int x3)]) hx hb dFR_append_15 hl (by decide) rfl (fun ls hl => ?_)
    refine lv_iconst (v := 1) hx hb dFR_append_17 (by decide) ?_
    refine lv_aload_n hx hb dFR_append_18 rfl (lv_at hl 1 rfl) ?_
    refine va_get (D := (dC, dI)) (ci := 1) (v := .int x5) (C := RFR) (T := TFR) (N := 3) hx hb hts hi_FR hown hK hP 0 rfl rfl 1 (by decide) (hts _ tw_118) (fun _ h9 => h9) rfl dFR_append_19 ?_
    refine lv_bipush (v := 32) hx hb dFR_append_22 (by decide) ?_
    refine lv_irem hx hb dFR_append_24 (by decide) ?_
    refine lv_ishl hx hb dFR_append_25 ?_
    refine lv_istore (lv' := [(5, .int ((1 : Int32) <<< ((x5 - x5 / 32 * 32) &&& 31))), (4, .int (x5 / 32)), (0, .ref q), (1, .int a_0), (2, .int a_1), (3, .int x3)]) hx hb dFR_append_26 hl (by decide) rfl (fun ls hl => ?_)
    refine lv_aload_n hx hb dFR_append_28 rfl (lv_at hl 2 rfl) ?_
    refine va_get (D := (dC, dI)) (ci := 1) (v := .ref q_cells) (C := RFR) (T := TFR) (N := 3) hx hb hts hi_FR hown hK hP 0 rfl rfl 0 (by decide) (hts _ tw_117) (fun _ h9 => h9) rfl dFR_append_29 ?_
    refine lv_iload hx hb dFR_append_32 (lv_at hl 1 rfl) ?_
    refine lv_iload_n hx hb dFR_append_34 rfl (lv_at hl 3 rfl) ?_
    refine lv_iload_n hx hb dFR_append_35 rfl (lv_at hl 5 rfl) ?_
    refine lv_ishr hx hb dFR_append_36 ?_
    refine lv_iconst (v := 1) hx hb dFR_append_37 (by decide) ?_
    refine lv_iand hx hb dFR_append_38 ?_
    refine lv_iconst (v := 1) hx hb dFR_append_39 (by decide) ?_
    refine lv_icmp_ne (tgt := 56) hx hb dFR_append_40 (by decide) (fun c_7 => ?_) (fun c_7 => ?_)
    · have hf := ifF hf c_7
      refine lv_aload_n hx hb dFR_append_56 rfl (lv_at hl 2 rfl) ?_
      refine va_get (D := (dC, dI)) (ci := 1) (v := .ref q_cells) (C := RFR) (T := TFR) (N := 3) hx hb hts hi_FR hown hK hP 0 rfl rfl 0 (by decide) (hts _ tw_117) (fun _ h9 => h9) rfl dFR_append_57 ?_
      refine lv_iload hx hb dFR_append_60 (lv_at hl 1 rfl) ?_
      obtain ⟨v8, ev8, h9, hf⟩ := rd_some hf
      refine ax_iald hx hb hK hP 1 0 rfl rfl h9 ev8 dFR_append_62 ?_
      refine lv_iload hx hb dFR_append_63 (lv_at hl 0 rfl) ?_
      refine lv_iconst (v := (-1)) hx hb dFR_append_65 (by decide) ?_
      refine lv_ixor hx hb dFR_append_66 ?_
      refine lv_iand hx hb dFR_append_67 ?_
      obtain ⟨g10, eg10, h11, hf⟩ := wr_some hf
      refine ax_iast hx hb hK hP hD hS 1 0 rfl rfl h11 eg10 dFR_append_68 (ws' := (w_FR_append cI cZ cL cB q q_cells x5 k_place g10)) rfl (fun H locs hP hD hS => ?_)
      refine lv_aload_n hx hb dFR_append_69 rfl (lv_at hl 2 rfl) ?_
      refine lv_dup hx hb dFR_append_70 rfl ?_
      refine va_get (D := (dC, dI)) (ci := 1) (v := .int x5) (C := RFR) (T := TFR) (N := 3) hx hb hts hi_FR hown hK hP 0 rfl rfl 1 (by decide) (hts _ tw_118) (fun _ h9 => h9) rfl dFR_append_71 ?_
      refine lv_iconst (v := 1) hx hb dFR_append_74 (by decide) ?_
      refine lv_iadd hx hb dFR_append_75 ?_
      refine va_put (D := (dC, dI)) (ci := 1) (v := .int (x5 + 1)) (ty := .int) (C := RFR) (T := TFR) (N := 3) hx hb hts hi_FR tyFR tyFR_ok nmFR hown hK hP hD hS 0 rfl rfl 1 (by decide) (hts _ tw_118) (fun _ h9 => h9) rfl (by decide +kernel) rfl rfl (Nat.le_of_ble_eq_true rfl) dFR_append_76 (fun H locs hP hD hS => ?_)
      have hP : va_P (dC, dI) vwCl (w_FR_append cI cZ cL cB q q_cells (x5 + 1) k_place g10) H := hP
      have hD : va_D A (w_FR_append cI cZ cL cB q q_cells (x5 + 1) k_place g10) := hD
      refine lv_iinc (v := (x3 + (-1))) (lv' := [(3, .int (x3 + (-1))), (5, .int ((1 : Int32) <<< ((x5 - x5 / 32 * 32) &&& 31))), (4, .int (x5 / 32)), (0, .ref q), (1, .int a_0), (2, .int a_1)]) hx hb dFR_append_79 hl (k := 5) rfl rfl (by decide) rfl (fun ls hl => ?_)
      refine lv_goto (tgt := 4) hx hb dFR_append_82 (by decide) ?_
      exact ih2 (x3 + (-1)) g10 (x5 + 1) hf _ _ _ hP hD hS (lv_sub hl [3, 4, 5, 0] rfl)
    · have hf := ifT hf c_7
      refine lv_aload_n hx hb dFR_append_43 rfl (lv_at hl 2 rfl) ?_
      refine va_get (D := (dC, dI)) (ci := 1) (v := .ref q_cells) (C := RFR) (T := TFR) (N := 3) hx hb hts hi_FR hown hK hP 0 rfl rfl 0 (by decide) (hts _ tw_117) (fun _ h9 => h9) rfl dFR_append_44 ?_
      refine lv_iload hx hb dFR_append_47 (lv_at hl 1 rfl) ?_
      obtain ⟨v12, ev12, h13, hf⟩ := rd_some hf
      refine ax_iald hx hb hK hP 1 0 rfl rfl h13 ev12 dFR_append_49 ?_
      refine lv_iload hx hb dFR_append_50 (lv_at hl 0 rfl) ?_
      refine lv_ior hx hb dFR_append_52 ?_
      refine lv_goto (tgt := 68) hx hb dFR_append_53 (by decide) ?_
      obtain ⟨g14, eg14, h15, hf⟩ := wr_some hf
      refine ax_iast hx hb hK hP hD hS 1 0 rfl rfl h15 eg14 dFR_append_68 (ws' := (w_FR_append cI cZ cL cB q q_cells x5 k_place g14)) rfl (fun H locs hP hD hS => ?_)
      refine lv_aload_n hx hb dFR_append_69 rfl (lv_at hl 2 rfl) ?_
      refine lv_dup hx hb dFR_append_70 rfl ?_
      refine va_get (D := (dC, dI)) (ci := 1) (v := .int x5) (C := RFR) (T := TFR) (N := 3) hx hb hts hi_FR hown hK hP 0 rfl rfl 1 (by decide) (hts _ tw_118) (fun _ h9 => h9) rfl dFR_append_71 ?_
      refine lv_iconst (v := 1) hx hb dFR_append_74 (by decide) ?_
      refine lv_iadd hx hb dFR_append_75 ?_
      refine va_put (D := (dC, dI)) (ci := 1) (v := .int (x5 + 1)) (ty := .int) (C := RFR) (T := TFR) (N := 3) hx hb hts hi_FR tyFR tyFR_ok nmFR hown hK hP hD hS 0 rfl rfl 1 (by decide) (hts _ tw_118) (fun _ h9 => h9) rfl (by decide +kernel) rfl rfl (Nat.le_of_ble_eq_true rfl) dFR_append_76 (fun H locs hP hD hS => ?_)
      have hP : va_P (dC, dI) vwCl (w_FR_append cI cZ cL cB q q_cells (x5 + 1) k_place g14) H := hP
      have hD : va_D A (w_FR_append cI cZ cL cB q q_cells (x5 + 1) k_place g14) := hD
      refine lv_iinc (v := (x3 + (-1))) (lv' := [(3, .int (x3 + (-1))), (5, .int ((1 : Int32) <<< ((x5 - x5 / 32 * 32) &&& 31))), (4, .int (x5 / 32)), (0, .ref q), (1, .int a_0), (2, .int a_1)]) hx hb dFR_append_79 hl (k := 5) rfl rfl (by decide) rfl (fun ls hl => ?_)
      refine lv_goto (tgt := 4) hx hb dFR_append_82 (by decide) ?_
      exact ih2 (x3 + (-1)) g14 (x5 + 1) hf _ _ _ hP hD hS (lv_sub hl [3, 4, 5, 0] rfl)
abbrev wsMM_init : List Cond := Cond.code yMM_init cMM_init 1 none :: tt
abbrev wi_MM_init (cI cZ cL cB : ClassId) (q : Nat) (u : Nat × Nat × Nat × Nat × Nat × Nat × Nat × Nat × Nat × Nat × Nat × Nat) : va_W := [(q, .inr (6, [.int 0, .ref u.1, .ref u.2.1, .int 0, .ref u.2.2.1, .ref u.2.2.2.1, .int 0, .ref u.2.2.2.2.1, .ref u.2.2.2.2.2.1, .ref u.2.2.2.2.2.2.1, .int 0, .ref u.2.2.2.2.2.2.2.1, .int 0, .int 0, .ref u.2.2.2.2.2.2.2.2.1, .ref u.2.2.2.2.2.2.2.2.2.1, .ref u.2.2.2.2.2.2.2.2.2.2.1, .ref u.2.2.2.2.2.2.2.2.2.2.2])), (u.1, .inl (cI, 17, .inl (fun _ => 0))), (u.2.1, .inl (cI, 256, .inl (fun _ => 0))), (u.2.2.1, .inl (cI, 17, .inl (fun _ => 0))), (u.2.2.2.1, .inl (cI, 256, .inl (fun _ => 0))), (u.2.2.2.2.1, .inl (cI, 256, .inl (fun _ => 0))), (u.2.2.2.2.2.1, .inl (cI, 256, .inl (fun _ => 0))), (u.2.2.2.2.2.2.1, .inl (cI, 256, .inl (fun _ => 0))), (u.2.2.2.2.2.2.2.1, .inl (cB, 65536, .inl (fun _ => 0))), (u.2.2.2.2.2.2.2.2.1, .inl (cI, 257, .inl (fun _ => 0))), (u.2.2.2.2.2.2.2.2.2.1, .inl (cI, 257, .inl (fun _ => 0))), (u.2.2.2.2.2.2.2.2.2.2.1, .inl (cI, 257, .inl (fun _ => 0))), (u.2.2.2.2.2.2.2.2.2.2.2, .inl (cI, 300, .inl (fun _ => 0)))]
set_option maxHeartbeats 4000000 in
set_option maxRecDepth 100000 in
theorem ci_MM_init (l : Launch) (dC : Nat → ClassId) (dI : Nat → Nat → Nat) (cI cZ cL cB : ClassId) (q sz : Nat) : Met l yMM_init wsMM_init ({ frames := 1, cells := 12, slots := 67921, locals := 12 }) (va_Pc [.ref q] (kz_P dC dI cI cZ cL cB sz [(q, .inr (6, [.int 0, .null, .null, .int 0, .null, .null, .int 0, .null, .null, .null, .int 0, .null, .int 0, .int 0, .null, .null, .null, .null]))])) (va_Qv (fun (_ : Nat × Nat × Nat × Nat × Nat × Nat × Nat × Nat × Nat × Nat × Nat × Nat) => True) (fun u t => va_P (dC, dI) vwCl (wi_MM_init cI cZ cL cB q u) t.heap ∧ va_D (va_A [(q, .inr (6, [.int 0, .null, .null, .int 0, .null, .null, .int 0, .null, .null, .null, .int 0, .null, .int 0, .int 0, .null, .null, .null, .null]))] sz) (wi_MM_init cI cZ cL cB q u)) (va_A [(q, .inr (6, [.int 0, .null, .null, .int 0, .null, .null, .int 0, .null, .null, .null, .int 0, .null, .int 0, .int 0, .null, .null, .null, .null]))] sz)) 12 67921 (va_A [(q, .inr (6, [.int 0, .null, .null, .int 0, .null, .null, .int 0, .null, .null, .null, .int 0, .null, .int 0, .int 0, .null, .null, .null, .null]))] sz) := by
  refine Met.ofW (cc := cMM_init) (maxL := 1) (ret := none) (by decide) rfl ?_
  intro p e s m args below meth c s₁ B hml hv
  obtain ⟨rfl, hsz, hP, hZ, hD0⟩ := hv
  have hK := hZ.1
  have hx := B.exec
  have hb := B.bytes
  have hr := B.returns
  have hts : ∀ w ∈ tt, w.before _ s = true := fun w h => atoms_spec (ws := wsMM_init) B.pre w (List.mem_cons_of_mem _ h)
  have hown : s.vm.findClass RMM = some m.cls := findClass_of_methodNamed B.named
  have hlocks := B.notSynchronized
  have hin : meth.name = "<init>" := (name_of_methodNamed B.named B.method).1
  subst hsz
  have hD := hD0.self (sz := s.heap.size)
  generalize hAe : va_A [(q, .inr (6, [.int 0, .null, .null, .int 0, .null, .null, .int 0, .null, .null, .null, .int 0, .null, .int 0, .int 0, .null, .null, .null, .null]))] s.heap.size = A at hD ⊢
  have hA : ∀ q : Nat, s.heap.size ≤ q → A q := fun q h => by rw [← hAe]; exact Or.inr h
  have hS : va_S A s.heap s.heap [] := va_S.rf
  have hl := lv_entry [.ref q] (n := 1) (Nat.le_of_ble_eq_true rfl)
  rw [lg_entry_eq]
  generalize (lg_sl [.ref q] ++ List.replicate (1 - (lg_sl [.ref q]).length) Slot.unset).toArray = ls at hl ⊢
  have hl : lv_has ls 1 [(0, .ref q)] := hl
  refine lv_aload_n hx hb dMM_init_0 rfl (lv_at hl 0 rfl) ?_
  refine W.objInit hx hb hown (hts _ tw_338) (hts _ tw_36) (hts _ tw_37) rfl (by rw [hml]; exact hl.1) rfl dMM_init_1 (Nat.le_of_ble_eq_true rfl) (Nat.le_of_ble_eq_true rfl) ?_
  refine W.eq (g2 := F0 m 4 ls []) rfl ?_
  refine lv_aload_n hx hb dMM_init_4 rfl (lv_at hl 0 rfl) ?_
  refine lv_bipush (v := 17) hx hb dMM_init_5 (by decide) ?_
  refine ax_newa (ty := .int) (a0 := (17, .inl (fun _ => 0))) hx hb (hts _ tw_54) rfl hK 0 rfl (fun _ h => h) hP hD hS hA (fun _ => rfl) (by decide) (show (17 : Int32).toNatClampNeg = 17 by decide) (by decide) (Nat.le_of_ble_eq_true rfl) (Nat.le_of_ble_eq_true rfl) dMM_init_7 (fun q1 H hP hD hS => ?_)
  have hP : va_P (dC, dI) vwCl [(q, .inr (6, [.int 0, .null, .null, .int 0, .null, .null, .int 0, .null, .null, .null, .int 0, .null, .int 0, .int 0, .null, .null, .null, .null])), (q1, .inl (cI, 17, .inl (fun _ => 0)))] H := hP
  have hD : va_D A [(q, .inr (6, [.int 0, .null, .null, .int 0, .null, .null, .int 0, .null, .null, .null, .int 0, .null, .int 0, .int 0, .null, .null, .null, .null])), (q1, .inl (cI, 17, .inl (fun _ => 0)))] := hD
  refine va_putF (D := (dC, dI)) (ci := 6) (v := .ref q1) (ty := (.array .int)) (C := RMM) (T := TMM) (N := 18) hx hb hts hi_MM tyMM tyMM_ok nmMM hown hK hP hD hS 0 rfl rfl 1 (by decide) (hts _ tw_341) (fun _ h9 => h9) rfl hin rfl (by decide +kernel) rfl rfl (Nat.le_of_ble_eq_true rfl) dMM_init_9 (fun H locs hP hD hS => ?_)
  have hP : va_P (dC, dI) vwCl [(q, .inr (6, [.int 0, .ref q1, .null, .int 0, .null, .null, .int 0, .null, .null, .null, .int 0, .null, .int 0, .int 0, .null, .null, .null, .null])), (q1, .inl (cI, 17, .inl (fun _ => 0)))] H := hP
  have hD : va_D A [(q, .inr (6, [.int 0, .ref q1, .null, .int 0, .null, .null, .int 0, .null, .null, .null, .int 0, .null, .int 0, .int 0, .null, .null, .null, .null])), (q1, .inl (cI, 17, .inl (fun _ => 0)))] := hD
  refine lv_aload_n hx hb dMM_init_12 rfl (lv_at hl 0 rfl) ?_
  refine lv_sipush (v := 256) hx hb dMM_init_13 (by decide) ?_
  refine ax_newa (ty := .int) (a0 := (256, .inl (fun _ => 0))) hx hb (hts _ tw_54) rfl hK 0 rfl (fun _ h => h) hP hD hS hA (fun _ => rfl) (by decide) (show (256 : Int32).toNatClampNeg = 256 by decide) (by decide) (Nat.le_of_ble_eq_true rfl) (Nat.le_of_ble_eq_true rfl) dMM_init_16 (fun q2 H hP hD hS => ?_)
  have hP : va_P (dC, dI) vwCl [(q, .inr (6, [.int 0, .ref q1, .null, .int 0, .null, .null, .int 0, .null, .null, .null, .int 0, .null, .int 0, .int 0, .null, .null, .null, .null])), (q1, .inl (cI, 17, .inl (fun _ => 0))), (q2, .inl (cI, 256, .inl (fun _ => 0)))] H := hP
  have hD : va_D A [(q, .inr (6, [.int 0, .ref q1, .null, .int 0, .null, .null, .int 0, .null, .null, .null, .int 0, .null, .int 0, .int 0, .null, .null, .null, .null])), (q1, .inl (cI, 17, .inl (fun _ => 0))), (q2, .inl (cI, 256, .inl (fun _ => 0)))] := hD
  refine va_putF (D := (dC, dI)) (ci := 6) (v := .ref q2) (ty := (.array .int)) (C := RMM) (T := TMM) (N := 18) hx hb hts hi_MM tyMM tyMM_ok nmMM hown hK hP hD hS 0 rfl rfl 2 (by decide) (hts _ tw_342) (fun _ h9 => h9) rfl hin rfl (by decide +kernel) rfl rfl (Nat.le_of_ble_eq_true rfl) dMM_init_18 (fun H locs hP hD hS => ?_)
  have hP : va_P (dC, dI) vwCl [(q, .inr (6, [.int 0, .ref q1, .ref q2, .int 0, .null, .null, .int 0, .null, .null, .null, .int 0, .null, .int 0, .int 0, .null, .null, .null, .null])), (q1, .inl (cI, 17, .inl (fun _ => 0))), (q2, .inl (cI, 256, .inl (fun _ => 0)))] H := hP
  have hD : va_D A [(q, .inr (6, [.int 0, .ref q1, .ref q2, .int 0, .null, .null, .int 0, .null, .null, .null, .int 0, .null, .int 0, .int 0, .null, .null, .null, .null])), (q1, .inl (cI, 17, .inl (fun _ => 0))), (q2, .inl (cI, 256, .inl (fun _ => 0)))] := hD
  refine lv_aload_n hx hb dMM_init_21 rfl (lv_at hl 0 rfl) ?_
  refine lv_bipush (v := 17) hx hb dMM_init_22 (by decide) ?_
  refine ax_newa (ty := .int) (a0 := (17, .inl (fun _ => 0))) hx hb (hts _ tw_54) rfl hK 0 rfl (fun _ h => h) hP hD hS hA (fun _ => rfl) (by decide) (show (17 : Int32).toNatClampNeg = 17 by decide) (by decide) (Nat.le_of_ble_eq_true rfl) (Nat.le_of_ble_eq_true rfl) dMM_init_24 (fun q3 H hP hD hS => ?_)
  have hP : va_P (dC, dI) vwCl [(q, .inr (6, [.int 0, .ref q1, .ref q2, .int 0, .null, .null, .int 0, .null, .null, .null, .int 0, .null, .int 0, .int 0, .null, .null, .null, .null])), (q1, .inl (cI, 17, .inl (fun _ => 0))), (q2, .inl (cI, 256, .inl (fun _ => 0))), (q3, .inl (cI, 17, .inl (fun _ => 0)))] H := hP
  have hD : va_D A [(q, .inr (6, [.int 0, .ref q1, .ref q2, .int 0, .null, .null, .int 0, .null, .null, .null, .int 0, .null, .int 0, .int 0, .null, .null, .null, .null])), (q1, .inl (cI, 17, .inl (fun _ => 0))), (q2, .inl (cI, 256, .inl (fun _ => 0))), (q3, .inl (cI, 17, .inl (fun _ => 0)))] := hD
  refine va_putF (D := (dC, dI)) (ci := 6) (v := .ref q3) (ty := (.array .int)) (C := RMM) (T := TMM) (N := 18) hx hb hts hi_MM tyMM tyMM_ok nmMM hown hK hP hD hS 0 rfl rfl 4 (by decide) (hts _ tw_344) (fun _ h9 => h9) rfl hin rfl (by decide +kernel) rfl rfl (Nat.le_of_ble_eq_true rfl) dMM_init_26 (fun H locs hP hD hS => ?_)
  have hP : va_P (dC, dI) vwCl [(q, .inr (6, [.int 0, .ref q1, .ref q2, .int 0, .ref q3, .null, .int 0, .null, .null, .null, .int 0, .null, .int 0, .int 0, .null, .null, .null, .null])), (q1, .inl (cI, 17, .inl (fun _ => 0))), (q2, .inl (cI, 256, .inl (fun _ => 0))), (q3, .inl (cI, 17, .inl (fun _ => 0)))] H := hP
  have hD : va_D A [(q, .inr (6, [.int 0, .ref q1, .ref q2, .int 0, .ref q3, .null, .int 0, .null, .null, .null, .int 0, .null, .int 0, .int 0, .null, .null, .null, .null])), (q1, .inl (cI, 17, .inl (fun _ => 0))), (q2, .inl (cI, 256, .inl (fun _ => 0))), (q3, .inl (cI, 17, .inl (fun _ => 0)))] := hD
  refine lv_aload_n hx hb dMM_init_29 rfl (lv_at hl 0 rfl) ?_
  refine lv_sipush (v := 256) hx hb dMM_init_30 (by decide) ?_
  refine ax_newa (ty := .int) (a0 := (256, .inl (fun _ => 0))) hx hb (hts _ tw_54) rfl hK 0 rfl (fun _ h => h) hP hD hS hA (fun _ => rfl) (by decide) (show (256 : Int32).toNatClampNeg = 256 by decide) (by decide) (Nat.le_of_ble_eq_true rfl) (Nat.le_of_ble_eq_true rfl) dMM_init_33 (fun q4 H hP hD hS => ?_)
  have hP : va_P (dC, dI) vwCl [(q, .inr (6, [.int 0, .ref q1, .ref q2, .int 0, .ref q3, .null, .int 0, .null, .null, .null, .int 0, .null, .int 0, .int 0, .null, .null, .null, .null])), (q1, .inl (cI, 17, .inl (fun _ => 0))), (q2, .inl (cI, 256, .inl (fun _ => 0))), (q3, .inl (cI, 17, .inl (fun _ => 0))), (q4, .inl (cI, 256, .inl (fun _ => 0)))] H := hP
  have hD : va_D A [(q, .inr (6, [.int 0, .ref q1, .ref q2, .int 0, .ref q3, .null, .int 0, .null, .null, .null, .int 0, .null, .int 0, .int 0, .null, .null, .null, .null])), (q1, .inl (cI, 17, .inl (fun _ => 0))), (q2, .inl (cI, 256, .inl (fun _ => 0))), (q3, .inl (cI, 17, .inl (fun _ => 0))), (q4, .inl (cI, 256, .inl (fun _ => 0)))] := hD
  refine va_putF (D := (dC, dI)) (ci := 6) (v := .ref q4) (ty := (.array .int)) (C := RMM) (T := TMM) (N := 18) hx hb hts hi_MM tyMM tyMM_ok nmMM hown hK hP hD hS 0 rfl rfl 5 (by decide) (hts _ tw_345) (fun _ h9 => h9) rfl hin rfl (by decide +kernel) rfl rfl (Nat.le_of_ble_eq_true rfl) dMM_init_35 (fun H locs hP hD hS => ?_)
  have hP : va_P (dC, dI) vwCl [(q, .inr (6, [.int 0, .ref q1, .ref q2, .int 0, .ref q3, .ref q4, .int 0, .null, .null, .null, .int 0, .null, .int 0, .int 0, .null, .null, .null, .null])), (q1, .inl (cI, 17, .inl (fun _ => 0))), (q2, .inl (cI, 256, .inl (fun _ => 0))), (q3, .inl (cI, 17, .inl (fun _ => 0))), (q4, .inl (cI, 256, .inl (fun _ => 0)))] H := hP
  have hD : va_D A [(q, .inr (6, [.int 0, .ref q1, .ref q2, .int 0, .ref q3, .ref q4, .int 0, .null, .null, .null, .int 0, .null, .int 0, .int 0, .null, .null, .null, .null])), (q1, .inl (cI, 17, .inl (fun _ => 0))), (q2, .inl (cI, 256, .inl (fun _ => 0))), (q3, .inl (cI, 17, .inl (fun _ => 0))), (q4, .inl (cI, 256, .inl (fun _ => 0)))] := hD
  refine lv_aload_n hx hb dMM_init_38 rfl (lv_at hl 0 rfl) ?_
  refine lv_sipush (v := 256) hx hb dMM_init_39 (by decide) ?_
  refine ax_newa (ty := .int) (a0 := (256, .inl (fun _ => 0))) hx hb (hts _ tw_54) rfl hK 0 rfl (fun _ h => h) hP hD hS hA (fun _ => rfl) (by decide) (show (256 : Int32).toNatClampNeg = 256 by decide) (by decide) (Nat.le_of_ble_eq_true rfl) (Nat.le_of_ble_eq_true rfl) dMM_init_42 (fun q5 H hP hD hS => ?_)
  have hP : va_P (dC, dI) vwCl [(q, .inr (6, [.int 0, .ref q1, .ref q2, .int 0, .ref q3, .ref q4, .int 0, .null, .null, .null, .int 0, .null, .int 0, .int 0, .null, .null, .null, .null])), (q1, .inl (cI, 17, .inl (fun _ => 0))), (q2, .inl (cI, 256, .inl (fun _ => 0))), (q3, .inl (cI, 17, .inl (fun _ => 0))), (q4, .inl (cI, 256, .inl (fun _ => 0))), (q5, .inl (cI, 256, .inl (fun _ => 0)))] H := hP
  have hD : va_D A [(q, .inr (6, [.int 0, .ref q1, .ref q2, .int 0, .ref q3, .ref q4, .int 0, .null, .null, .null, .int 0, .null, .int 0, .int 0, .null, .null, .null, .null])), (q1, .inl (cI, 17, .inl (fun _ => 0))), (q2, .inl (cI, 256, .inl (fun _ => 0))), (q3, .inl (cI, 17, .inl (fun _ => 0))), (q4, .inl (cI, 256, .inl (fun _ => 0))), (q5, .inl (cI, 256, .inl (fun _ => 0)))] := hD
  refine va_putF (D := (dC, dI)) (ci := 6) (v := .ref q5) (ty := (.array .int)) (C := RMM) (T := TMM) (N := 18) hx hb hts hi_MM tyMM tyMM_ok nmMM hown hK hP hD hS 0 rfl rfl 7 (by decide) (hts _ tw_347) (fun _ h9 => h9) rfl hin rfl (by decide +kernel) rfl rfl (Nat.le_of_ble_eq_true rfl) dMM_init_44 (fun H locs hP hD hS => ?_)
  have hP : va_P (dC, dI) vwCl [(q, .inr (6, [.int 0, .ref q1, .ref q2, .int 0, .ref q3, .ref q4, .int 0, .ref q5, .null, .null, .int 0, .null, .int 0, .int 0, .null, .null, .null, .null])), (q1, .inl (cI, 17, .inl (fun _ => 0))), (q2, .inl (cI, 256, .inl (fun _ => 0))), (q3, .inl (cI, 17, .inl (fun _ => 0))), (q4, .inl (cI, 256, .inl (fun _ => 0))), (q5, .inl (cI, 256, .inl (fun _ => 0)))] H := hP
  have hD : va_D A [(q, .inr (6, [.int 0, .ref q1, .ref q2, .int 0, .ref q3, .ref q4, .int 0, .ref q5, .null, .null, .int 0, .null, .int 0, .int 0, .null, .null, .null, .null])), (q1, .inl (cI, 17, .inl (fun _ => 0))), (q2, .inl (cI, 256, .inl (fun _ => 0))), (q3, .inl (cI, 17, .inl (fun _ => 0))), (q4, .inl (cI, 256, .inl (fun _ => 0))), (q5, .inl (cI, 256, .inl (fun _ => 0)))] := hD
  refine lv_aload_n hx hb dMM_init_47 rfl (lv_at hl 0 rfl) ?_
  refine lv_sipush (v := 256) hx hb dMM_init_48 (by decide) ?_
  refine ax_newa (ty := .int) (a0 := (256, .inl (fun _ => 0))) hx hb (hts _ tw_54) rfl hK 0 rfl (fun _ h => h) hP hD hS hA (fun _ => rfl) (by decide) (show (256 : Int32).toNatClampNeg = 256 by decide) (by decide) (Nat.le_of_ble_eq_true rfl) (Nat.le_of_ble_eq_true rfl) dMM_init_51 (fun q6 H hP hD hS => ?_)
  have hP : va_P (dC, dI) vwCl [(q, .inr (6, [.int 0, .ref q1, .ref q2, .int 0, .ref q3, .ref q4, .int 0, .ref q5, .null, .null, .int 0, .null, .int 0, .int 0, .null, .null, .null, .null])), (q1, .inl (cI, 17, .inl (fun _ => 0))), (q2, .inl (cI, 256, .inl (fun _ => 0))), (q3, .inl (cI, 17, .inl (fun _ => 0))), (q4, .inl (cI, 256, .inl (fun _ => 0))), (q5, .inl (cI, 256, .inl (fun _ => 0))), (q6, .inl (cI, 256, .inl (fun _ => 0)))] H := hP
  have hD : va_D A [(q, .inr (6, [.int 0, .ref q1, .ref q2, .int 0, .ref q3, .ref q4, .int 0, .ref q5, .null, .null, .int 0, .null, .int 0, .int 0, .null, .null, .null, .null])), (q1, .inl (cI, 17, .inl (fun _ => 0))), (q2, .inl (cI, 256, .inl (fun _ => 0))), (q3, .inl (cI, 17, .inl (fun _ => 0))), (q4, .inl (cI, 256, .inl (fun _ => 0))), (q5, .inl (cI, 256, .inl (fun _ => 0))), (q6, .inl (cI, 256, .inl (fun _ => 0)))] := hD
  refine va_putF (D := (dC, dI)) (ci := 6) (v := .ref q6) (ty := (.array .int)) (C := RMM) (T := TMM) (N := 18) hx hb hts hi_MM tyMM tyMM_ok nmMM hown hK hP hD hS 0 rfl rfl 8 (by decide) (hts _ tw_348) (fun _ h9 => h9) rfl hin rfl (by decide +kernel) rfl rfl (Nat.le_of_ble_eq_true rfl) dMM_init_53 (fun H locs hP hD hS => ?_)
  have hP : va_P (dC, dI) vwCl [(q, .inr (6, [.int 0, .ref q1, .ref q2, .int 0, .ref q3, .ref q4, .int 0, .ref q5, .ref q6, .null, .int 0, .null, .int 0, .int 0, .null, .null, .null, .null])), (q1, .inl (cI, 17, .inl (fun _ => 0))), (q2, .inl (cI, 256, .inl (fun _ => 0))), (q3, .inl (cI, 17, .inl (fun _ => 0))), (q4, .inl (cI, 256, .inl (fun _ => 0))), (q5, .inl (cI, 256, .inl (fun _ => 0))), (q6, .inl (cI, 256, .inl (fun _ => 0)))] H := hP
  have hD : va_D A [(q, .inr (6, [.int 0, .ref q1, .ref q2, .int 0, .ref q3, .ref q4, .int 0, .ref q5, .ref q6, .null, .int 0, .null, .int 0, .int 0, .null, .null, .null, .null])), (q1, .inl (cI, 17, .inl (fun _ => 0))), (q2, .inl (cI, 256, .inl (fun _ => 0))), (q3, .inl (cI, 17, .inl (fun _ => 0))), (q4, .inl (cI, 256, .inl (fun _ => 0))), (q5, .inl (cI, 256, .inl (fun _ => 0))), (q6, .inl (cI, 256, .inl (fun _ => 0)))] := hD
  refine lv_aload_n hx hb dMM_init_56 rfl (lv_at hl 0 rfl) ?_
  refine lv_sipush (v := 256) hx hb dMM_init_57 (by decide) ?_
  refine ax_newa (ty := .int) (a0 := (256, .inl (fun _ => 0))) hx hb (hts _ tw_54) rfl hK 0 rfl (fun _ h => h) hP hD hS hA (fun _ => rfl) (by decide) (show (256 : Int32).toNatClampNeg = 256 by decide) (by decide) (Nat.le_of_ble_eq_true rfl) (Nat.le_of_ble_eq_true rfl) dMM_init_60 (fun q7 H hP hD hS => ?_)
  have hP : va_P (dC, dI) vwCl [(q, .inr (6, [.int 0, .ref q1, .ref q2, .int 0, .ref q3, .ref q4, .int 0, .ref q5, .ref q6, .null, .int 0, .null, .int 0, .int 0, .null, .null, .null, .null])), (q1, .inl (cI, 17, .inl (fun _ => 0))), (q2, .inl (cI, 256, .inl (fun _ => 0))), (q3, .inl (cI, 17, .inl (fun _ => 0))), (q4, .inl (cI, 256, .inl (fun _ => 0))), (q5, .inl (cI, 256, .inl (fun _ => 0))), (q6, .inl (cI, 256, .inl (fun _ => 0))), (q7, .inl (cI, 256, .inl (fun _ => 0)))] H := hP
  have hD : va_D A [(q, .inr (6, [.int 0, .ref q1, .ref q2, .int 0, .ref q3, .ref q4, .int 0, .ref q5, .ref q6, .null, .int 0, .null, .int 0, .int 0, .null, .null, .null, .null])), (q1, .inl (cI, 17, .inl (fun _ => 0))), (q2, .inl (cI, 256, .inl (fun _ => 0))), (q3, .inl (cI, 17, .inl (fun _ => 0))), (q4, .inl (cI, 256, .inl (fun _ => 0))), (q5, .inl (cI, 256, .inl (fun _ => 0))), (q6, .inl (cI, 256, .inl (fun _ => 0))), (q7, .inl (cI, 256, .inl (fun _ => 0)))] := hD
  refine va_putF (D := (dC, dI)) (ci := 6) (v := .ref q7) (ty := (.array .int)) (C := RMM) (T := TMM) (N := 18) hx hb hts hi_MM tyMM tyMM_ok nmMM hown hK hP hD hS 0 rfl rfl 9 (by decide) (hts _ tw_349) (fun _ h9 => h9) rfl hin rfl (by decide +kernel) rfl rfl (Nat.le_of_ble_eq_true rfl) dMM_init_62 (fun H locs hP hD hS => ?_)
  have hP : va_P (dC, dI) vwCl [(q, .inr (6, [.int 0, .ref q1, .ref q2, .int 0, .ref q3, .ref q4, .int 0, .ref q5, .ref q6, .ref q7, .int 0, .null, .int 0, .int 0, .null, .null, .null, .null])), (q1, .inl (cI, 17, .inl (fun _ => 0))), (q2, .inl (cI, 256, .inl (fun _ => 0))), (q3, .inl (cI, 17, .inl (fun _ => 0))), (q4, .inl (cI, 256, .inl (fun _ => 0))), (q5, .inl (cI, 256, .inl (fun _ => 0))), (q6, .inl (cI, 256, .inl (fun _ => 0))), (q7, .inl (cI, 256, .inl (fun _ => 0)))] H := hP
  have hD : va_D A [(q, .inr (6, [.int 0, .ref q1, .ref q2, .int 0, .ref q3, .ref q4, .int 0, .ref q5, .ref q6, .ref q7, .int 0, .null, .int 0, .int 0, .null, .null, .null, .null])), (q1, .inl (cI, 17, .inl (fun _ => 0))), (q2, .inl (cI, 256, .inl (fun _ => 0))), (q3, .inl (cI, 17, .inl (fun _ => 0))), (q4, .inl (cI, 256, .inl (fun _ => 0))), (q5, .inl (cI, 256, .inl (fun _ => 0))), (q6, .inl (cI, 256, .inl (fun _ => 0))), (q7, .inl (cI, 256, .inl (fun _ => 0)))] := hD
  refine lv_aload_n hx hb dMM_init_65 rfl (lv_at hl 0 rfl) ?_
  refine lv_ldc (v := 65536) hx hb hown (hts _ tw_339) dMM_init_66 ?_
  refine ax_newa (ty := .byte) (a0 := (65536, .inl (fun _ => 0))) hx hb (hts _ tw_304) rfl hK 3 rfl (fun _ h => h) hP hD hS hA (fun _ => rfl) (by decide) (show (65536 : Int32).toNatClampNeg = 65536 by decide) (by decide) (Nat.le_of_ble_eq_true rfl) (Nat.le_of_ble_eq_true rfl) dMM_init_68 (fun q8 H hP hD hS => ?_)
  have hP : va_P (dC, dI) vwCl [(q, .inr (6, [.int 0, .ref q1, .ref q2, .int 0, .ref q3, .ref q4, .int 0, .ref q5, .ref q6, .ref q7, .int 0, .null, .int 0, .int 0, .null, .null, .null, .null])), (q1, .inl (cI, 17, .inl (fun _ => 0))), (q2, .inl (cI, 256, .inl (fun _ => 0))), (q3, .inl (cI, 17, .inl (fun _ => 0))), (q4, .inl (cI, 256, .inl (fun _ => 0))), (q5, .inl (cI, 256, .inl (fun _ => 0))), (q6, .inl (cI, 256, .inl (fun _ => 0))), (q7, .inl (cI, 256, .inl (fun _ => 0))), (q8, .inl (cB, 65536, .inl (fun _ => 0)))] H := hP
  have hD : va_D A [(q, .inr (6, [.int 0, .ref q1, .ref q2, .int 0, .ref q3, .ref q4, .int 0, .ref q5, .ref q6, .ref q7, .int 0, .null, .int 0, .int 0, .null, .null, .null, .null])), (q1, .inl (cI, 17, .inl (fun _ => 0))), (q2, .inl (cI, 256, .inl (fun _ => 0))), (q3, .inl (cI, 17, .inl (fun _ => 0))), (q4, .inl (cI, 256, .inl (fun _ => 0))), (q5, .inl (cI, 256, .inl (fun _ => 0))), (q6, .inl (cI, 256, .inl (fun _ => 0))), (q7, .inl (cI, 256, .inl (fun _ => 0))), (q8, .inl (cB, 65536, .inl (fun _ => 0)))] := hD
  refine va_putF (D := (dC, dI)) (ci := 6) (v := .ref q8) (ty := (.array .byte)) (C := RMM) (T := TMM) (N := 18) hx hb hts hi_MM tyMM tyMM_ok nmMM hown hK hP hD hS 0 rfl rfl 11 (by decide) (hts _ tw_351) (fun _ h9 => h9) rfl hin rfl (by decide +kernel) rfl rfl (Nat.le_of_ble_eq_true rfl) dMM_init_70 (fun H locs hP hD hS => ?_)
  have hP : va_P (dC, dI) vwCl [(q, .inr (6, [.int 0, .ref q1, .ref q2, .int 0, .ref q3, .ref q4, .int 0, .ref q5, .ref q6, .ref q7, .int 0, .ref q8, .int 0, .int 0, .null, .null, .null, .null])), (q1, .inl (cI, 17, .inl (fun _ => 0))), (q2, .inl (cI, 256, .inl (fun _ => 0))), (q3, .inl (cI, 17, .inl (fun _ => 0))), (q4, .inl (cI, 256, .inl (fun _ => 0))), (q5, .inl (cI, 256, .inl (fun _ => 0))), (q6, .inl (cI, 256, .inl (fun _ => 0))), (q7, .inl (cI, 256, .inl (fun _ => 0))), (q8, .inl (cB, 65536, .inl (fun _ => 0)))] H := hP
  have hD : va_D A [(q, .inr (6, [.int 0, .ref q1, .ref q2, .int 0, .ref q3, .ref q4, .int 0, .ref q5, .ref q6, .ref q7, .int 0, .ref q8, .int 0, .int 0, .null, .null, .null, .null])), (q1, .inl (cI, 17, .inl (fun _ => 0))), (q2, .inl (cI, 256, .inl (fun _ => 0))), (q3, .inl (cI, 17, .inl (fun _ => 0))), (q4, .inl (cI, 256, .inl (fun _ => 0))), (q5, .inl (cI, 256, .inl (fun _ => 0))), (q6, .inl (cI, 256, .inl (fun _ => 0))), (q7, .inl (cI, 256, .inl (fun _ => 0))), (q8, .inl (cB, 65536, .inl (fun _ => 0)))] := hD
  refine lv_aload_n hx hb dMM_init_73 rfl (lv_at hl 0 rfl) ?_
  refine lv_sipush (v := 257) hx hb dMM_init_74 (by decide) ?_
  refine ax_newa (ty := .int) (a0 := (257, .inl (fun _ => 0))) hx hb (hts _ tw_54) rfl hK 0 rfl (fun _ h => h) hP hD hS hA (fun _ => rfl) (by decide) (show (257 : Int32).toNatClampNeg = 257 by decide) (by decide) (Nat.le_of_ble_eq_true rfl) (Nat.le_of_ble_eq_true rfl) dMM_init_77 (fun q9 H hP hD hS => ?_)
  have hP : va_P (dC, dI) vwCl [(q, .inr (6, [.int 0, .ref q1, .ref q2, .int 0, .ref q3, .ref q4, .int 0, .ref q5, .ref q6, .ref q7, .int 0, .ref q8, .int 0, .int 0, .null, .null, .null, .null])), (q1, .inl (cI, 17, .inl (fun _ => 0))), (q2, .inl (cI, 256, .inl (fun _ => 0))), (q3, .inl (cI, 17, .inl (fun _ => 0))), (q4, .inl (cI, 256, .inl (fun _ => 0))), (q5, .inl (cI, 256, .inl (fun _ => 0))), (q6, .inl (cI, 256, .inl (fun _ => 0))), (q7, .inl (cI, 256, .inl (fun _ => 0))), (q8, .inl (cB, 65536, .inl (fun _ => 0))), (q9, .inl (cI, 257, .inl (fun _ => 0)))] H := hP
  have hD : va_D A [(q, .inr (6, [.int 0, .ref q1, .ref q2, .int 0, .ref q3, .ref q4, .int 0, .ref q5, .ref q6, .ref q7, .int 0, .ref q8, .int 0, .int 0, .null, .null, .null, .null])), (q1, .inl (cI, 17, .inl (fun _ => 0))), (q2, .inl (cI, 256, .inl (fun _ => 0))), (q3, .inl (cI, 17, .inl (fun _ => 0))), (q4, .inl (cI, 256, .inl (fun _ => 0))), (q5, .inl (cI, 256, .inl (fun _ => 0))), (q6, .inl (cI, 256, .inl (fun _ => 0))), (q7, .inl (cI, 256, .inl (fun _ => 0))), (q8, .inl (cB, 65536, .inl (fun _ => 0))), (q9, .inl (cI, 257, .inl (fun _ => 0)))] := hD
  refine va_putF (D := (dC, dI)) (ci := 6) (v := .ref q9) (ty := (.array .int)) (C := RMM) (T := TMM) (N := 18) hx hb hts hi_MM tyMM tyMM_ok nmMM hown hK hP hD hS 0 rfl rfl 14 (by decide) (hts _ tw_354) (fun _ h9 => h9) rfl hin rfl (by decide +kernel) rfl rfl (Nat.le_of_ble_eq_true rfl) dMM_init_79 (fun H locs hP hD hS => ?_)
  have hP : va_P (dC, dI) vwCl [(q, .inr (6, [.int 0, .ref q1, .ref q2, .int 0, .ref q3, .ref q4, .int 0, .ref q5, .ref q6, .ref q7, .int 0, .ref q8, .int 0, .int 0, .ref q9, .null, .null, .null])), (q1, .inl (cI, 17, .inl (fun _ => 0))), (q2, .inl (cI, 256, .inl (fun _ => 0))), (q3, .inl (cI, 17, .inl (fun _ => 0))), (q4, .inl (cI, 256, .inl (fun _ => 0))), (q5, .inl (cI, 256, .inl (fun _ => 0))), (q6, .inl (cI, 256, .inl (fun _ => 0))), (q7, .inl (cI, 256, .inl (fun _ => 0))), (q8, .inl (cB, 65536, .inl (fun _ => 0))), (q9, .inl (cI, 257, .inl (fun _ => 0)))] H := hP
  have hD : va_D A [(q, .inr (6, [.int 0, .ref q1, .ref q2, .int 0, .ref q3, .ref q4, .int 0, .ref q5, .ref q6, .ref q7, .int 0, .ref q8, .int 0, .int 0, .ref q9, .null, .null, .null])), (q1, .inl (cI, 17, .inl (fun _ => 0))), (q2, .inl (cI, 256, .inl (fun _ => 0))), (q3, .inl (cI, 17, .inl (fun _ => 0))), (q4, .inl (cI, 256, .inl (fun _ => 0))), (q5, .inl (cI, 256, .inl (fun _ => 0))), (q6, .inl (cI, 256, .inl (fun _ => 0))), (q7, .inl (cI, 256, .inl (fun _ => 0))), (q8, .inl (cB, 65536, .inl (fun _ => 0))), (q9, .inl (cI, 257, .inl (fun _ => 0)))] := hD
  refine lv_aload_n hx hb dMM_init_82 rfl (lv_at hl 0 rfl) ?_
  refine lv_sipush (v := 257) hx hb dMM_init_83 (by decide) ?_
  refine ax_newa (ty := .int) (a0 := (257, .inl (fun _ => 0))) hx hb (hts _ tw_54) rfl hK 0 rfl (fun _ h => h) hP hD hS hA (fun _ => rfl) (by decide) (show (257 : Int32).toNatClampNeg = 257 by decide) (by decide) (Nat.le_of_ble_eq_true rfl) (Nat.le_of_ble_eq_true rfl) dMM_init_86 (fun q10 H hP hD hS => ?_)
  have hP : va_P (dC, dI) vwCl [(q, .inr (6, [.int 0, .ref q1, .ref q2, .int 0, .ref q3, .ref q4, .int 0, .ref q5, .ref q6, .ref q7, .int 0, .ref q8, .int 0, .int 0, .ref q9, .null, .null, .null])), (q1, .inl (cI, 17, .inl (fun _ => 0))), (q2, .inl (cI, 256, .inl (fun _ => 0))), (q3, .inl (cI, 17, .inl (fun _ => 0))), (q4, .inl (cI, 256, .inl (fun _ => 0))), (q5, .inl (cI, 256, .inl (fun _ => 0))), (q6, .inl (cI, 256, .inl (fun _ => 0))), (q7, .inl (cI, 256, .inl (fun _ => 0))), (q8, .inl (cB, 65536, .inl (fun _ => 0))), (q9, .inl (cI, 257, .inl (fun _ => 0))), (q10, .inl (cI, 257, .inl (fun _ => 0)))] H := hP
  have hD : va_D A [(q, .inr (6, [.int 0, .ref q1, .ref q2, .int 0, .ref q3, .ref q4, .int 0, .ref q5, .ref q6, .ref q7, .int 0, .ref q8, .int 0, .int 0, .ref q9, .null, .null, .null])), (q1, .inl (cI, 17, .inl (fun _ => 0))), (q2, .inl (cI, 256, .inl (fun _ => 0))), (q3, .inl (cI, 17, .inl (fun _ => 0))), (q4, .inl (cI, 256, .inl (fun _ => 0))), (q5, .inl (cI, 256, .inl (fun _ => 0))), (q6, .inl (cI, 256, .inl (fun _ => 0))), (q7, .inl (cI, 256, .inl (fun _ => 0))), (q8, .inl (cB, 65536, .inl (fun _ => 0))), (q9, .inl (cI, 257, .inl (fun _ => 0))), (q10, .inl (cI, 257, .inl (fun _ => 0)))] := hD
  refine va_putF (D := (dC, dI)) (ci := 6) (v := .ref q10) (ty := (.array .int)) (C := RMM) (T := TMM) (N := 18) hx hb hts hi_MM tyMM tyMM_ok nmMM hown hK hP hD hS 0 rfl rfl 15 (by decide) (hts _ tw_355) (fun _ h9 => h9) rfl hin rfl (by decide +kernel) rfl rfl (Nat.le_of_ble_eq_true rfl) dMM_init_88 (fun H locs hP hD hS => ?_)
  have hP : va_P (dC, dI) vwCl [(q, .inr (6, [.int 0, .ref q1, .ref q2, .int 0, .ref q3, .ref q4, .int 0, .ref q5, .ref q6, .ref q7, .int 0, .ref q8, .int 0, .int 0, .ref q9, .ref q10, .null, .null])), (q1, .inl (cI, 17, .inl (fun _ => 0))), (q2, .inl (cI, 256, .inl (fun _ => 0))), (q3, .inl (cI, 17, .inl (fun _ => 0))), (q4, .inl (cI, 256, .inl (fun _ => 0))), (q5, .inl (cI, 256, .inl (fun _ => 0))), (q6, .inl (cI, 256, .inl (fun _ => 0))), (q7, .inl (cI, 256, .inl (fun _ => 0))), (q8, .inl (cB, 65536, .inl (fun _ => 0))), (q9, .inl (cI, 257, .inl (fun _ => 0))), (q10, .inl (cI, 257, .inl (fun _ => 0)))] H := hP
  have hD : va_D A [(q, .inr (6, [.int 0, .ref q1, .ref q2, .int 0, .ref q3, .ref q4, .int 0, .ref q5, .ref q6, .ref q7, .int 0, .ref q8, .int 0, .int 0, .ref q9, .ref q10, .null, .null])), (q1, .inl (cI, 17, .inl (fun _ => 0))), (q2, .inl (cI, 256, .inl (fun _ => 0))), (q3, .inl (cI, 17, .inl (fun _ => 0))), (q4, .inl (cI, 256, .inl (fun _ => 0))), (q5, .inl (cI, 256, .inl (fun _ => 0))), (q6, .inl (cI, 256, .inl (fun _ => 0))), (q7, .inl (cI, 256, .inl (fun _ => 0))), (q8, .inl (cB, 65536, .inl (fun _ => 0))), (q9, .inl (cI, 257, .inl (fun _ => 0))), (q10, .inl (cI, 257, .inl (fun _ => 0)))] := hD
  refine lv_aload_n hx hb dMM_init_91 rfl (lv_at hl 0 rfl) ?_
  refine lv_sipush (v := 257) hx hb dMM_init_92 (by decide) ?_
  refine ax_newa (ty := .int) (a0 := (257, .inl (fun _ => 0))) hx hb (hts _ tw_54) rfl hK 0 rfl (fun _ h => h) hP hD hS hA (fun _ => rfl) (by decide) (show (257 : Int32).toNatClampNeg = 257 by decide) (by decide) (Nat.le_of_ble_eq_true rfl) (Nat.le_of_ble_eq_true rfl) dMM_init_95 (fun q11 H hP hD hS => ?_)
  have hP : va_P (dC, dI) vwCl [(q, .inr (6, [.int 0, .ref q1, .ref q2, .int 0, .ref q3, .ref q4, .int 0, .ref q5, .ref q6, .ref q7, .int 0, .ref q8, .int 0, .int 0, .ref q9, .ref q10, .null, .null])), (q1, .inl (cI, 17, .inl (fun _ => 0))), (q2, .inl (cI, 256, .inl (fun _ => 0))), (q3, .inl (cI, 17, .inl (fun _ => 0))), (q4, .inl (cI, 256, .inl (fun _ => 0))), (q5, .inl (cI, 256, .inl (fun _ => 0))), (q6, .inl (cI, 256, .inl (fun _ => 0))), (q7, .inl (cI, 256, .inl (fun _ => 0))), (q8, .inl (cB, 65536, .inl (fun _ => 0))), (q9, .inl (cI, 257, .inl (fun _ => 0))), (q10, .inl (cI, 257, .inl (fun _ => 0))), (q11, .inl (cI, 257, .inl (fun _ => 0)))] H := hP
  have hD : va_D A [(q, .inr (6, [.int 0, .ref q1, .ref q2, .int 0, .ref q3, .ref q4, .int 0, .ref q5, .ref q6, .ref q7, .int 0, .ref q8, .int 0, .int 0, .ref q9, .ref q10, .null, .null])), (q1, .inl (cI, 17, .inl (fun _ => 0))), (q2, .inl (cI, 256, .inl (fun _ => 0))), (q3, .inl (cI, 17, .inl (fun _ => 0))), (q4, .inl (cI, 256, .inl (fun _ => 0))), (q5, .inl (cI, 256, .inl (fun _ => 0))), (q6, .inl (cI, 256, .inl (fun _ => 0))), (q7, .inl (cI, 256, .inl (fun _ => 0))), (q8, .inl (cB, 65536, .inl (fun _ => 0))), (q9, .inl (cI, 257, .inl (fun _ => 0))), (q10, .inl (cI, 257, .inl (fun _ => 0))), (q11, .inl (cI, 257, .inl (fun _ => 0)))] := hD
  refine va_putF (D := (dC, dI)) (ci := 6) (v := .ref q11) (ty := (.array .int)) (C := RMM) (T := TMM) (N := 18) hx hb hts hi_MM tyMM tyMM_ok nmMM hown hK hP hD hS 0 rfl rfl 16 (by decide) (hts _ tw_356) (fun _ h9 => h9) rfl hin rfl (by decide +kernel) rfl rfl (Nat.le_of_ble_eq_true rfl) dMM_init_97 (fun H locs hP hD hS => ?_)
  have hP : va_P (dC, dI) vwCl [(q, .inr (6, [.int 0, .ref q1, .ref q2, .int 0, .ref q3, .ref q4, .int 0, .ref q5, .ref q6, .ref q7, .int 0, .ref q8, .int 0, .int 0, .ref q9, .ref q10, .ref q11, .null])), (q1, .inl (cI, 17, .inl (fun _ => 0))), (q2, .inl (cI, 256, .inl (fun _ => 0))), (q3, .inl (cI, 17, .inl (fun _ => 0))), (q4, .inl (cI, 256, .inl (fun _ => 0))), (q5, .inl (cI, 256, .inl (fun _ => 0))), (q6, .inl (cI, 256, .inl (fun _ => 0))), (q7, .inl (cI, 256, .inl (fun _ => 0))), (q8, .inl (cB, 65536, .inl (fun _ => 0))), (q9, .inl (cI, 257, .inl (fun _ => 0))), (q10, .inl (cI, 257, .inl (fun _ => 0))), (q11, .inl (cI, 257, .inl (fun _ => 0)))] H := hP
  have hD : va_D A [(q, .inr (6, [.int 0, .ref q1, .ref q2, .int 0, .ref q3, .ref q4, .int 0, .ref q5, .ref q6, .ref q7, .int 0, .ref q8, .int 0, .int 0, .ref q9, .ref q10, .ref q11, .null])), (q1, .inl (cI, 17, .inl (fun _ => 0))), (q2, .inl (cI, 256, .inl (fun _ => 0))), (q3, .inl (cI, 17, .inl (fun _ => 0))), (q4, .inl (cI, 256, .inl (fun _ => 0))), (q5, .inl (cI, 256, .inl (fun _ => 0))), (q6, .inl (cI, 256, .inl (fun _ => 0))), (q7, .inl (cI, 256, .inl (fun _ => 0))), (q8, .inl (cB, 65536, .inl (fun _ => 0))), (q9, .inl (cI, 257, .inl (fun _ => 0))), (q10, .inl (cI, 257, .inl (fun _ => 0))), (q11, .inl (cI, 257, .inl (fun _ => 0)))] := hD
  refine lv_aload_n hx hb dMM_init_100 rfl (lv_at hl 0 rfl) ?_
  refine lv_sipush (v := 300) hx hb dMM_init_101 (by decide) ?_
  refine ax_newa (ty := .int) (a0 := (300, .inl (fun _ => 0))) hx hb (hts _ tw_54) rfl hK 0 rfl (fun _ h => h) hP hD hS hA (fun _ => rfl) (by decide) (show (300 : Int32).toNatClampNeg = 300 by decide) (by decide) (Nat.le_of_ble_eq_true rfl) (Nat.le_of_ble_eq_true rfl) dMM_init_104 (fun q12 H hP hD hS => ?_)
  have hP : va_P (dC, dI) vwCl [(q, .inr (6, [.int 0, .ref q1, .ref q2, .int 0, .ref q3, .ref q4, .int 0, .ref q5, .ref q6, .ref q7, .int 0, .ref q8, .int 0, .int 0, .ref q9, .ref q10, .ref q11, .null])), (q1, .inl (cI, 17, .inl (fun _ => 0))), (q2, .inl (cI, 256, .inl (fun _ => 0))), (q3, .inl (cI, 17, .inl (fun _ => 0))), (q4, .inl (cI, 256, .inl (fun _ => 0))), (q5, .inl (cI, 256, .inl (fun _ => 0))), (q6, .inl (cI, 256, .inl (fun _ => 0))), (q7, .inl (cI, 256, .inl (fun _ => 0))), (q8, .inl (cB, 65536, .inl (fun _ => 0))), (q9, .inl (cI, 257, .inl (fun _ => 0))), (q10, .inl (cI, 257, .inl (fun _ => 0))), (q11, .inl (cI, 257, .inl (fun _ => 0))), (q12, .inl (cI, 300, .inl (fun _ => 0)))] H := hP
  have hD : va_D A [(q, .inr (6, [.int 0, .ref q1, .ref q2, .int 0, .ref q3, .ref q4, .int 0, .ref q5, .ref q6, .ref q7, .int 0, .ref q8, .int 0, .int 0, .ref q9, .ref q10, .ref q11, .null])), (q1, .inl (cI, 17, .inl (fun _ => 0))), (q2, .inl (cI, 256, .inl (fun _ => 0))), (q3, .inl (cI, 17, .inl (fun _ => 0))), (q4, .inl (cI, 256, .inl (fun _ => 0))), (q5, .inl (cI, 256, .inl (fun _ => 0))), (q6, .inl (cI, 256, .inl (fun _ => 0))), (q7, .inl (cI, 256, .inl (fun _ => 0))), (q8, .inl (cB, 65536, .inl (fun _ => 0))), (q9, .inl (cI, 257, .inl (fun _ => 0))), (q10, .inl (cI, 257, .inl (fun _ => 0))), (q11, .inl (cI, 257, .inl (fun _ => 0))), (q12, .inl (cI, 300, .inl (fun _ => 0)))] := hD
  refine va_putF (D := (dC, dI)) (ci := 6) (v := .ref q12) (ty := (.array .int)) (C := RMM) (T := TMM) (N := 18) hx hb hts hi_MM tyMM tyMM_ok nmMM hown hK hP hD hS 0 rfl rfl 17 (by decide) (hts _ tw_357) (fun _ h9 => h9) rfl hin rfl (by decide +kernel) rfl rfl (Nat.le_of_ble_eq_true rfl) dMM_init_106 (fun H locs hP hD hS => ?_)
  have hP : va_P (dC, dI) vwCl [(q, .inr (6, [.int 0, .ref q1, .ref q2, .int 0, .ref q3, .ref q4, .int 0, .ref q5, .ref q6, .ref q7, .int 0, .ref q8, .int 0, .int 0, .ref q9, .ref q10, .ref q11, .ref q12])), (q1, .inl (cI, 17, .inl (fun _ => 0))), (q2, .inl (cI, 256, .inl (fun _ => 0))), (q3, .inl (cI, 17, .inl (fun _ => 0))), (q4, .inl (cI, 256, .inl (fun _ => 0))), (q5, .inl (cI, 256, .inl (fun _ => 0))), (q6, .inl (cI, 256, .inl (fun _ => 0))), (q7, .inl (cI, 256, .inl (fun _ => 0))), (q8, .inl (cB, 65536, .inl (fun _ => 0))), (q9, .inl (cI, 257, .inl (fun _ => 0))), (q10, .inl (cI, 257, .inl (fun _ => 0))), (q11, .inl (cI, 257, .inl (fun _ => 0))), (q12, .inl (cI, 300, .inl (fun _ => 0)))] H := hP
  have hD : va_D A [(q, .inr (6, [.int 0, .ref q1, .ref q2, .int 0, .ref q3, .ref q4, .int 0, .ref q5, .ref q6, .ref q7, .int 0, .ref q8, .int 0, .int 0, .ref q9, .ref q10, .ref q11, .ref q12])), (q1, .inl (cI, 17, .inl (fun _ => 0))), (q2, .inl (cI, 256, .inl (fun _ => 0))), (q3, .inl (cI, 17, .inl (fun _ => 0))), (q4, .inl (cI, 256, .inl (fun _ => 0))), (q5, .inl (cI, 256, .inl (fun _ => 0))), (q6, .inl (cI, 256, .inl (fun _ => 0))), (q7, .inl (cI, 256, .inl (fun _ => 0))), (q8, .inl (cB, 65536, .inl (fun _ => 0))), (q9, .inl (cI, 257, .inl (fun _ => 0))), (q10, .inl (cI, 257, .inl (fun _ => 0))), (q11, .inl (cI, 257, .inl (fun _ => 0))), (q12, .inl (cI, 300, .inl (fun _ => 0)))] := hD
  refine W.widen (k := 12) (n := 67921) (Nat.le_of_ble_eq_true rfl) (Nat.le_of_ble_eq_true rfl) ?_
  exact ax_cret (u := (q1, q2, q3, q4, q5, q6, q7, q8, q9, q10, q11, q12)) hx hb hr hP hD hS dMM_init_109 hlocks
abbrev wsMM_thrown : List Cond := Cond.code yMM_thrown cMM_thrown 1 (some .int) :: tt
set_option maxHeartbeats 4000000 in
set_option maxRecDepth 100000 in
theorem cc_MM_thrown (l : Launch) (dC : Nat → ClassId) (dI : Nat → Nat → Nat) (cI cZ cL cB : ClassId) (q q_draft q_drafted q_counts q_symbols q_lengths q_codes q_often q_row q_number q_group q_bitsOf q_many : Nat) (sz : Nat) (k_thrown : Int32) (k_drafts : Int32) (k_words : Int32) (k_total : Int32) (k_size : Int32) (k_place : Int32) (r : Int32) (hf : f_MM_thrown k_thrown k_drafts k_words k_total k_size k_place = some r) : Met l yMM_thrown wsMM_thrown ({ frames := 0, cells := 0, slots := 0, locals := 0 }) (va_Pc [.ref q] (kz_P dC dI cI cZ cL cB sz (w_MM_thrown cI cZ cL cB q q_draft q_drafted q_counts q_symbols q_lengths q_codes q_often q_row q_number q_group q_bitsOf q_many k_thrown k_drafts k_words k_total k_size k_place))) (va_Qi (fun (r' : Int32) (_ : Unit) => r' = r) (fun _ t => va_P (dC, dI) vwCl (w_MM_thrown cI cZ cL cB q q_draft q_drafted q_counts q_symbols q_lengths q_codes q_often q_row q_number q_group q_bitsOf q_many k_thrown k_drafts k_words k_total k_size k_place) t.heap ∧ va_D (va_A (w_MM_thrown cI cZ cL cB q q_draft q_drafted q_counts q_symbols q_lengths q_codes q_often q_row q_number q_group q_bitsOf q_many k_thrown k_drafts k_words k_total k_size k_place) sz) (w_MM_thrown cI cZ cL cB q q_draft q_drafted q_counts q_symbols q_lengths q_codes q_often q_row q_number q_group q_bitsOf q_many k_thrown k_drafts k_words k_total k_size k_place)) (va_A (w_MM_thrown cI cZ cL cB q q_draft q_drafted q_counts q_symbols q_lengths q_codes q_often q_row q_number q_group q_bitsOf q_many k_thrown k_drafts k_words k_total k_size k_place) sz)) 0 0 (va_A (w_MM_thrown cI cZ cL cB q q_draft q_drafted q_counts q_symbols q_lengths q_codes q_often q_row q_number q_group q_bitsOf q_many k_thrown k_drafts k_words k_total k_size k_place) sz) := by
  refine Met.ofW (cc := cMM_thrown) (maxL := 1) (ret := (some .int)) (by decide) rfl ?_
  intro p e s m args below meth c s₁ B hml hv
  obtain ⟨rfl, hsz, hP, hZ, hD0⟩ := hv
  have hK := hZ.1
  have hx := B.exec
  have hb := B.bytes
  have hr := B.returns
  have hts : ∀ w ∈ tt, w.before _ s = true := fun w h => atoms_spec (ws := wsMM_thrown) B.pre w (List.mem_cons_of_mem _ h)
  have hown : s.vm.findClass RMM = some m.cls := findClass_of_methodNamed B.named
  have hlocks := B.notSynchronized
  subst hsz
  have hD := hD0.self (sz := s.heap.size)
  generalize hAe : va_A (w_MM_thrown cI cZ cL cB q q_draft q_drafted q_counts q_symbols q_lengths q_codes q_often q_row q_number q_group q_bitsOf q_many k_thrown k_drafts k_words k_total k_size k_place) s.heap.size = A at hD ⊢
  have hA : ∀ q : Nat, s.heap.size ≤ q → A q := fun q h => by rw [← hAe]; exact Or.inr h
  have hS : va_S A s.heap s.heap [] := va_S.rf
  have hl := lv_entry [.ref q] (n := 1) (Nat.le_of_ble_eq_true rfl)
  rw [lg_entry_eq]
  generalize (lg_sl [.ref q] ++ List.replicate (1 - (lg_sl [.ref q]).length) Slot.unset).toArray = ls at hl ⊢
  have hl : lv_has ls 1 [(0, .ref q)] := hl
  unfold f_MM_thrown at hf
  refine lv_aload_n hx hb dMM_thrown_0 rfl (lv_at hl 0 rfl) ?_
  refine va_get (D := (dC, dI)) (ci := 6) (v := .int k_thrown) (C := RMM) (T := TMM) (N := 18) hx hb hts hi_MM hown hK hP 0 rfl rfl 0 (by decide) (hts _ tw_340) (fun _ h9 => h9) rfl dMM_thrown_1 ?_
  cases hf
  exact ax_iret hx hb hr hP hD hS dMM_thrown_4 hlocks
abbrev wsMM_count : List Cond := Cond.code yMM_count cMM_count 3 (some .boolean) :: tt
set_option maxHeartbeats 4000000 in
set_option maxRecDepth 100000 in
theorem cc_MM_count (l : Launch) (dC : Nat → ClassId) (dI : Nat → Nat → Nat) (cI cZ cL cB : ClassId) (q q_draft q_drafted q_counts q_symbols q_lengths q_codes q_often q_row q_number q_group q_bitsOf q_many : Nat) (sz : Nat) (k_thrown : Int32) (k_drafts : Int32) (k_words : Int32) (k_total : Int32) (k_size : Int32) (k_place : Int32) (k_draft : Nat → Int32) (a_0 : Int32) (a_1 : Int32) (r : Int32) (o_thrown : Int32) (o_draft : Nat → Int32) (hf : f_MM_count k_thrown k_drafts k_words k_total k_size k_place k_draft a_0 a_1 = some (r, o_thrown, o_draft)) : Met l yMM_count wsMM_count ({ frames := 0, cells := 0, slots := 0, locals := 0 }) (va_Pc [.ref q, .int a_0, .int a_1] (kz_P dC dI cI cZ cL cB sz (w_MM_count cI cZ cL cB q q_draft q_drafted q_counts q_symbols q_lengths q_codes q_often q_row q_number q_group q_bitsOf q_many k_thrown k_drafts k_words k_total k_size k_place k_draft))) (va_Qi (fun (r' : Int32) (_ : Unit) => r' = r) (fun _ t => va_P (dC, dI) vwCl (w_MM_count cI cZ cL cB q q_draft q_drafted q_counts q_symbols q_lengths q_codes q_often q_row q_number q_group q_bitsOf q_many o_thrown k_drafts k_words k_total k_size k_place o_draft) t.heap ∧ va_D (va_A (w_MM_count cI cZ cL cB q q_draft q_drafted q_counts q_symbols q_lengths q_codes q_often q_row q_number q_group q_bitsOf q_many k_thrown k_drafts k_words k_total k_size k_place k_draft) sz) (w_MM_count cI cZ cL cB q q_draft q_drafted q_counts q_symbols q_lengths q_codes q_often q_row q_number q_group q_bitsOf q_many o_thrown k_drafts k_words k_total k_size k_place o_draft)) (va_A (w_MM_count cI cZ cL cB q q_draft q_drafted q_counts q_symbols q_lengths q_codes q_often q_row q_number q_group q_bitsOf q_many k_thrown k_drafts k_words k_total k_size k_place k_draft) sz)) 0 0 (va_A (w_MM_count cI cZ cL cB q q_draft q_drafted q_counts q_symbols q_lengths q_codes q_often q_row q_number q_group q_bitsOf q_many k_thrown k_drafts k_words k_total k_size k_place k_draft) sz) := by
  refine Met.ofW (cc := cMM_count) (maxL := 3) (ret := (some .boolean)) (by decide) rfl ?_
  intro p e s m args below meth c s₁ B hml hv
  obtain ⟨rfl, hsz, hP, hZ, hD0⟩ := hv
  have hK := hZ.1
  have hx := B.exec
  have hb := B.bytes
  have hr := B.returns
  have hts : ∀ w ∈ tt, w.before _ s = true := fun w h => atoms_spec (ws := wsMM_count) B.pre w (List.mem_cons_of_mem _ h)
  have hown : s.vm.findClass RMM = some m.cls := findClass_of_methodNamed B.named
  have hlocks := B.notSynchronized
  subst hsz
  have hD := hD0.self (sz := s.heap.size)
  generalize hAe : va_A (w_MM_count cI cZ cL cB q q_draft q_drafted q_counts q_symbols q_lengths q_codes q_often q_row q_number q_group q_bitsOf q_many k_thrown k_drafts k_words k_total k_size k_place k_draft) s.heap.size = A at hD ⊢
  have hA : ∀ q : Nat, s.heap.size ≤ q → A q := fun q h => by rw [← hAe]; exact Or.inr h
  have hS : va_S A s.heap s.heap [] := va_S.rf
  have hl := lv_entry [.ref q, .int a_0, .int a_1] (n := 3) (Nat.le_of_ble_eq_true rfl)
  rw [lg_entry_eq]
  generalize (lg_sl [.ref q, .int a_0, .int a_1] ++ List.replicate (3 - (lg_sl [.ref q, .int a_0, .int a_1]).length) Slot.unset).toArray = ls at hl ⊢
  have hl : lv_has ls 3 [(0, .ref q), (1, .int a_0), (2, .int a_1)] := hl
  unfold f_MM_count at hf
  refine lv_aload_n hx hb dMM_count_0 rfl (lv_at hl 0 rfl) ?_
  refine lv_iconst (v := 0) hx hb dMM_count_1 (by decide) ?_
  refine va_put (D := (dC, dI)) (ci := 6) (v := .int 0) (ty := .int) (C := RMM) (T := TMM) (N := 18) hx hb hts hi_MM tyMM tyMM_ok nmMM hown hK hP hD hS 0 rfl rfl 0 (by decide) (hts _ tw_340) (fun _ h9 => h9) rfl (by decide +kernel) rfl rfl (Nat.le_of_ble_eq_true rfl) dMM_count_2 (fun H locs hP hD hS => ?_)
  have hP : va_P (dC, dI) vwCl (w_MM_count cI cZ cL cB q q_draft q_drafted q_counts q_symbols q_lengths q_codes q_often q_row q_number q_group q_bitsOf q_many 0 k_drafts k_words k_total k_size k_place k_draft) H := hP
  have hD : va_D A (w_MM_count cI cZ cL cB q q_draft q_drafted q_counts q_symbols q_lengths q_codes q_often q_row q_number q_group q_bitsOf q_many 0 k_drafts k_words k_total k_size k_place k_draft) := hD
  refine lv_iload_n hx hb dMM_count_5 rfl (lv_at hl 1 rfl) ?_
  refine lv_iconst (v := 1) hx hb dMM_count_6 (by decide) ?_
  refine lv_icmp_lt (tgt := 27) hx hb dMM_count_7 (by decide) (fun c_1 => ?_) (fun c_1 => ?_)
  · have hf := ifT hf c_1
    refine lv_iconst (v := 0) hx hb dMM_count_27 (by decide) ?_
    cases hf
    exact ax_zret hx hb hr rfl hP hD hS dMM_count_28 hlocks
  · have hf := ifF hf c_1
    refine lv_iload_n hx hb dMM_count_10 rfl (lv_at hl 1 rfl) ?_
    refine lv_bipush (v := 16) hx hb dMM_count_11 (by decide) ?_
    refine lv_icmp_gt (tgt := 27) hx hb dMM_count_13 (by decide) (fun c_2 => ?_) (fun c_2 => ?_)
    · have hf := ifT hf c_2
      refine lv_iconst (v := 0) hx hb dMM_count_27 (by decide) ?_
      cases hf
      exact ax_zret hx hb hr rfl hP hD hS dMM_count_28 hlocks
    · have hf := ifF hf c_2
      refine lv_iload_n hx hb dMM_count_16 rfl (lv_at hl 2 rfl) ?_
      refine lv_if_lt (tgt := 27) hx hb dMM_count_17 (by decide) (fun c_3 => ?_) (fun c_3 => ?_)
      · have hf := ifT hf c_3
        refine lv_iconst (v := 0) hx hb dMM_count_27 (by decide) ?_
        cases hf
        exact ax_zret hx hb hr rfl hP hD hS dMM_count_28 hlocks
      · have hf := ifF hf c_3
        refine lv_iload_n hx hb dMM_count_20 rfl (lv_at hl 2 rfl) ?_
        refine lv_sipush (v := 255) hx hb dMM_count_21 (by decide) ?_
        refine lv_icmp_le (tgt := 29) hx hb dMM_count_24 (by decide) (fun c_4 => ?_) (fun c_4 => ?_)
        · have hf := ifT hf c_4
          refine lv_aload_n hx hb dMM_count_29 rfl (lv_at hl 0 rfl) ?_
          refine va_get (D := (dC, dI)) (ci := 6) (v := .ref q_draft) (C := RMM) (T := TMM) (N := 18) hx hb hts hi_MM hown hK hP 0 rfl rfl 1 (by decide) (hts _ tw_341) (fun _ h9 => h9) rfl dMM_count_30 ?_
          refine lv_iload_n hx hb dMM_count_33 rfl (lv_at hl 1 rfl) ?_
          refine lv_iload_n hx hb dMM_count_34 rfl (lv_at hl 2 rfl) ?_
          obtain ⟨g5, eg5, h6, hf⟩ := wr_some hf
          refine ax_iast hx hb hK hP hD hS 1 0 rfl rfl h6 eg5 dMM_count_35 (ws' := (w_MM_count cI cZ cL cB q q_draft q_drafted q_counts q_symbols q_lengths q_codes q_often q_row q_number q_group q_bitsOf q_many 0 k_drafts k_words k_total k_size k_place g5)) rfl (fun H locs hP hD hS => ?_)
          refine lv_iconst (v := 1) hx hb dMM_count_36 (by decide) ?_
          cases hf
          exact ax_zret hx hb hr rfl hP hD hS dMM_count_37 hlocks
        · have hf := ifF hf c_4
          refine lv_iconst (v := 0) hx hb dMM_count_27 (by decide) ?_
          cases hf
          exact ax_zret hx hb hr rfl hP hD hS dMM_count_28 hlocks
abbrev wsMM_isSymbol : List Cond := Cond.code yMM_isSymbol cMM_isSymbol 1 (some .boolean) :: tt
set_option maxHeartbeats 4000000 in
set_option maxRecDepth 100000 in
theorem cc_MM_isSymbol (l : Launch) (dC : Nat → ClassId) (dI : Nat → Nat → Nat) (cI cZ cL cB : ClassId) (sz : Nat) (a_0 : Int32) (r : Int32) (hf : f_MM_isSymbol a_0 = some r) : Met l yMM_isSymbol wsMM_isSymbol ({ frames := 0, cells := 0, slots := 0, locals := 0 }) (va_Pc [.int a_0] (kz_P dC dI cI cZ cL cB sz (w_MM_isSymbol cI cZ cL cB ))) (va_Qi (fun (r' : Int32) (_ : Unit) => r' = r) (fun _ t => va_P (dC, dI) vwCl (w_MM_isSymbol cI cZ cL cB ) t.heap ∧ va_D (va_A (w_MM_isSymbol cI cZ cL cB ) sz) (w_MM_isSymbol cI cZ cL cB )) (va_A (w_MM_isSymbol cI cZ cL cB ) sz)) 0 0 (va_A (w_MM_isSymbol cI cZ cL cB ) sz) := by
  refine Met.ofW (cc := cMM_isSymbol) (maxL := 1) (ret := (some .boolean)) (by decide) rfl ?_
  intro p e s m args below meth c s₁ B hml hv
  obtain ⟨rfl, hsz, hP, hZ, hD0⟩ := hv
  have hK := hZ.1
  have hx := B.exec
  have hb := B.bytes
  have hr := B.returns
  have hts : ∀ w ∈ tt, w.before _ s = true := fun w h => atoms_spec (ws := wsMM_isSymbol) B.pre w (List.mem_cons_of_mem _ h)
  have hown : s.vm.findClass RMM = some m.cls := findClass_of_methodNamed B.named
  have hlocks := B.notSynchronized
  subst hsz
  have hD := hD0.self (sz := s.heap.size)
  generalize hAe : va_A (w_MM_isSymbol cI cZ cL cB ) s.heap.size = A at hD ⊢
  have hA : ∀ q : Nat, s.heap.size ≤ q → A q := fun q h => by rw [← hAe]; exact Or.inr h
  have hS : va_S A s.heap s.heap [] := va_S.rf
  have hl := lv_entry [.int a_0] (n := 1) (Nat.le_of_ble_eq_true rfl)
  rw [lg_entry_eq]
  generalize (lg_sl [.int a_0] ++ List.replicate (1 - (lg_sl [.int a_0]).length) Slot.unset).toArray = ls at hl ⊢
  have hl : lv_has ls 1 [(0, .int a_0)] := hl
  unfold f_MM_isSymbol at hf
  refine lv_iload_n hx hb dMM_isSymbol_0 rfl (lv_at hl 0 rfl) ?_
  refine lv_if_lt (tgt := 15) hx hb dMM_isSymbol_1 (by decide) (fun c_1 => ?_) (fun c_1 => ?_)
  · have hf := ifT hf c_1
    refine lv_iconst (v := 0) hx hb dMM_isSymbol_15 (by decide) ?_
    cases hf
    exact ax_zret hx hb hr rfl hP hD hS dMM_isSymbol_16 hlocks
  · have hf := ifF hf c_1
    refine lv_iload_n hx hb dMM_isSymbol_4 rfl (lv_at hl 0 rfl) ?_
    refine lv_sipush (v := 256) hx hb dMM_isSymbol_5 (by decide) ?_
    refine lv_icmp_ge (tgt := 15) hx hb dMM_isSymbol_8 (by decide) (fun c_2 => ?_) (fun c_2 => ?_)
    · have hf := ifT hf c_2
      refine lv_iconst (v := 0) hx hb dMM_isSymbol_15 (by decide) ?_
      cases hf
      exact ax_zret hx hb hr rfl hP hD hS dMM_isSymbol_16 hlocks
    · have hf := ifF hf c_2
      refine lv_iconst (v := 1) hx hb dMM_isSymbol_11 (by decide) ?_
      refine lv_goto (tgt := 16) hx hb dMM_isSymbol_12 (by decide) ?_
      cases hf
      exact ax_zret hx hb hr rfl hP hD hS dMM_isSymbol_16 hlocks
abbrev wsMM_symbol : List Cond := Cond.code yMM_symbol cMM_symbol 2 (some .int) :: tt
set_option maxHeartbeats 4000000 in
set_option maxRecDepth 100000 in
theorem cc_MM_symbol (l : Launch) (dC : Nat → ClassId) (dI : Nat → Nat → Nat) (cI cZ cL cB : ClassId) (q q_draft q_drafted q_counts q_symbols q_lengths q_codes q_often q_row q_number q_group q_bitsOf q_many : Nat) (sz : Nat) (k_thrown : Int32) (k_drafts : Int32) (k_words : Int32) (k_total : Int32) (k_size : Int32) (k_place : Int32) (k_drafted : Nat → Int32) (a_0 : Int32) (r : Int32) (o_thrown : Int32) (o_drafts : Int32) (o_drafted : Nat → Int32) (hf : f_MM_symbol k_thrown k_drafts k_words k_total k_size k_place k_drafted a_0 = some (r, o_thrown, o_drafts, o_drafted)) : Met l yMM_symbol wsMM_symbol ({ frames := 1, cells := 0, slots := 0, locals := 20 }) (va_Pc [.ref q, .int a_0] (kz_P dC dI cI cZ cL cB sz (w_MM_symbol cI cZ cL cB q q_draft q_drafted q_counts q_symbols q_lengths q_codes q_often q_row q_number q_group q_bitsOf q_many k_thrown k_drafts k_words k_total k_size k_place k_drafted))) (va_Qi (fun (r' : Int32) (_ : Unit) => r' = r) (fun _ t => va_P (dC, dI) vwCl (w_MM_symbol cI cZ cL cB q q_draft q_drafted q_counts q_symbols q_lengths q_codes q_often q_row q_number q_group q_bitsOf q_many o_thrown o_drafts k_words k_total k_size k_place o_drafted) t.heap ∧ va_D (va_A (w_MM_symbol cI cZ cL cB q q_draft q_drafted q_counts q_symbols q_lengths q_codes q_often q_row q_number q_group q_bitsOf q_many k_thrown k_drafts k_words k_total k_size k_place k_drafted) sz) (w_MM_symbol cI cZ cL cB q q_draft q_drafted q_counts q_symbols q_lengths q_codes q_often q_row q_number q_group q_bitsOf q_many o_thrown o_drafts k_words k_total k_size k_place o_drafted)) (va_A (w_MM_symbol cI cZ cL cB q q_draft q_drafted q_counts q_symbols q_lengths q_codes q_often q_row q_number q_group q_bitsOf q_many k_thrown k_drafts k_words k_total k_size k_place k_drafted) sz)) 0 0 (va_A (w_MM_symbol cI cZ cL cB q q_draft q_drafted q_counts q_symbols q_lengths q_codes q_often q_row q_number q_group q_bitsOf q_many k_thrown k_drafts k_words k_total k_size k_place k_drafted) sz) := by
  refine Met.ofW (cc := cMM_symbol) (maxL := 2) (ret := (some .int)) (by decide) rfl ?_
  intro p e s m args below meth c s₁ B hml hv
  obtain ⟨rfl, hsz, hP, hZ, hD0⟩ := hv
  have hK := hZ.1
  have hx := B.exec
  have hb := B.bytes
  have hr := B.returns
  have hts : ∀ w ∈ tt, w.before _ s = true := fun w h => atoms_spec (ws := wsMM_symbol) B.pre w (List.mem_cons_of_mem _ h)
  have hown : s.vm.findClass RMM = some m.cls := findClass_of_methodNamed B.named
  have hlocks := B.notSynchronized
  subst hsz
  have hD := hD0.self (sz := s.heap.size)
  generalize hAe : va_A (w_MM_symbol cI cZ cL cB q q_draft q_drafted q_counts q_symbols q_lengths q_codes q_often q_row q_number q_group q_bitsOf q_many k_thrown k_drafts k_words k_total k_size k_place k_drafted) s.heap.size = A at hD ⊢
  have hA : ∀ q : Nat, s.heap.size ≤ q → A q := fun q h => by rw [← hAe]; exact Or.inr h
  have hS : va_S A s.heap s.heap [] := va_S.rf
  have hl := lv_entry [.ref q, .int a_0] (n := 2) (Nat.le_of_ble_eq_true rfl)
  rw [lg_entry_eq]
  generalize (lg_sl [.ref q, .int a_0] ++ List.replicate (2 - (lg_sl [.ref q, .int a_0]).length) Slot.unset).toArray = ls at hl ⊢
  have hl : lv_has ls 2 [(0, .ref q), (1, .int a_0)] := hl
  unfold f_MM_symbol at hf
  refine lv_aload_n hx hb dMM_symbol_0 rfl (lv_at hl 0 rfl) ?_
  refine lv_iconst (v := 0) hx hb dMM_symbol_1 (by decide) ?_
  refine va_put (D := (dC, dI)) (ci := 6) (v := .int 0) (ty := .int) (C := RMM) (T := TMM) (N := 18) hx hb hts hi_MM tyMM tyMM_ok nmMM hown hK hP hD hS 0 rfl rfl 0 (by decide) (hts _ tw_340) (fun _ h9 => h9) rfl (by decide +kernel) rfl rfl (Nat.le_of_ble_eq_true rfl) dMM_symbol_2 (fun H locs hP hD hS => ?_)
  have hP : va_P (dC, dI) vwCl (w_MM_symbol cI cZ cL cB q q_draft q_drafted q_counts q_symbols q_lengths q_codes q_often q_row q_number q_group q_bitsOf q_many 0 k_drafts k_words k_total k_size k_place k_drafted) H := hP
  have hD : va_D A (w_MM_symbol cI cZ cL cB q q_draft q_drafted q_counts q_symbols q_lengths q_codes q_often q_row q_number q_group q_bitsOf q_many 0 k_drafts k_words k_total k_size k_place k_drafted) := hD
  refine lv_iload_n hx hb dMM_symbol_5 rfl (lv_at hl 1 rfl) ?_
  obtain ⟨r1, h2, hf⟩ := bd1_some hf
  have hPc := hP.sub (ws' := (w_MM_isSymbol cI cZ cL cB )) [] rfl
  have hDc := hD.sub (ws' := (w_MM_isSymbol cI cZ cL cB )) [] (by decide) rfl
  refine ax_calli (wr := [(q, .inr (6, [.int 0, .ref q_draft, .ref q_drafted, .int k_drafts, .ref q_counts, .ref q_symbols, .int k_words, .ref q_lengths, .ref q_codes, .ref q_often, .int k_total, .ref q_row, .int k_size, .int k_place, .ref q_number, .ref q_group, .ref q_bitsOf, .ref q_many])), (q_drafted, .inl (cI, 256, .inl k_drafted))]) (w2 := (w_MM_symbol cI cZ cL cB q q_draft q_drafted q_counts q_symbols q_lengths q_codes q_often q_row q_number q_group q_bitsOf q_many 0 k_drafts k_words k_total k_size k_place k_drafted)) (va_runS (As := [.int a_0]) (rest := []) ⟨hx, hb, hml, hown, hts⟩ (cc_MM_isSymbol l dC dI cI cZ cL cB  H.size a_0 r1 h2) (va_cwS 1 hts (tt_S tw_388 tw_389 tw_27 tw_390) rfl rfl rfl (by decide +kernel) ⟨Nat.le_of_ble_eq_true rfl, Nat.le_of_ble_eq_true rfl⟩) ⟨kz_fb, kz_pre hPc hZ hDc⟩ rfl rfl hl.1 rfl (lv_room (Nat.le_of_ble_eq_true rfl)) dMM_symbol_6 ⟨Nat.zero_le _, Nat.zero_le _⟩) hP hD hS hA [] [0, 1] [0, 1] rfl rfl (by decide) (by decide) rfl (by decide) (fun H locs hP hD hS => ?_)
  refine lv_if_eq (tgt := 22) hx hb dMM_symbol_9 (by decide) (fun c_3 => ?_) (fun c_3 => ?_)
  · have hf := ifT hf c_3
    refine lv_iconst (v := (-1)) hx hb dMM_symbol_22 (by decide) ?_
    cases hf
    exact ax_iret hx hb hr hP hD hS dMM_symbol_23 hlocks
  · have hf := ifF hf c_3
    refine lv_aload_n hx hb dMM_symbol_12 rfl (lv_at hl 0 rfl) ?_
    refine va_get (D := (dC, dI)) (ci := 6) (v := .int k_drafts) (C := RMM) (T := TMM) (N := 18) hx hb hts hi_MM hown hK hP 0 rfl rfl 3 (by decide) (hts _ tw_343) (fun _ h9 => h9) rfl dMM_symbol_13 ?_
    refine lv_sipush (v := 256) hx hb dMM_symbol_16 (by decide) ?_
    refine lv_icmp_ne (tgt := 24) hx hb dMM_symbol_19 (by decide) (fun c_4 => ?_) (fun c_4 => ?_)
    · have hf := ifF hf c_4
      refine lv_aload_n hx hb dMM_symbol_24 rfl (lv_at hl 0 rfl) ?_
      refine va_get (D := (dC, dI)) (ci := 6) (v := .ref q_drafted) (C := RMM) (T := TMM) (N := 18) hx hb hts hi_MM hown hK hP 0 rfl rfl 2 (by decide) (hts _ tw_342) (fun _ h9 => h9) rfl dMM_symbol_25 ?_
      refine lv_aload_n hx hb dMM_symbol_28 rfl (lv_at hl 0 rfl) ?_
      refine va_get (D := (dC, dI)) (ci := 6) (v := .int k_drafts) (C := RMM) (T := TMM) (N := 18) hx hb hts hi_MM hown hK hP 0 rfl rfl 3 (by decide) (hts _ tw_343) (fun _ h9 => h9) rfl dMM_symbol_29 ?_
      refine lv_iload_n hx hb dMM_symbol_32 rfl (lv_at hl 1 rfl) ?_
      obtain ⟨g5, eg5, h6, hf⟩ := wr_some hf
      refine ax_iast hx hb hK hP hD hS 1 0 rfl rfl h6 eg5 dMM_symbol_33 (ws' := (w_MM_symbol cI cZ cL cB q q_draft q_drafted q_counts q_symbols q_lengths q_codes q_often q_row q_number q_group q_bitsOf q_many 0 k_drafts k_words k_total k_size k_place g5)) rfl (fun H locs hP hD hS => ?_)
      refine lv_aload_n hx hb dMM_symbol_34 rfl (lv_at hl 0 rfl) ?_
      refine lv_dup hx hb dMM_symbol_35 rfl ?_
      refine va_get (D := (dC, dI)) (ci := 6) (v := .int k_drafts) (C := RMM) (T := TMM) (N := 18) hx hb hts hi_MM hown hK hP 0 rfl rfl 3 (by decide) (hts _ tw_343) (fun _ h9 => h9) rfl dMM_symbol_36 ?_
      refine lv_iconst (v := 1) hx hb dMM_symbol_39 (by decide) ?_
      refine lv_iadd hx hb dMM_symbol_40 ?_
      refine va_put (D := (dC, dI)) (ci := 6) (v := .int (k_drafts + 1)) (ty := .int) (C := RMM) (T := TMM) (N := 18) hx hb hts hi_MM tyMM tyMM_ok nmMM hown hK hP hD hS 0 rfl rfl 3 (by decide) (hts _ tw_343) (fun _ h9 => h9) rfl (by decide +kernel) rfl rfl (Nat.le_of_ble_eq_true rfl) dMM_symbol_41 (fun H locs hP hD hS => ?_)
      have hP : va_P (dC, dI) vwCl (w_MM_symbol cI cZ cL cB q q_draft q_drafted q_counts q_symbols q_lengths q_codes q_often q_row q_number q_group q_bitsOf q_many 0 (k_drafts + 1) k_words k_total k_size k_place g5) H := hP
      have hD : va_D A (w_MM_symbol cI cZ cL cB q q_draft q_drafted q_counts q_symbols q_lengths q_codes q_often q_row q_number q_group q_bitsOf q_many 0 (k_drafts + 1) k_words k_total k_size k_place g5) := hD
      refine lv_aload_n hx hb dMM_symbol_44 rfl (lv_at hl 0 rfl) ?_
      refine va_get (D := (dC, dI)) (ci := 6) (v := .int (k_drafts + 1)) (C := RMM) (T := TMM) (N := 18) hx hb hts hi_MM hown hK hP 0 rfl rfl 3 (by decide) (hts _ tw_343) (fun _ h9 => h9) rfl dMM_symbol_45 ?_
      cases hf
      exact ax_iret hx hb hr hP hD hS dMM_symbol_48 hlocks
    · have hf := ifT hf c_4
      refine lv_iconst (v := (-1)) hx hb dMM_symbol_22 (by decide) ?_
      cases hf
      exact ax_iret hx hb hr hP hD hS dMM_symbol_23 hlocks
abbrev wsMM_wipe : List Cond := Cond.code yMM_wipe cMM_wipe 2 none :: tt
set_option maxHeartbeats 4000000 in
set_option maxRecDepth 100000 in
theorem cc_MM_wipe (l : Launch) (dC : Nat → ClassId) (dI : Nat → Nat → Nat) (cI cZ cL cB : ClassId) (q q_draft q_drafted q_counts q_symbols q_lengths q_codes q_often q_row q_number q_group q_bitsOf q_many : Nat) (sz : Nat) (k_thrown : Int32) (k_drafts : Int32) (k_words : Int32) (k_total : Int32) (k_size : Int32) (k_place : Int32) (k_draft : Nat → Int32) (o_thrown : Int32) (o_drafts : Int32) (o_draft : Nat → Int32) (hf : f_MM_wipe k_thrown k_drafts k_words k_total k_size k_place k_draft = some (o_thrown, o_drafts, o_draft)) : Met l yMM_wipe wsMM_wipe ({ frames := 0, cells := 0, slots := 0, locals := 0 }) (va_Pc [.ref q] (kz_P dC dI cI cZ cL cB sz (w_MM_wipe cI cZ cL cB q q_draft q_drafted q_counts q_symbols q_lengths q_codes q_often q_row q_number q_group q_bitsOf q_many k_thrown k_drafts k_words k_total k_size k_place k_draft))) (va_Qv (fun (_ : Unit) => True) (fun _ t => va_P (dC, dI) vwCl (w_MM_wipe cI cZ cL cB q q_draft q_drafted q_counts q_symbols q_lengths q_codes q_often q_row q_number q_group q_bitsOf q_many o_thrown o_drafts k_words k_total k_size k_place o_draft) t.heap ∧ va_D (va_A (w_MM_wipe cI cZ cL cB q q_draft q_drafted q_counts q_symbols q_lengths q_codes q_often q_row q_number q_group q_bitsOf q_many k_thrown k_drafts k_words k_total k_size k_place k_draft) sz) (w_MM_wipe cI cZ cL cB q q_draft q_drafted q_counts q_symbols q_lengths q_codes q_often q_row q_number q_group q_bitsOf q_many o_thrown o_drafts k_words k_total k_size k_place o_draft)) (va_A (w_MM_wipe cI cZ cL cB q q_draft q_drafted q_counts q_symbols q_lengths q_codes q_often q_row q_number q_group q_bitsOf q_many k_thrown k_drafts k_words k_total k_size k_place k_draft) sz)) 0 0 (va_A (w_MM_wipe cI cZ cL cB q q_draft q_drafted q_counts q_symbols q_lengths q_codes q_often q_row q_number q_group q_bitsOf q_many k_thrown k_drafts k_words k_total k_size k_place k_draft) sz) := by
  refine Met.ofW (cc := cMM_wipe) (maxL := 2) (ret := none) (by decide) rfl ?_
  intro p e s m args below meth c s₁ B hml hv
  obtain ⟨rfl, hsz, hP, hZ, hD0⟩ := hv
  have hK := hZ.1
  have hx := B.exec
  have hb := B.bytes
  have hr := B.returns
  have hts : ∀ w ∈ tt, w.before _ s = true := fun w h => atoms_spec (ws := wsMM_wipe) B.pre w (List.mem_cons_of_mem _ h)
  have hown : s.vm.findClass RMM = some m.cls := findClass_of_methodNamed B.named
  have hlocks := B.notSynchronized
  subst hsz
  have hD := hD0.self (sz := s.heap.size)
  generalize hAe : va_A (w_MM_wipe cI cZ cL cB q q_draft q_drafted q_counts q_symbols q_lengths q_codes q_often q_row q_number q_group q_bitsOf q_many k_thrown k_drafts k_words k_total k_size k_place k_draft) s.heap.size = A at hD ⊢
  have hA : ∀ q : Nat, s.heap.size ≤ q → A q := fun q h => by rw [← hAe]; exact Or.inr h
  have hS : va_S A s.heap s.heap [] := va_S.rf
  have hl := lv_entry [.ref q] (n := 2) (Nat.le_of_ble_eq_true rfl)
  rw [lg_entry_eq]
  generalize (lg_sl [.ref q] ++ List.replicate (2 - (lg_sl [.ref q]).length) Slot.unset).toArray = ls at hl ⊢
  have hl : lv_has ls 2 [(0, .ref q)] := hl
  unfold f_MM_wipe at hf
  refine lv_aload_n hx hb dMM_wipe_0 rfl (lv_at hl 0 rfl) ?_
  refine lv_iconst (v := 0) hx hb dMM_wipe_1 (by decide) ?_
  refine va_put (D := (dC, dI)) (ci := 6) (v := .int 0) (ty := .int) (C := RMM) (T := TMM) (N := 18) hx hb hts hi_MM tyMM tyMM_ok nmMM hown hK hP hD hS 0 rfl rfl 0 (by decide) (hts _ tw_340) (fun _ h9 => h9) rfl (by decide +kernel) rfl rfl (Nat.le_of_ble_eq_true rfl) dMM_wipe_2 (fun H locs hP hD hS => ?_)
  have hP : va_P (dC, dI) vwCl (w_MM_wipe cI cZ cL cB q q_draft q_drafted q_counts q_symbols q_lengths q_codes q_often q_row q_number q_group q_bitsOf q_many 0 k_drafts k_words k_total k_size k_place k_draft) H := hP
  have hD : va_D A (w_MM_wipe cI cZ cL cB q q_draft q_drafted q_counts q_symbols q_lengths q_codes q_often q_row q_number q_group q_bitsOf q_many 0 k_drafts k_words k_total k_size k_place k_draft) := hD
  refine lv_aload_n hx hb dMM_wipe_5 rfl (lv_at hl 0 rfl) ?_
  refine lv_iconst (v := 0) hx hb dMM_wipe_6 (by decide) ?_
  refine va_put (D := (dC, dI)) (ci := 6) (v := .int 0) (ty := .int) (C := RMM) (T := TMM) (N := 18) hx hb hts hi_MM tyMM tyMM_ok nmMM hown hK hP hD hS 0 rfl rfl 3 (by decide) (hts _ tw_343) (fun _ h9 => h9) rfl (by decide +kernel) rfl rfl (Nat.le_of_ble_eq_true rfl) dMM_wipe_7 (fun H locs hP hD hS => ?_)
  have hP : va_P (dC, dI) vwCl (w_MM_wipe cI cZ cL cB q q_draft q_drafted q_counts q_symbols q_lengths q_codes q_often q_row q_number q_group q_bitsOf q_many 0 0 k_words k_total k_size k_place k_draft) H := hP
  have hD : va_D A (w_MM_wipe cI cZ cL cB q q_draft q_drafted q_counts q_symbols q_lengths q_codes q_often q_row q_number q_group q_bitsOf q_many 0 0 k_words k_total k_size k_place k_draft) := hD
  refine lv_iconst (v := 0) hx hb dMM_wipe_10 (by decide) ?_
  refine lv_istore_n (lv' := [(1, .int 0), (0, .ref q)]) hx hb dMM_wipe_11 rfl hl (by decide) rfl (fun ls hl => ?_)
  refine Lp2_W (P := fun (x3 : Int32) (x4 : Nat → Int32) => ∀ (H : Heap) (locs : List Loc) (ls : Array Slot), va_P (dC, dI) vwCl (w_MM_wipe cI cZ cL cB q q_draft q_drafted q_counts q_symbols q_lengths q_codes q_often q_row q_number q_group q_bitsOf q_many 0 0 k_words k_total k_size k_place x4) H → va_D A (w_MM_wipe cI cZ cL cB q q_draft q_drafted q_counts q_symbols q_lengths q_codes q_often q_row q_number q_group q_bitsOf q_many 0 0 k_words k_total k_size k_place x4) → va_S A s.heap H locs → lv_has ls 2 [(0, .ref q), (1, .int x3)] → W p l e _ s m _ below meth c H locs 0 0 _ (F0 m 12 ls [])) ?_ _ _ _ hf _ _ _ hP hD hS (lv_sub hl [1, 0] rfl)
  clear hf hP hD hS hl
  intro ag1 ih2 x3 x4 hf H locs ls hP hD hS hl
  refine lv_iload_n hx hb dMM_wipe_12 rfl (lv_at hl 1 rfl) ?_
  refine lv_bipush (v := 17) hx hb dMM_wipe_13 (by decide) ?_
  refine lv_icmp_ge (tgt := 31) hx hb dMM_wipe_15 (by decide) (fun c_5 => ?_) (fun c_5 => ?_)
  · have hf := ifT hf c_5
    cases hf
    exact ax_vret hx hb hr hP hD hS dMM_wipe_31 hlocks
  · have hf := ifF hf c_5
    refine lv_aload_n hx hb dMM_wipe_18 rfl (lv_at hl 0 rfl) ?_
    refine va_get (D := (dC, dI)) (ci := 6) (v := .ref q_draft) (C := RMM) (T := TMM) (N := 18) hx hb hts hi_MM hown hK hP 0 rfl rfl 1 (by decide) (hts _ tw_341) (fun _ h9 => h9) rfl dMM_wipe_19 ?_
    refine lv_iload_n hx hb dMM_wipe_22 rfl (lv_at hl 1 rfl) ?_
    refine lv_iconst (v := 0) hx hb dMM_wipe_23 (by decide) ?_
    obtain ⟨g6, eg6, h7, hf⟩ := wr_some hf
    refine ax_iast hx hb hK hP hD hS 1 0 rfl rfl h7 eg6 dMM_wipe_24 (ws' := (w_MM_wipe cI cZ cL cB q q_draft q_drafted q_counts q_symbols q_lengths q_codes q_often q_row q_number q_group q_bitsOf q_many 0 0 k_words k_total k_size k_place g6)) rfl (fun H locs hP hD hS => ?_)
    refine lv_iinc (v := (x3 + 1)) (lv' := [(1, .int (x3 + 1)), (0, .ref q)]) hx hb dMM_wipe_25 hl (k := 1) rfl rfl (by decide) rfl (fun ls hl => ?_)
    refine lv_goto (tgt := 12) hx hb dMM_wipe_28 (by decide) ?_
    exact ih2 (x3 + 1) g6 hf _ _ _ hP hD hS (lv_sub hl [1, 0] rfl)
