set_option maxHeartbeats 4000000 in
set_option maxRecDepth 100000 in
theorem cr_FF_isSymbol (l : Launch) (dC : Nat → ClassId) (dI : Nat → Nat → Nat) (cI cZ cL cB : ClassId) (a_0 : Int32) (r : Int32) (hf : f_FF_isSymbol a_0 = some r) : Met l yFF_isSymbol wsFF_isSymbol ({ frames := 0, cells := 0, slots := 0, locals := 0 }) (va_Pc [.int a_0] (kz_R dC dI cI cZ cL cB (w_FF_isSymbol cI cZ cL cB ))) (ro_Q r) 0 0 (fun _ => False) := by
  refine Met.ofW (cc := cFF_isSymbol) (maxL := 1) (ret := (some .boolean)) (by decide) rfl ?_
  intro p e s m args below meth c s₁ B hml hv
  obtain ⟨rfl, hP, hZ⟩ := hv
  have hK := hZ.1
  have hx := B.exec
  have hb := B.bytes
  have hr := B.returns
  have hts : ∀ w ∈ tt, w.before _ s = true := fun w h => atoms_spec (ws := wsFF_isSymbol) B.pre w (List.mem_cons_of_mem _ h)
  have hown : s.vm.findClass RFF = some m.cls := findClass_of_methodNamed B.named
  have hlocks := B.notSynchronized
  have hl := lv_entry [.int a_0] (n := 1) (Nat.le_of_ble_eq_true rfl)
  rw [lg_entry_eq]
  generalize (lg_sl [.int a_0] ++ List.replicate (1 - (lg_sl [.int a_0]).length) Slot.unset).toArray = ls at hl ⊢
  have hl : lv_has ls 1 [(0, .int a_0)] := hl
  unfold f_FF_isSymbol at hf
  refine lv_iload_n hx hb dFF_isSymbol_0 rfl (lv_at hl 0 rfl) ?_
  refine lv_if_lt (tgt := 15) hx hb dFF_isSymbol_1 (by decide) (fun c_1 => ?_) (fun c_1 => ?_)
  · have hf := ifT hf c_1
    refine lv_iconst (v := 0) hx hb dFF_isSymbol_15 (by decide) ?_
    cases hf
    exact ro_ret hx hb hr rfl dFF_isSymbol_16 hlocks
  · have hf := ifF hf c_1
    refine lv_iload_n hx hb dFF_isSymbol_4 rfl (lv_at hl 0 rfl) ?_
    refine lv_sipush (v := 256) hx hb dFF_isSymbol_5 (by decide) ?_
    refine lv_icmp_ge (tgt := 15) hx hb dFF_isSymbol_8 (by decide) (fun c_2 => ?_) (fun c_2 => ?_)
    · have hf := ifT hf c_2
      refine lv_iconst (v := 0) hx hb dFF_isSymbol_15 (by decide) ?_
      cases hf
      exact ro_ret hx hb hr rfl dFF_isSymbol_16 hlocks
    · have hf := ifF hf c_2
      refine lv_iconst (v := 1) hx hb dFF_isSymbol_11 (by decide) ?_
      refine lv_goto (tgt := 16) hx hb dFF_isSymbol_12 (by decide) ?_
      cases hf
      exact ro_ret hx hb hr rfl dFF_isSymbol_16 hlocks
set_option maxHeartbeats 4000000 in
set_option maxRecDepth 100000 in
theorem cr_FT_hasWord (l : Launch) (dC : Nat → ClassId) (dI : Nat → Nat → Nat) (cI cZ cL cB : ClassId) (q q_counts q_symbols q_lengths q_codes : Nat) (k_size : Int32) (k_lengths : Nat → Int32) (a_0 : Int32) (r : Int32) (hf : f_FT_hasWord k_size k_lengths a_0 = some r) : Met l yFT_hasWord wsFT_hasWord ({ frames := 1, cells := 0, slots := 0, locals := 20 }) (va_Pc [.ref q, .int a_0] (kz_R dC dI cI cZ cL cB (w_FT_hasWord cI cZ cL cB q q_counts q_symbols q_lengths q_codes k_size k_lengths))) (ro_Q r) 0 0 (fun _ => False) := by
  refine Met.ofW (cc := cFT_hasWord) (maxL := 2) (ret := (some .boolean)) (by decide) rfl ?_
  intro p e s m args below meth c s₁ B hml hv
  obtain ⟨rfl, hP, hZ⟩ := hv
  have hK := hZ.1
  have hx := B.exec
  have hb := B.bytes
  have hr := B.returns
  have hts : ∀ w ∈ tt, w.before _ s = true := fun w h => atoms_spec (ws := wsFT_hasWord) B.pre w (List.mem_cons_of_mem _ h)
  have hown : s.vm.findClass RFT = some m.cls := findClass_of_methodNamed B.named
  have hlocks := B.notSynchronized
  have hl := lv_entry [.ref q, .int a_0] (n := 2) (Nat.le_of_ble_eq_true rfl)
  rw [lg_entry_eq]
  generalize (lg_sl [.ref q, .int a_0] ++ List.replicate (2 - (lg_sl [.ref q, .int a_0]).length) Slot.unset).toArray = ls at hl ⊢
  have hl : lv_has ls 2 [(0, .ref q), (1, .int a_0)] := hl
  unfold f_FT_hasWord at hf
  refine lv_iload_n hx hb dFT_hasWord_0 rfl (lv_at hl 1 rfl) ?_
  obtain ⟨r1, h2, hf⟩ := bd1_some hf
  have hPc := hP.sub (ws' := (w_FF_isSymbol cI cZ cL cB )) [] rfl
  refine ro_call (va_runSN (As := [.int a_0]) (rest := []) ⟨hx, hb, hml, hown, hts⟩ (cr_FF_isSymbol l dC dI cI cZ cL cB  a_0 r1 h2) ⟨va_cnB 1 hts (tt_c tw_148) rfl rfl rfl (nz_6 hZ.2) (hts _ tw_21) (by decide +kernel) ⟨Nat.le_of_ble_eq_true rfl, Nat.le_of_ble_eq_true rfl⟩, hts _ tw_147, trivial⟩ ⟨kzr_fb, kzr_pre hPc hZ⟩ rfl rfl hl.1 rfl (lv_room (Nat.le_of_ble_eq_true rfl)) dFT_hasWord_1 ⟨Nat.zero_le _, Nat.zero_le _⟩) ?_
  refine lv_if_eq (tgt := 20) hx hb dFT_hasWord_4 (by decide) (fun c_3 => ?_) (fun c_3 => ?_)
  · have hf := ifT hf c_3
    refine lv_iconst (v := 0) hx hb dFT_hasWord_20 (by decide) ?_
    cases hf
    exact ro_ret hx hb hr rfl dFT_hasWord_21 hlocks
  · have hf := ifF hf c_3
    refine lv_aload_n hx hb dFT_hasWord_7 rfl (lv_at hl 0 rfl) ?_
    refine va_get (D := (dC, dI)) (ci := 3) (v := .ref q_lengths) (C := RFT) (T := TFT) (N := 5) hx hb hts hi_FT hown hK hP 0 rfl rfl 2 (by decide) (hts _ tw_65) (fun _ h9 => h9) rfl dFT_hasWord_8 ?_
    refine lv_iload_n hx hb dFT_hasWord_11 rfl (lv_at hl 1 rfl) ?_
    obtain ⟨v4, ev4, h5, hf⟩ := rd_some hf
    refine ax_iald hx hb hK hP 1 0 rfl rfl h5 ev4 dFT_hasWord_12 ?_
    refine lv_if_le (tgt := 20) hx hb dFT_hasWord_13 (by decide) (fun c_6 => ?_) (fun c_6 => ?_)
    · have hf := ifT hf c_6
      refine lv_iconst (v := 0) hx hb dFT_hasWord_20 (by decide) ?_
      cases hf
      exact ro_ret hx hb hr rfl dFT_hasWord_21 hlocks
    · have hf := ifF hf c_6
      refine lv_iconst (v := 1) hx hb dFT_hasWord_16 (by decide) ?_
      refine lv_goto (tgt := 21) hx hb dFT_hasWord_17 (by decide) ?_
      cases hf
      exact ro_ret hx hb hr rfl dFT_hasWord_21 hlocks
set_option maxHeartbeats 4000000 in
set_option maxRecDepth 100000 in
theorem cr_FF_isBitNumber (l : Launch) (dC : Nat → ClassId) (dI : Nat → Nat → Nat) (cI cZ cL cB : ClassId) (a_0 : Int32) (r : Int32) (hf : f_FF_isBitNumber a_0 = some r) : Met l yFF_isBitNumber wsFF_isBitNumber ({ frames := 0, cells := 0, slots := 0, locals := 0 }) (va_Pc [.int a_0] (kz_R dC dI cI cZ cL cB (w_FF_isBitNumber cI cZ cL cB ))) (ro_Q r) 0 0 (fun _ => False) := by
  refine Met.ofW (cc := cFF_isBitNumber) (maxL := 1) (ret := (some .boolean)) (by decide) rfl ?_
  intro p e s m args below meth c s₁ B hml hv
  obtain ⟨rfl, hP, hZ⟩ := hv
  have hK := hZ.1
  have hx := B.exec
  have hb := B.bytes
  have hr := B.returns
  have hts : ∀ w ∈ tt, w.before _ s = true := fun w h => atoms_spec (ws := wsFF_isBitNumber) B.pre w (List.mem_cons_of_mem _ h)
  have hown : s.vm.findClass RFF = some m.cls := findClass_of_methodNamed B.named
  have hlocks := B.notSynchronized
  have hl := lv_entry [.int a_0] (n := 1) (Nat.le_of_ble_eq_true rfl)
  rw [lg_entry_eq]
  generalize (lg_sl [.int a_0] ++ List.replicate (1 - (lg_sl [.int a_0]).length) Slot.unset).toArray = ls at hl ⊢
  have hl : lv_has ls 1 [(0, .int a_0)] := hl
  unfold f_FF_isBitNumber at hf
  refine lv_iload_n hx hb dFF_isBitNumber_0 rfl (lv_at hl 0 rfl) ?_
  refine lv_if_lt (tgt := 14) hx hb dFF_isBitNumber_1 (by decide) (fun c_1 => ?_) (fun c_1 => ?_)
  · have hf := ifT hf c_1
    refine lv_iconst (v := 0) hx hb dFF_isBitNumber_14 (by decide) ?_
    cases hf
    exact ro_ret hx hb hr rfl dFF_isBitNumber_15 hlocks
  · have hf := ifF hf c_1
    refine lv_iload_n hx hb dFF_isBitNumber_4 rfl (lv_at hl 0 rfl) ?_
    refine lv_bipush (v := 16) hx hb dFF_isBitNumber_5 (by decide) ?_
    refine lv_icmp_gt (tgt := 14) hx hb dFF_isBitNumber_7 (by decide) (fun c_2 => ?_) (fun c_2 => ?_)
    · have hf := ifT hf c_2
      refine lv_iconst (v := 0) hx hb dFF_isBitNumber_14 (by decide) ?_
      cases hf
      exact ro_ret hx hb hr rfl dFF_isBitNumber_15 hlocks
    · have hf := ifF hf c_2
      refine lv_iconst (v := 1) hx hb dFF_isBitNumber_10 (by decide) ?_
      refine lv_goto (tgt := 15) hx hb dFF_isBitNumber_11 (by decide) ?_
      cases hf
      exact ro_ret hx hb hr rfl dFF_isBitNumber_15 hlocks
set_option maxHeartbeats 4000000 in
set_option maxRecDepth 100000 in
theorem cr_FR_hasRoom (l : Launch) (dC : Nat → ClassId) (dI : Nat → Nat → Nat) (cI cZ cL cB : ClassId) (q q_cells : Nat) (k_size : Int32) (k_place : Int32) (a_0 : Int32) (r : Int32) (hf : f_FR_hasRoom k_size k_place a_0 = some r) : Met l yFR_hasRoom wsFR_hasRoom ({ frames := 0, cells := 0, slots := 0, locals := 0 }) (va_Pc [.ref q, .int a_0] (kz_R dC dI cI cZ cL cB (w_FR_hasRoom cI cZ cL cB q q_cells k_size k_place))) (ro_Q r) 0 0 (fun _ => False) := by
  refine Met.ofW (cc := cFR_hasRoom) (maxL := 2) (ret := (some .boolean)) (by decide) rfl ?_
  intro p e s m args below meth c s₁ B hml hv
  obtain ⟨rfl, hP, hZ⟩ := hv
  have hK := hZ.1
  have hx := B.exec
  have hb := B.bytes
  have hr := B.returns
  have hts : ∀ w ∈ tt, w.before _ s = true := fun w h => atoms_spec (ws := wsFR_hasRoom) B.pre w (List.mem_cons_of_mem _ h)
  have hown : s.vm.findClass RFR = some m.cls := findClass_of_methodNamed B.named
  have hlocks := B.notSynchronized
  have hl := lv_entry [.ref q, .int a_0] (n := 2) (Nat.le_of_ble_eq_true rfl)
  rw [lg_entry_eq]
  generalize (lg_sl [.ref q, .int a_0] ++ List.replicate (2 - (lg_sl [.ref q, .int a_0]).length) Slot.unset).toArray = ls at hl ⊢
  have hl : lv_has ls 2 [(0, .ref q), (1, .int a_0)] := hl
  unfold f_FR_hasRoom at hf
  refine lv_iload_n hx hb dFR_hasRoom_0 rfl (lv_at hl 1 rfl) ?_
  refine lv_ldc (v := 65536) hx hb hown (hts _ tw_321) dFR_hasRoom_1 ?_
  refine lv_aload_n hx hb dFR_hasRoom_3 rfl (lv_at hl 0 rfl) ?_
  refine va_get (D := (dC, dI)) (ci := 1) (v := .int k_size) (C := RFR) (T := TFR) (N := 3) hx hb hts hi_FR hown hK hP 0 rfl rfl 1 (by decide) (hts _ tw_118) (fun _ h9 => h9) rfl dFR_hasRoom_4 ?_
  refine lv_isub hx hb dFR_hasRoom_7 ?_
  refine lv_icmp_gt (tgt := 15) hx hb dFR_hasRoom_8 (by decide) (fun c_1 => ?_) (fun c_1 => ?_)
  · have hf := ifT hf c_1
    refine lv_iconst (v := 0) hx hb dFR_hasRoom_15 (by decide) ?_
    cases hf
    exact ro_ret hx hb hr rfl dFR_hasRoom_16 hlocks
  · have hf := ifF hf c_1
    refine lv_iconst (v := 1) hx hb dFR_hasRoom_11 (by decide) ?_
    refine lv_goto (tgt := 16) hx hb dFR_hasRoom_12 (by decide) ?_
    cases hf
    exact ro_ret hx hb hr rfl dFR_hasRoom_16 hlocks
abbrev wsFF_comes : List Cond := Cond.code yFF_comes cFF_comes 3 (some .int) :: tt
set_option maxHeartbeats 4000000 in
set_option maxRecDepth 100000 in
theorem cc_FF_comes (l : Launch) (dC : Nat → ClassId) (dI : Nat → Nat → Nat) (cI cZ cL cB : ClassId) (q q_draft q_table q_tally q_finder q_row q_tally_numbers : Nat) (sz : Nat) (k_tally_total : Int32) (k_tally_numbers : Nat → Int32) (a_0 : Int32) (a_1 : Int32) (r : Int32) (o_tally_total : Int32) (o_tally_numbers : Nat → Int32) (hf : f_FF_comes k_tally_total k_tally_numbers a_0 a_1 = some (.inr (r, o_tally_total, o_tally_numbers))) : Met l yFF_comes wsFF_comes ({ frames := 1, cells := 0, slots := 0, locals := 22 }) (va_Pc [.ref q, .int a_0, .int a_1] (kz_P dC dI cI cZ cL cB sz (w_FF_comes cI cZ cL cB q q_draft q_table q_tally q_finder q_row q_tally_numbers k_tally_total k_tally_numbers))) (va_Qi (fun (r' : Int32) (_ : Unit) => r' = r) (fun _ t => va_P (dC, dI) vwCl (w_FF_comes cI cZ cL cB q q_draft q_table q_tally q_finder q_row q_tally_numbers o_tally_total o_tally_numbers) t.heap ∧ va_D (va_A (w_FF_comes cI cZ cL cB q q_draft q_table q_tally q_finder q_row q_tally_numbers k_tally_total k_tally_numbers) sz) (w_FF_comes cI cZ cL cB q q_draft q_table q_tally q_finder q_row q_tally_numbers o_tally_total o_tally_numbers)) (va_A (w_FF_comes cI cZ cL cB q q_draft q_table q_tally q_finder q_row q_tally_numbers k_tally_total k_tally_numbers) sz)) 0 0 (va_A (w_FF_comes cI cZ cL cB q q_draft q_table q_tally q_finder q_row q_tally_numbers k_tally_total k_tally_numbers) sz) := by
  refine Met.ofW (cc := cFF_comes) (maxL := 3) (ret := (some .int)) (by decide) rfl ?_
  intro p e s m args below meth c s₁ B hml hv
  obtain ⟨rfl, hsz, hP, hZ, hD0⟩ := hv
  have hK := hZ.1
  have hx := B.exec
  have hb := B.bytes
  have hr := B.returns
  have hts : ∀ w ∈ tt, w.before _ s = true := fun w h => atoms_spec (ws := wsFF_comes) B.pre w (List.mem_cons_of_mem _ h)
  have hown : s.vm.findClass RFF = some m.cls := findClass_of_methodNamed B.named
  have hlocks := B.notSynchronized
  subst hsz
  have hD := hD0.self (sz := s.heap.size)
  generalize hAe : va_A (w_FF_comes cI cZ cL cB q q_draft q_table q_tally q_finder q_row q_tally_numbers k_tally_total k_tally_numbers) s.heap.size = A at hD ⊢
  have hA : ∀ q : Nat, s.heap.size ≤ q → A q := fun q h => by rw [← hAe]; exact Or.inr h
  have hS : va_S A s.heap s.heap [] := va_S.rf
  have hl := lv_entry [.ref q, .int a_0, .int a_1] (n := 3) (Nat.le_of_ble_eq_true rfl)
  rw [lg_entry_eq]
  generalize (lg_sl [.ref q, .int a_0, .int a_1] ++ List.replicate (3 - (lg_sl [.ref q, .int a_0, .int a_1]).length) Slot.unset).toArray = ls at hl ⊢
  have hl : lv_has ls 3 [(0, .ref q), (1, .int a_0), (2, .int a_1)] := hl
  unfold f_FF_comes at hf
  refine lv_iload_n hx hb dFF_comes_0 rfl (lv_at hl 1 rfl) ?_
  obtain ⟨r1, h2, hf⟩ := bd1_some hf
  have hPc := hP.sub (ws' := (w_FF_isSymbol cI cZ cL cB )) [] rfl
  have hDc := hD.sub (ws' := (w_FF_isSymbol cI cZ cL cB )) [] (by decide) rfl
  refine ax_calli (wr := [(q, .inr (5, [.ref q_draft, .ref q_table, .ref q_tally, .ref q_finder, .ref q_row])), (q_tally, .inr (4, [.ref q_tally_numbers, .int k_tally_total])), (q_tally_numbers, .inl (cI, 256, .inl k_tally_numbers))]) (w2 := (w_FF_comes cI cZ cL cB q q_draft q_table q_tally q_finder q_row q_tally_numbers k_tally_total k_tally_numbers)) (va_runS (As := [.int a_0]) (rest := []) ⟨hx, hb, hml, hown, hts⟩ (cc_FF_isSymbol l dC dI cI cZ cL cB  s.heap.size a_0 r1 h2) (va_cwS 1 hts (tt_S tw_146 tw_147 tw_21 tw_148) rfl rfl rfl (by decide +kernel) ⟨Nat.le_of_ble_eq_true rfl, Nat.le_of_ble_eq_true rfl⟩) ⟨kz_fb, kz_pre hPc hZ hDc⟩ rfl rfl hl.1 rfl (lv_room (Nat.le_of_ble_eq_true rfl)) dFF_comes_1 ⟨Nat.zero_le _, Nat.zero_le _⟩) hP hD hS hA [] [0, 1, 2] [0, 1, 2] rfl rfl (by decide) (by decide) rfl (by decide) (fun H locs hP hD hS => ?_)
  refine lv_if_ne (tgt := 17) hx hb dFF_comes_4 (by decide) (fun c_3 => ?_) (fun c_3 => ?_)
  · have hf := ifF hf c_3
    refine lv_iload_n hx hb dFF_comes_17 rfl (lv_at hl 2 rfl) ?_
    refine lv_if_ge (tgt := 31) hx hb dFF_comes_18 (by decide) (fun c_4 => ?_) (fun c_4 => ?_)
    · have hf := ifT hf c_4
      refine lv_iload_n hx hb dFF_comes_31 rfl (lv_at hl 2 rfl) ?_
      refine lv_ldc (v := 1000000) hx hb hown (hts _ tw_305) dFF_comes_32 ?_
      refine lv_aload_n hx hb dFF_comes_34 rfl (lv_at hl 0 rfl) ?_
      refine va_get (D := (dC, dI)) (ci := 5) (v := .ref q_tally) (C := RFF) (T := TFF) (N := 5) hx hb hts hi_FF hown hK hP 0 rfl rfl 2 (by decide) (hts _ tw_127) (fun _ h9 => h9) rfl dFF_comes_35 ?_
      refine va_get (D := (dC, dI)) (ci := 4) (v := .int k_tally_total) (C := RFY) (T := TFY) (N := 2) hx hb hts hi_FY hown hK hP 1 rfl rfl 1 (by decide) (hts _ tw_84) (fun _ h9 => h9) rfl dFF_comes_38 ?_
      refine lv_isub hx hb dFF_comes_41 ?_
      refine lv_icmp_le (tgt := 55) hx hb dFF_comes_42 (by decide) (fun c_5 => ?_) (fun c_5 => ?_)
      · have hf := ifT hf c_5
        refine lv_aload_n hx hb dFF_comes_55 rfl (lv_at hl 0 rfl) ?_
        refine va_get (D := (dC, dI)) (ci := 5) (v := .ref q_tally) (C := RFF) (T := TFF) (N := 5) hx hb hts hi_FF hown hK hP 0 rfl rfl 2 (by decide) (hts _ tw_127) (fun _ h9 => h9) rfl dFF_comes_56 ?_
        refine lv_iload_n hx hb dFF_comes_59 rfl (lv_at hl 1 rfl) ?_
        refine lv_iload_n hx hb dFF_comes_60 rfl (lv_at hl 2 rfl) ?_
        obtain ⟨o6, o7, h8, hf⟩ := bd2_some hf
        have hPc := hP.sub (ws' := (w_FY_add cI cZ cL cB q_tally q_tally_numbers k_tally_total k_tally_numbers)) [1, 2] rfl
        have hDc := hD.sub (ws' := (w_FY_add cI cZ cL cB q_tally q_tally_numbers k_tally_total k_tally_numbers)) [1, 2] (by decide) rfl
        refine ax_callv (wr := [(q, .inr (5, [.ref q_draft, .ref q_table, .ref q_tally, .ref q_finder, .ref q_row]))]) (w2 := (w_FF_comes cI cZ cL cB q q_draft q_table q_tally q_finder q_row q_tally_numbers o6 o7)) (va_runV (As := [.int a_0, .int a_1]) (rest := []) ⟨hx, hb, hml, hown, hts⟩ (cc_FY_add l dC dI cI cZ cL cB q_tally q_tally_numbers H.size k_tally_total k_tally_numbers a_0 a_1 o6 o7 h8) (cwV 2 hts (tt_V tw_306 tw_307 tw_308 tw_24 tw_309) rfl rfl rfl (by decide +kernel) ⟨Nat.le_of_ble_eq_true rfl, Nat.le_of_ble_eq_true rfl⟩) ⟨kz_fb, va_recv hK hPc (ci := 4) (q0 := 0) rfl rfl, kz_pre hPc hZ hDc⟩ rfl rfl hl.1 rfl (lv_room (Nat.le_of_ble_eq_true rfl)) dFF_comes_61 ⟨Nat.zero_le _, Nat.zero_le _⟩) hP hD hS hA [1, 2] [0] [0, 1, 2] rfl rfl (by decide) (by decide) rfl (by decide) (fun H locs hP hD hS => ?_)
        refine lv_aload_n hx hb dFF_comes_64 rfl (lv_at hl 0 rfl) ?_
        refine va_get (D := (dC, dI)) (ci := 5) (v := .ref q_tally) (C := RFF) (T := TFF) (N := 5) hx hb hts hi_FF hown hK hP 0 rfl rfl 2 (by decide) (hts _ tw_127) (fun _ h9 => h9) rfl dFF_comes_65 ?_
        refine va_get (D := (dC, dI)) (ci := 4) (v := .ref q_tally_numbers) (C := RFY) (T := TFY) (N := 2) hx hb hts hi_FY hown hK hP 1 rfl rfl 0 (by decide) (hts _ tw_82) (fun _ h9 => h9) rfl dFF_comes_68 ?_
        refine lv_iload_n hx hb dFF_comes_71 rfl (lv_at hl 1 rfl) ?_
        obtain ⟨v9, ev9, h10, hf⟩ := rd_some hf
        refine ax_iald hx hb hK hP 2 0 rfl rfl h10 ev9 dFF_comes_72 ?_
        cases hf
        exact ax_iret hx hb hr hP hD hS dFF_comes_73 hlocks
      · have hf := ifF hf c_5
        cases hf
    · have hf := ifF hf c_4
      cases hf
  · have hf := ifT hf c_3
    cases hf
set_option maxHeartbeats 4000000 in
set_option maxRecDepth 100000 in
theorem cx_FF_comes (l : Launch) (hst : l.stackTraces = false) (dC : Nat → ClassId) (dI : Nat → Nat → Nat) (cI cZ cL cB : ClassId) (q q_draft q_table q_tally q_finder q_row q_tally_numbers : Nat) (sz : Nat) (k_tally_total : Int32) (k_tally_numbers : Nat → Int32) (a_0 : Int32) (a_1 : Int32) (k : Nat) (hf : f_FF_comes k_tally_total k_tally_numbers a_0 a_1 = some (.inl k)) : XMet l yFF_comes wsFF_comes ({ frames := 6, cells := 1, slots := 6, locals := 82 }) (va_Pc [.ref q, .int a_0, .int a_1] (kx_P dC dI cI cZ cL cB sz (w_FF_comes cI cZ cL cB q q_draft q_table q_tally q_finder q_row q_tally_numbers k_tally_total k_tally_numbers))) (XC (dC, dI) (w_FF_comes cI cZ cL cB q q_draft q_table q_tally q_finder q_row q_tally_numbers k_tally_total k_tally_numbers) (va_A (w_FF_comes cI cZ cL cB q q_draft q_table q_tally q_finder q_row q_tally_numbers k_tally_total k_tally_numbers) sz) k) 1 6 (va_A (w_FF_comes cI cZ cL cB q q_draft q_table q_tally q_finder q_row q_tally_numbers k_tally_total k_tally_numbers) sz) := by
  refine XMet.ofW (cc := cFF_comes) (maxL := 3) (ret := (some .int)) (by decide) rfl ?_
  intro p e s m args below meth c s₁ B hml hout hv
  obtain ⟨rfl, ⟨hsz, hP, hZ, hD0⟩, hX⟩ := hv
  have hK := hZ.1
  have hx := B.exec
  have hb := B.bytes
  have hr := B.returns
  have hts : ∀ w ∈ tt, w.before _ s = true := fun w h => atoms_spec (ws := wsFF_comes) B.pre w (List.mem_cons_of_mem _ h)
  have hown : s.vm.findClass RFF = some m.cls := findClass_of_methodNamed B.named
  have hlocks := B.notSynchronized
  subst hsz
  have hD := hD0.self (sz := s.heap.size)
  generalize hAe : va_A (w_FF_comes cI cZ cL cB q q_draft q_table q_tally q_finder q_row q_tally_numbers k_tally_total k_tally_numbers) s.heap.size = A at hD ⊢
  have hl := lv_entry [.ref q, .int a_0, .int a_1] (n := 3) (Nat.le_of_ble_eq_true rfl)
  rw [lg_entry_eq]
  generalize (lg_sl [.ref q, .int a_0, .int a_1] ++ List.replicate (3 - (lg_sl [.ref q, .int a_0, .int a_1]).length) Slot.unset).toArray = ls at hl ⊢
  have hl : lv_has ls 3 [(0, .ref q), (1, .int a_0), (2, .int a_1)] := hl
  unfold f_FF_comes at hf
  refine lv_iload_n hx hb dFF_comes_0 rfl (lv_at hl 1 rfl) ?_
  obtain ⟨r1, h2, hf⟩ := bd1_some hf
  have hPc := hP.sub (ws' := (w_FF_isSymbol cI cZ cL cB )) [] rfl
  refine ro_call (va_runS (As := [.int a_0]) (rest := []) ⟨hx, hb, hml, hown, hts⟩ (cr_FF_isSymbol l dC dI cI cZ cL cB  a_0 r1 h2) (va_cwS 1 hts (tt_S tw_146 tw_147 tw_21 tw_148) rfl rfl rfl (by decide +kernel) ⟨Nat.le_of_ble_eq_true rfl, Nat.le_of_ble_eq_true rfl⟩) ⟨kzr_fb, kzr_pre hPc hZ⟩ rfl rfl hl.1 rfl (lv_room (Nat.le_of_ble_eq_true rfl)) dFF_comes_1 ⟨Nat.zero_le _, Nat.zero_le _⟩) ?_
  refine lv_if_ne (tgt := 17) hx hb dFF_comes_4 (by decide) (fun c_3 => ?_) (fun c_3 => ?_)
  · have hf := ifF hf c_3
    refine lv_iload_n hx hb dFF_comes_17 rfl (lv_at hl 2 rfl) ?_
    refine lv_if_ge (tgt := 31) hx hb dFF_comes_18 (by decide) (fun c_4 => ?_) (fun c_4 => ?_)
    · have hf := ifT hf c_4
      refine lv_iload_n hx hb dFF_comes_31 rfl (lv_at hl 2 rfl) ?_
      refine lv_ldc (v := 1000000) hx hb hown (hts _ tw_305) dFF_comes_32 ?_
      refine lv_aload_n hx hb dFF_comes_34 rfl (lv_at hl 0 rfl) ?_
      refine va_get (D := (dC, dI)) (ci := 5) (v := .ref q_tally) (C := RFF) (T := TFF) (N := 5) hx hb hts hi_FF hown hK hP 0 rfl rfl 2 (by decide) (hts _ tw_127) (fun _ h9 => h9) rfl dFF_comes_35 ?_
      refine va_get (D := (dC, dI)) (ci := 4) (v := .int k_tally_total) (C := RFY) (T := TFY) (N := 2) hx hb hts hi_FY hown hK hP 1 rfl rfl 1 (by decide) (hts _ tw_84) (fun _ h9 => h9) rfl dFF_comes_38 ?_
      refine lv_isub hx hb dFF_comes_41 ?_
      refine lv_icmp_le (tgt := 55) hx hb dFF_comes_42 (by decide) (fun c_5 => ?_) (fun c_5 => ?_)
      · have hf := ifT hf c_5
        exfalso
        obtain ⟨o6, o7, h8, hf⟩ := bd2_some hf
        obtain ⟨v9, ev9, h10, hf⟩ := rd_some hf
        cases hf
      · have hf := ifF hf c_5
        cases hf
        exact xt_thrS hx hb hst hown hX (List.mem_of_getElem? (i := 2) rfl) hP hD (hl.1.trans hml.symm) dFF_comes_45 dFF_comes_48 dFF_comes_49 dFF_comes_51 dFF_comes_54 hout (Nat.le_of_ble_eq_true rfl) (Nat.le_of_ble_eq_true rfl) (Nat.le_of_ble_eq_true rfl) (Nat.le_of_ble_eq_true rfl) hlocks
    · have hf := ifF hf c_4
      cases hf
      exact xt_thrA hx hb hst hown hX (List.mem_of_getElem? (i := 1) rfl) hP hD (hl.1.trans hml.symm) dFF_comes_21 dFF_comes_24 dFF_comes_25 dFF_comes_27 dFF_comes_30 hout (Nat.le_of_ble_eq_true rfl) (Nat.le_of_ble_eq_true rfl) (Nat.le_of_ble_eq_true rfl) (Nat.le_of_ble_eq_true rfl) hlocks
  · have hf := ifT hf c_3
    cases hf
    exact xt_thrA hx hb hst hown hX (List.mem_of_getElem? (i := 0) rfl) hP hD (hl.1.trans hml.symm) dFF_comes_7 dFF_comes_10 dFF_comes_11 dFF_comes_13 dFF_comes_16 hout (Nat.le_of_ble_eq_true rfl) (Nat.le_of_ble_eq_true rfl) (Nat.le_of_ble_eq_true rfl) (Nat.le_of_ble_eq_true rfl) hlocks
abbrev wsLL_comes : List Cond := Cond.codeWith yLL_comes cLL_comes 5 (some .int) [(0, 10, 13, 13), (0, 10, 17, 15)] :: tt
set_option maxHeartbeats 4000000 in
set_option maxRecDepth 100000 in
theorem cc_LL_comes (l : Launch) (hst : l.stackTraces = false) (dC : Nat → ClassId) (dI : Nat → Nat → Nat) (cI cZ cL cB : ClassId) (q_p0 q_p0_draft q_p0_table q_p0_tally q_p0_finder q_p0_row q_p0_tally_numbers q_p3 : Nat) (sz : Nat) (k_p0_tally_total : Int32) (k_p0_tally_numbers : Nat → Int32) (n_p3 : Nat) (k_p3 : Nat → Int64) (a_1 : Int32) (a_2 : Int32) (r : Int32) (o_p0_tally_total : Int32) (o_p0_tally_numbers : Nat → Int32) (o_p3 : Nat → Int64) (hf : f_LL_comes k_p0_tally_total k_p0_tally_numbers n_p3 k_p3 a_1 a_2 = some (r, o_p0_tally_total, o_p0_tally_numbers, o_p3)) : Met l yLL_comes wsLL_comes ({ frames := 7, cells := 1, slots := 6, locals := 104 }) (va_Pc [.ref q_p0, .int a_1, .int a_2, .ref q_p3] (kx_P dC dI cI cZ cL cB sz (w_LL_comes cI cZ cL cB q_p0 q_p0_draft q_p0_table q_p0_tally q_p0_finder q_p0_row q_p0_tally_numbers q_p3 k_p0_tally_total k_p0_tally_numbers n_p3 k_p3))) (va_Qi (fun (r' : Int32) (_ : Unit) => r' = r) (fun _ t => va_P (dC, dI) vwCl (w_LL_comes cI cZ cL cB q_p0 q_p0_draft q_p0_table q_p0_tally q_p0_finder q_p0_row q_p0_tally_numbers q_p3 o_p0_tally_total o_p0_tally_numbers n_p3 o_p3) t.heap ∧ va_D (va_A (w_LL_comes cI cZ cL cB q_p0 q_p0_draft q_p0_table q_p0_tally q_p0_finder q_p0_row q_p0_tally_numbers q_p3 k_p0_tally_total k_p0_tally_numbers n_p3 k_p3) sz) (w_LL_comes cI cZ cL cB q_p0 q_p0_draft q_p0_table q_p0_tally q_p0_finder q_p0_row q_p0_tally_numbers q_p3 o_p0_tally_total o_p0_tally_numbers n_p3 o_p3)) (va_A (w_LL_comes cI cZ cL cB q_p0 q_p0_draft q_p0_table q_p0_tally q_p0_finder q_p0_row q_p0_tally_numbers q_p3 k_p0_tally_total k_p0_tally_numbers n_p3 k_p3) sz)) 1 6 (va_A (w_LL_comes cI cZ cL cB q_p0 q_p0_draft q_p0_table q_p0_tally q_p0_finder q_p0_row q_p0_tally_numbers q_p3 k_p0_tally_total k_p0_tally_numbers n_p3 k_p3) sz) := by
  refine va_MetW (hh := [(0, 10, 13, 13), (0, 10, 17, 15)]) (cc := cLL_comes) (maxL := 5) (ret := (some .int)) (by decide) rfl ?_
  intro p e s m args below meth c s₁ B hml hv
  obtain ⟨rfl, ⟨hsz, hP, hZ, hD0⟩, hX⟩ := hv
  have hK := hZ.1
  have hx := B.exec
  have hb := B.bytes
  have hr := B.returns
  have hts : ∀ w ∈ tt, w.before _ s = true := fun w h => atoms_spec (ws := wsLL_comes) B.pre w (List.mem_cons_of_mem _ h)
  have hown : s.vm.findClass RLL = some m.cls := findClass_of_methodNamed B.named
  have hlocks := B.notSynchronized
  subst hsz
  have hD := hD0.self (sz := s.heap.size)
  generalize hAe : va_A (w_LL_comes cI cZ cL cB q_p0 q_p0_draft q_p0_table q_p0_tally q_p0_finder q_p0_row q_p0_tally_numbers q_p3 k_p0_tally_total k_p0_tally_numbers n_p3 k_p3) s.heap.size = A at hD ⊢
  have hA : ∀ q : Nat, s.heap.size ≤ q → A q := fun q h => by rw [← hAe]; exact Or.inr h
  have hS : va_S A s.heap s.heap [] := va_S.rf
  have hl := lv_entry [.ref q_p0, .int a_1, .int a_2, .ref q_p3] (n := 5) (Nat.le_of_ble_eq_true rfl)
  rw [lg_entry_eq]
  generalize (lg_sl [.ref q_p0, .int a_1, .int a_2, .ref q_p3] ++ List.replicate (5 - (lg_sl [.ref q_p0, .int a_1, .int a_2, .ref q_p3]).length) Slot.unset).toArray = ls at hl ⊢
  have hl : lv_has ls 5 [(0, .ref q_p0), (1, .int a_1), (2, .int a_2), (3, .ref q_p3)] := hl
  obtain ⟨x1, x2, htb, e1, e2⟩ := xt_rows (xt_table (y := yLL_comes) B (atoms_spec (ws := wsLL_comes) B.pre _ List.mem_cons_self))
  simp only [Prod.mk.injEq] at e1 e2
  obtain ⟨ea1, eb1, ec1, ed1⟩ := e1
  obtain ⟨ea2, eb2, ec2, ed2⟩ := e2
  unfold f_LL_comes at hf
  refine lv_aload_n hx hb dLL_comes_0 rfl (lv_at hl 3 rfl) ?_
  refine lv_iconst (v := 0) hx hb dLL_comes_1 (by decide) ?_
  refine lv_aload_n hx hb dLL_comes_2 rfl (lv_at hl 0 rfl) ?_
  refine lv_iload_n hx hb dLL_comes_3 rfl (lv_at hl 1 rfl) ?_
  refine lv_iload_n hx hb dLL_comes_4 rfl (lv_at hl 2 rfl) ?_
  have hPc := hP.sub (ws' := (w_FF_comes cI cZ cL cB q_p0 q_p0_draft q_p0_table q_p0_tally q_p0_finder q_p0_row q_p0_tally_numbers k_p0_tally_total k_p0_tally_numbers)) [0, 1, 2] rfl
  have hDc := hD.sub (ws' := (w_FF_comes cI cZ cL cB q_p0 q_p0_draft q_p0_table q_p0_tally q_p0_finder q_p0_row q_p0_tally_numbers k_p0_tally_total k_p0_tally_numbers)) [0, 1, 2] (by decide) rfl
  rcases bx3_some hf with ⟨kx5, hk6, hf⟩ | ⟨r1, o2, o3, h4, hf⟩
  · refine xt_callV (As := [.int a_1, .int a_2]) (rest := [.int 0, .ref q_p3]) ⟨hx, hb, hml, hown, hts⟩ (cx_FF_comes l hst dC dI cI cZ cL cB q_p0 q_p0_draft q_p0_table q_p0_tally q_p0_finder q_p0_row q_p0_tally_numbers s.heap.size k_p0_tally_total k_p0_tally_numbers a_1 a_2 kx5 hk6) (cwV 2 hts (tt_V tw_300 tw_301 tw_302 tw_21 tw_303) rfl rfl rfl (by decide +kernel) ⟨Nat.le_of_ble_eq_true rfl, Nat.le_of_ble_eq_true rfl⟩) ⟨kx_fb, va_recv hK hPc (ci := 5) (q0 := 0) rfl rfl, kx_pre hPc hZ hDc hX (fun _ _ => rfl)⟩ rfl rfl hl.1 rfl (lv_room (Nat.le_of_ble_eq_true rfl)) dLL_comes_5 ⟨Nat.le_of_ble_eq_true rfl, Nat.le_of_ble_eq_true rfl⟩ (fun qx st₀ t L h0 hal0 hal hL hxc => ?_)
    obtain ⟨⟨ce, hce, hcv, hcl⟩, hP, hD, hS⟩ := xt_after (wr := [(q_p3, .inl (cL, n_p3, .inr (.inl k_p3)))]) h0 hal0 hL hxc hP hD hS hA [0, 1, 2] [3] [1, 2, 3, 0] rfl rfl (by decide) (by decide) rfl (by decide)
    by_cases hk1 : kx5 = 1
    · have hf := ifT hf hk1
      have hcl : s.vm.findClass xIA = some ce.cls := by rw [xcls, if_pos hk1] at hcl; exact hcl
      refine xt_catch1 (own := RLL) (E := xIA) (n1 := xIA) hown htb (by simp [covers, ea1, eb1]) (by rw [ed1]; decide) (by rw [ed1]; exact hts _ tw_298) (xs_args xwA_ok hX.1 _ (xwA_has _ (List.mem_cons_of_mem _ List.mem_cons_self))) hce hcv hcl ?_
      rw [ec1]
      refine lv_astore (lv' := [(4, .ref qx), (0, .ref q_p0), (1, .int a_1), (2, .int a_2), (3, .ref q_p3)]) hx hb dLL_comes_13 hl (by decide) rfl (fun ls hl => ?_)
      refine lv_iconst (v := 1) hx hb dLL_comes_15 (by decide) ?_
      cases hf
      refine W.widen (k := 1) (n := 6) (by decide) (by decide) ?_
      exact ax_iret hx hb hr hP hD hS dLL_comes_16 hlocks
    · have hf := ifF hf hk1
      have hcl : s.vm.findClass xIS = some ce.cls := by rw [xcls, if_neg hk1] at hcl; exact hcl
      refine xt_catch2 (own := RLL) (E := xIS) (n1 := xIA) (n2 := xIS) hown htb (by simp [covers, ea1, eb1]) (by rw [ed1]; decide) (by simp [covers, ea2, eb2]) (by rw [ed2]; decide) (by rw [ed1]; exact hts _ tw_298) hX.2.2.2 (by rw [ed2]; exact hts _ tw_299) (xs_args xwS_ok hX.2.1 _ (xwS_has _ (List.mem_cons_of_mem _ List.mem_cons_self))) hce hcv hcl ?_
      rw [ec2]
      refine lv_astore (lv' := [(4, .ref qx), (0, .ref q_p0), (1, .int a_1), (2, .int a_2), (3, .ref q_p3)]) hx hb dLL_comes_17 hl (by decide) rfl (fun ls hl => ?_)
      refine lv_iconst (v := 2) hx hb dLL_comes_19 (by decide) ?_
      cases hf
      refine W.widen (k := 1) (n := 6) (by decide) (by decide) ?_
      exact ax_iret hx hb hr hP hD hS dLL_comes_20 hlocks
  · refine ax_calli (wr := [(q_p3, .inl (cL, n_p3, .inr (.inl k_p3)))]) (w2 := (w_LL_comes cI cZ cL cB q_p0 q_p0_draft q_p0_table q_p0_tally q_p0_finder q_p0_row q_p0_tally_numbers q_p3 o2 o3 n_p3 k_p3)) (va_runV (As := [.int a_1, .int a_2]) (rest := [.int 0, .ref q_p3]) ⟨hx, hb, hml, hown, hts⟩ (cc_FF_comes l dC dI cI cZ cL cB q_p0 q_p0_draft q_p0_table q_p0_tally q_p0_finder q_p0_row q_p0_tally_numbers s.heap.size k_p0_tally_total k_p0_tally_numbers a_1 a_2 r1 o2 o3 h4) (cwV 2 hts (tt_V tw_300 tw_301 tw_302 tw_21 tw_303) rfl rfl rfl (by decide +kernel) ⟨Nat.le_of_ble_eq_true rfl, Nat.le_of_ble_eq_true rfl⟩) ⟨kz_fb, va_recv hK hPc (ci := 5) (q0 := 0) rfl rfl, kz_pre hPc hZ hDc⟩ rfl rfl hl.1 rfl (lv_room (Nat.le_of_ble_eq_true rfl)) dLL_comes_5 ⟨Nat.zero_le _, Nat.zero_le _⟩) hP hD hS hA [0, 1, 2] [3] [1, 2, 3, 0] rfl rfl (by decide) (by decide) rfl (by decide) (fun H locs hP hD hS => ?_)
    refine lv_i2l (v := r1.toInt64) hx hb dLL_comes_8 rfl ?_
    obtain ⟨g7, eg7, h8, hf⟩ := wrL_some hf
    refine ax_last hx hb hK hP hD hS 3 2 rfl rfl h8 eg7 dLL_comes_9 (ws' := (w_LL_comes cI cZ cL cB q_p0 q_p0_draft q_p0_table q_p0_tally q_p0_finder q_p0_row q_p0_tally_numbers q_p3 o2 o3 n_p3 g7)) rfl (fun H locs hP hD hS => ?_)
    refine lv_goto (tgt := 21) hx hb dLL_comes_10 (by decide) ?_
    refine lv_iconst (v := 0) hx hb dLL_comes_21 (by decide) ?_
    cases hf
    refine W.widen (k := 1) (n := 6) (by decide) (by decide) ?_
    exact ax_iret hx hb hr hP hD hS dLL_comes_22 hlocks
abbrev wsFF_put : List Cond := Cond.code yFF_put cFF_put 2 (some .int) :: tt
set_option maxHeartbeats 4000000 in
set_option maxRecDepth 100000 in
theorem cc_FF_put (l : Launch) (dC : Nat → ClassId) (dI : Nat → Nat → Nat) (cI cZ cL cB : ClassId) (q q_draft q_table q_tally q_finder q_row q_table_counts q_table_symbols q_table_lengths q_table_codes q_row_cells : Nat) (sz : Nat) (k_table_size : Int32) (k_table_lengths : Nat → Int32) (k_row_size : Int32) (k_row_place : Int32) (k_table_codes : Nat → Int32) (k_row_cells : Nat → Int32) (a_0 : Int32) (r : Int32) (o_row_size : Int32) (o_row_cells : Nat → Int32) (hf : f_FF_put k_table_size k_table_lengths k_row_size k_row_place k_table_codes k_row_cells a_0 = some (.inr (r, o_row_size, o_row_cells))) : Met l yFF_put wsFF_put ({ frames := 2, cells := 0, slots := 0, locals := 41 }) (va_Pc [.ref q, .int a_0] (kz_P dC dI cI cZ cL cB sz (w_FF_put cI cZ cL cB q q_draft q_table q_tally q_finder q_row q_table_counts q_table_symbols q_table_lengths q_table_codes q_row_cells k_table_size k_table_lengths k_row_size k_row_place k_table_codes k_row_cells))) (va_Qi (fun (r' : Int32) (_ : Unit) => r' = r) (fun _ t => va_P (dC, dI) vwCl (w_FF_put cI cZ cL cB q q_draft q_table q_tally q_finder q_row q_table_counts q_table_symbols q_table_lengths q_table_codes q_row_cells k_table_size k_table_lengths o_row_size k_row_place k_table_codes o_row_cells) t.heap ∧ va_D (va_A (w_FF_put cI cZ cL cB q q_draft q_table q_tally q_finder q_row q_table_counts q_table_symbols q_table_lengths q_table_codes q_row_cells k_table_size k_table_lengths k_row_size k_row_place k_table_codes k_row_cells) sz) (w_FF_put cI cZ cL cB q q_draft q_table q_tally q_finder q_row q_table_counts q_table_symbols q_table_lengths q_table_codes q_row_cells k_table_size k_table_lengths o_row_size k_row_place k_table_codes o_row_cells)) (va_A (w_FF_put cI cZ cL cB q q_draft q_table q_tally q_finder q_row q_table_counts q_table_symbols q_table_lengths q_table_codes q_row_cells k_table_size k_table_lengths k_row_size k_row_place k_table_codes k_row_cells) sz)) 0 0 (va_A (w_FF_put cI cZ cL cB q q_draft q_table q_tally q_finder q_row q_table_counts q_table_symbols q_table_lengths q_table_codes q_row_cells k_table_size k_table_lengths k_row_size k_row_place k_table_codes k_row_cells) sz) := by
  refine Met.ofW (cc := cFF_put) (maxL := 2) (ret := (some .int)) (by decide) rfl ?_
  intro p e s m args below meth c s₁ B hml hv
  obtain ⟨rfl, hsz, hP, hZ, hD0⟩ := hv
  have hK := hZ.1
  have hx := B.exec
  have hb := B.bytes
  have hr := B.returns
  have hts : ∀ w ∈ tt, w.before _ s = true := fun w h => atoms_spec (ws := wsFF_put) B.pre w (List.mem_cons_of_mem _ h)
  have hown : s.vm.findClass RFF = some m.cls := findClass_of_methodNamed B.named
  have hlocks := B.notSynchronized
  subst hsz
  have hD := hD0.self (sz := s.heap.size)
  generalize hAe : va_A (w_FF_put cI cZ cL cB q q_draft q_table q_tally q_finder q_row q_table_counts q_table_symbols q_table_lengths q_table_codes q_row_cells k_table_size k_table_lengths k_row_size k_row_place k_table_codes k_row_cells) s.heap.size = A at hD ⊢
  have hA : ∀ q : Nat, s.heap.size ≤ q → A q := fun q h => by rw [← hAe]; exact Or.inr h
  have hS : va_S A s.heap s.heap [] := va_S.rf
  have hl := lv_entry [.ref q, .int a_0] (n := 2) (Nat.le_of_ble_eq_true rfl)
  rw [lg_entry_eq]
  generalize (lg_sl [.ref q, .int a_0] ++ List.replicate (2 - (lg_sl [.ref q, .int a_0]).length) Slot.unset).toArray = ls at hl ⊢
  have hl : lv_has ls 2 [(0, .ref q), (1, .int a_0)] := hl
  unfold f_FF_put at hf
  refine lv_aload_n hx hb dFF_put_0 rfl (lv_at hl 0 rfl) ?_
  refine va_get (D := (dC, dI)) (ci := 5) (v := .ref q_table) (C := RFF) (T := TFF) (N := 5) hx hb hts hi_FF hown hK hP 0 rfl rfl 1 (by decide) (hts _ tw_126) (fun _ h9 => h9) rfl dFF_put_1 ?_
  refine lv_iload_n hx hb dFF_put_4 rfl (lv_at hl 1 rfl) ?_
  obtain ⟨r1, h2, hf⟩ := bd1_some hf
  have hPc := hP.sub (ws' := (w_FT_hasWord cI cZ cL cB q_table q_table_counts q_table_symbols q_table_lengths q_table_codes k_table_size k_table_lengths)) [1, 2] rfl
  have hDc := hD.sub (ws' := (w_FT_hasWord cI cZ cL cB q_table q_table_counts q_table_symbols q_table_lengths q_table_codes k_table_size k_table_lengths)) [1, 2] (by decide) rfl
  refine ax_calli (wr := [(q, .inr (5, [.ref q_draft, .ref q_table, .ref q_tally, .ref q_finder, .ref q_row])), (q_row, .inr (1, [.ref q_row_cells, .int k_row_size, .int k_row_place])), (q_table_codes, .inl (cI, 256, .inl k_table_codes)), (q_row_cells, .inl (cI, 2048, .inl k_row_cells))]) (w2 := (w_FF_put cI cZ cL cB q q_draft q_table q_tally q_finder q_row q_table_counts q_table_symbols q_table_lengths q_table_codes q_row_cells k_table_size k_table_lengths k_row_size k_row_place k_table_codes k_row_cells)) (va_runV (As := [.int a_0]) (rest := []) ⟨hx, hb, hml, hown, hts⟩ (cc_FT_hasWord l dC dI cI cZ cL cB q_table q_table_counts q_table_symbols q_table_lengths q_table_codes s.heap.size k_table_size k_table_lengths a_0 r1 h2) (cwV 1 hts (tt_V tw_243 tw_244 tw_245 tw_23 tw_246) rfl rfl rfl (by decide +kernel) ⟨Nat.le_of_ble_eq_true rfl, Nat.le_of_ble_eq_true rfl⟩) ⟨kz_fb, va_recv hK hPc (ci := 3) (q0 := 0) rfl rfl, kz_pre hPc hZ hDc⟩ rfl rfl hl.1 rfl (lv_room (Nat.le_of_ble_eq_true rfl)) dFF_put_5 ⟨Nat.zero_le _, Nat.zero_le _⟩) hP hD hS hA [1, 2] [0, 3, 4, 5] [0, 4, 5, 1, 2, 3] rfl rfl (by decide) (by decide) rfl (by decide) (fun H locs hP hD hS => ?_)
  refine lv_if_ne (tgt := 21) hx hb dFF_put_8 (by decide) (fun c_3 => ?_) (fun c_3 => ?_)
  · have hf := ifF hf c_3
    refine lv_aload_n hx hb dFF_put_21 rfl (lv_at hl 0 rfl) ?_
    refine va_get (D := (dC, dI)) (ci := 5) (v := .ref q_row) (C := RFF) (T := TFF) (N := 5) hx hb hts hi_FF hown hK hP 0 rfl rfl 4 (by decide) (hts _ tw_129) (fun _ h9 => h9) rfl dFF_put_22 ?_
    refine lv_aload_n hx hb dFF_put_25 rfl (lv_at hl 0 rfl) ?_
    refine va_get (D := (dC, dI)) (ci := 5) (v := .ref q_table) (C := RFF) (T := TFF) (N := 5) hx hb hts hi_FF hown hK hP 0 rfl rfl 1 (by decide) (hts _ tw_126) (fun _ h9 => h9) rfl dFF_put_26 ?_
    refine va_get (D := (dC, dI)) (ci := 3) (v := .ref q_table_lengths) (C := RFT) (T := TFT) (N := 5) hx hb hts hi_FT hown hK hP 1 rfl rfl 2 (by decide) (hts _ tw_66) (fun _ h9 => h9) rfl dFF_put_29 ?_
    refine lv_iload_n hx hb dFF_put_32 rfl (lv_at hl 1 rfl) ?_
    obtain ⟨v4, ev4, h5, hf⟩ := rd_some hf
    refine ax_iald hx hb hK hP 2 0 rfl rfl h5 ev4 dFF_put_33 ?_
    obtain ⟨r6, h7, hf⟩ := bd1_some hf
    have hPc := hP.sub (ws' := (w_FR_hasRoom cI cZ cL cB q_row q_row_cells k_row_size k_row_place)) [3] rfl
    have hDc := hD.sub (ws' := (w_FR_hasRoom cI cZ cL cB q_row q_row_cells k_row_size k_row_place)) [3] (by decide) rfl
    refine ax_calli (wr := [(q, .inr (5, [.ref q_draft, .ref q_table, .ref q_tally, .ref q_finder, .ref q_row])), (q_table, .inr (3, [.ref q_table_counts, .ref q_table_symbols, .ref q_table_lengths, .ref q_table_codes, .int k_table_size])), (q_table_lengths, .inl (cI, 256, .inl k_table_lengths)), (q_table_codes, .inl (cI, 256, .inl k_table_codes)), (q_row_cells, .inl (cI, 2048, .inl k_row_cells))]) (w2 := (w_FF_put cI cZ cL cB q q_draft q_table q_tally q_finder q_row q_table_counts q_table_symbols q_table_lengths q_table_codes q_row_cells k_table_size k_table_lengths k_row_size k_row_place k_table_codes k_row_cells)) (va_runV (As := [.int v4]) (rest := []) ⟨hx, hb, hml, hown, hts⟩ (cc_FR_hasRoom l dC dI cI cZ cL cB q_row q_row_cells H.size k_row_size k_row_place v4 r6 h7) (cwV 1 hts (tt_V tw_317 tw_318 tw_319 tw_26 tw_320) rfl rfl rfl (by decide +kernel) ⟨Nat.le_of_ble_eq_true rfl, Nat.le_of_ble_eq_true rfl⟩) ⟨kz_fb, va_recv hK hPc (ci := 1) (q0 := 0) rfl rfl, kz_pre hPc hZ hDc⟩ rfl rfl hl.1 rfl (lv_room (Nat.le_of_ble_eq_true rfl)) dFF_put_34 ⟨Nat.zero_le _, Nat.zero_le _⟩) hP hD hS hA [3] [0, 1, 2, 4, 5] [0, 1, 2, 5, 3, 4] rfl rfl (by decide) (by decide) rfl (by decide) (fun H locs hP hD hS => ?_)
    refine lv_if_ne (tgt := 50) hx hb dFF_put_37 (by decide) (fun c_8 => ?_) (fun c_8 => ?_)
    · have hf := ifF hf c_8
      refine lv_aload_n hx hb dFF_put_50 rfl (lv_at hl 0 rfl) ?_
      refine va_get (D := (dC, dI)) (ci := 5) (v := .ref q_row) (C := RFF) (T := TFF) (N := 5) hx hb hts hi_FF hown hK hP 0 rfl rfl 4 (by decide) (hts _ tw_129) (fun _ h9 => h9) rfl dFF_put_51 ?_
      refine lv_aload_n hx hb dFF_put_54 rfl (lv_at hl 0 rfl) ?_
      refine va_get (D := (dC, dI)) (ci := 5) (v := .ref q_table) (C := RFF) (T := TFF) (N := 5) hx hb hts hi_FF hown hK hP 0 rfl rfl 1 (by decide) (hts _ tw_126) (fun _ h9 => h9) rfl dFF_put_55 ?_
      refine va_get (D := (dC, dI)) (ci := 3) (v := .ref q_table_codes) (C := RFT) (T := TFT) (N := 5) hx hb hts hi_FT hown hK hP 1 rfl rfl 3 (by decide) (hts _ tw_68) (fun _ h9 => h9) rfl dFF_put_58 ?_
      refine lv_iload_n hx hb dFF_put_61 rfl (lv_at hl 1 rfl) ?_
      obtain ⟨v9, ev9, h10, hf⟩ := rd_some hf
      refine ax_iald hx hb hK hP 4 0 rfl rfl h10 ev9 dFF_put_62 ?_
      refine lv_aload_n hx hb dFF_put_63 rfl (lv_at hl 0 rfl) ?_
      refine va_get (D := (dC, dI)) (ci := 5) (v := .ref q_table) (C := RFF) (T := TFF) (N := 5) hx hb hts hi_FF hown hK hP 0 rfl rfl 1 (by decide) (hts _ tw_126) (fun _ h9 => h9) rfl dFF_put_64 ?_
      refine va_get (D := (dC, dI)) (ci := 3) (v := .ref q_table_lengths) (C := RFT) (T := TFT) (N := 5) hx hb hts hi_FT hown hK hP 1 rfl rfl 2 (by decide) (hts _ tw_66) (fun _ h9 => h9) rfl dFF_put_67 ?_
      refine lv_iload_n hx hb dFF_put_70 rfl (lv_at hl 1 rfl) ?_
      obtain ⟨v11, ev11, h12, hf⟩ := rd_some hf
      refine ax_iald hx hb hK hP 2 0 rfl rfl h12 ev11 dFF_put_71 ?_
      obtain ⟨o13, o14, h15, hf⟩ := bd2_some hf
      have hPc := hP.sub (ws' := (w_FR_append cI cZ cL cB q_row q_row_cells k_row_size k_row_place k_row_cells)) [3, 5] rfl
      have hDc := hD.sub (ws' := (w_FR_append cI cZ cL cB q_row q_row_cells k_row_size k_row_place k_row_cells)) [3, 5] (by decide) rfl
      refine ax_callv (wr := [(q, .inr (5, [.ref q_draft, .ref q_table, .ref q_tally, .ref q_finder, .ref q_row])), (q_table, .inr (3, [.ref q_table_counts, .ref q_table_symbols, .ref q_table_lengths, .ref q_table_codes, .int k_table_size])), (q_table_lengths, .inl (cI, 256, .inl k_table_lengths)), (q_table_codes, .inl (cI, 256, .inl k_table_codes))]) (w2 := (w_FF_put cI cZ cL cB q q_draft q_table q_tally q_finder q_row q_table_counts q_table_symbols q_table_lengths q_table_codes q_row_cells k_table_size k_table_lengths o13 k_row_place k_table_codes o14)) (va_runV (As := [.int v9, .int v11]) (rest := []) ⟨hx, hb, hml, hown, hts⟩ (cc_FR_append l dC dI cI cZ cL cB q_row q_row_cells H.size k_row_size k_row_place k_row_cells v9 v11 o13 o14 h15) (cwV 2 hts (tt_V tw_322 tw_323 tw_324 tw_26 tw_325) rfl rfl rfl (by decide +kernel) ⟨Nat.le_of_ble_eq_true rfl, Nat.le_of_ble_eq_true rfl⟩) ⟨kz_fb, va_recv hK hPc (ci := 1) (q0 := 0) rfl rfl, kz_pre hPc hZ hDc⟩ rfl rfl hl.1 rfl (lv_room (Nat.le_of_ble_eq_true rfl)) dFF_put_72 ⟨Nat.zero_le _, Nat.zero_le _⟩) hP hD hS hA [3, 5] [0, 1, 2, 4] [0, 1, 2, 4, 3, 5] rfl rfl (by decide) (by decide) rfl (by decide) (fun H locs hP hD hS => ?_)
      refine lv_aload_n hx hb dFF_put_75 rfl (lv_at hl 0 rfl) ?_
      refine va_get (D := (dC, dI)) (ci := 5) (v := .ref q_row) (C := RFF) (T := TFF) (N := 5) hx hb hts hi_FF hown hK hP 0 rfl rfl 4 (by decide) (hts _ tw_129) (fun _ h9 => h9) rfl dFF_put_76 ?_
      refine va_get (D := (dC, dI)) (ci := 1) (v := .int o13) (C := RFR) (T := TFR) (N := 3) hx hb hts hi_FR hown hK hP 3 rfl rfl 1 (by decide) (hts _ tw_119) (fun _ h9 => h9) rfl dFF_put_79 ?_
      cases hf
      exact ax_iret hx hb hr hP hD hS dFF_put_82 hlocks
    · have hf := ifT hf c_8
      cases hf
  · have hf := ifT hf c_3
    cases hf
set_option maxHeartbeats 4000000 in
set_option maxRecDepth 100000 in
theorem cx_FF_put (l : Launch) (hst : l.stackTraces = false) (dC : Nat → ClassId) (dI : Nat → Nat → Nat) (cI cZ cL cB : ClassId) (q q_draft q_table q_tally q_finder q_row q_table_counts q_table_symbols q_table_lengths q_table_codes q_row_cells : Nat) (sz : Nat) (k_table_size : Int32) (k_table_lengths : Nat → Int32) (k_row_size : Int32) (k_row_place : Int32) (k_table_codes : Nat → Int32) (k_row_cells : Nat → Int32) (a_0 : Int32) (k : Nat) (hf : f_FF_put k_table_size k_table_lengths k_row_size k_row_place k_table_codes k_row_cells a_0 = some (.inl k)) : XMet l yFF_put wsFF_put ({ frames := 6, cells := 1, slots := 6, locals := 82 }) (va_Pc [.ref q, .int a_0] (kx_P dC dI cI cZ cL cB sz (w_FF_put cI cZ cL cB q q_draft q_table q_tally q_finder q_row q_table_counts q_table_symbols q_table_lengths q_table_codes q_row_cells k_table_size k_table_lengths k_row_size k_row_place k_table_codes k_row_cells))) (XC (dC, dI) (w_FF_put cI cZ cL cB q q_draft q_table q_tally q_finder q_row q_table_counts q_table_symbols q_table_lengths q_table_codes q_row_cells k_table_size k_table_lengths k_row_size k_row_place k_table_codes k_row_cells) (va_A (w_FF_put cI cZ cL cB q q_draft q_table q_tally q_finder q_row q_table_counts q_table_symbols q_table_lengths q_table_codes q_row_cells k_table_size k_table_lengths k_row_size k_row_place k_table_codes k_row_cells) sz) k) 1 6 (va_A (w_FF_put cI cZ cL cB q q_draft q_table q_tally q_finder q_row q_table_counts q_table_symbols q_table_lengths q_table_codes q_row_cells k_table_size k_table_lengths k_row_size k_row_place k_table_codes k_row_cells) sz) := by
  refine XMet.ofW (cc := cFF_put) (maxL := 2) (ret := (some .int)) (by decide) rfl ?_
  intro p e s m args below meth c s₁ B hml hout hv
  obtain ⟨rfl, ⟨hsz, hP, hZ, hD0⟩, hX⟩ := hv
  have hK := hZ.1
  have hx := B.exec
  have hb := B.bytes
  have hr := B.returns
  have hts : ∀ w ∈ tt, w.before _ s = true := fun w h => atoms_spec (ws := wsFF_put) B.pre w (List.mem_cons_of_mem _ h)
  have hown : s.vm.findClass RFF = some m.cls := findClass_of_methodNamed B.named
  have hlocks := B.notSynchronized
  subst hsz
  have hD := hD0.self (sz := s.heap.size)
  generalize hAe : va_A (w_FF_put cI cZ cL cB q q_draft q_table q_tally q_finder q_row q_table_counts q_table_symbols q_table_lengths q_table_codes q_row_cells k_table_size k_table_lengths k_row_size k_row_place k_table_codes k_row_cells) s.heap.size = A at hD ⊢
  have hl := lv_entry [.ref q, .int a_0] (n := 2) (Nat.le_of_ble_eq_true rfl)
  rw [lg_entry_eq]
  generalize (lg_sl [.ref q, .int a_0] ++ List.replicate (2 - (lg_sl [.ref q, .int a_0]).length) Slot.unset).toArray = ls at hl ⊢
  have hl : lv_has ls 2 [(0, .ref q), (1, .int a_0)] := hl
  unfold f_FF_put at hf
  refine lv_aload_n hx hb dFF_put_0 rfl (lv_at hl 0 rfl) ?_
  refine va_get (D := (dC, dI)) (ci := 5) (v := .ref q_table) (C := RFF) (T := TFF) (N := 5) hx hb hts hi_FF hown hK hP 0 rfl rfl 1 (by decide) (hts _ tw_126) (fun _ h9 => h9) rfl dFF_put_1 ?_
  refine lv_iload_n hx hb dFF_put_4 rfl (lv_at hl 1 rfl) ?_
  obtain ⟨r1, h2, hf⟩ := bd1_some hf
  have hPc := hP.sub (ws' := (w_FT_hasWord cI cZ cL cB q_table q_table_counts q_table_symbols q_table_lengths q_table_codes k_table_size k_table_lengths)) [1, 2] rfl
  refine ro_call (va_runV (As := [.int a_0]) (rest := []) ⟨hx, hb, hml, hown, hts⟩ (cr_FT_hasWord l dC dI cI cZ cL cB q_table q_table_counts q_table_symbols q_table_lengths q_table_codes k_table_size k_table_lengths a_0 r1 h2) (cwV 1 hts (tt_V tw_243 tw_244 tw_245 tw_23 tw_246) rfl rfl rfl (by decide +kernel) ⟨Nat.le_of_ble_eq_true rfl, Nat.le_of_ble_eq_true rfl⟩) ⟨kzr_fb, va_recv hK hPc (ci := 3) (q0 := 0) rfl rfl, kzr_pre hPc hZ⟩ rfl rfl hl.1 rfl (lv_room (Nat.le_of_ble_eq_true rfl)) dFF_put_5 ⟨Nat.zero_le _, Nat.zero_le _⟩) ?_
  refine lv_if_ne (tgt := 21) hx hb dFF_put_8 (by decide) (fun c_3 => ?_) (fun c_3 => ?_)
  · have hf := ifF hf c_3
    refine lv_aload_n hx hb dFF_put_21 rfl (lv_at hl 0 rfl) ?_
    refine va_get (D := (dC, dI)) (ci := 5) (v := .ref q_row) (C := RFF) (T := TFF) (N := 5) hx hb hts hi_FF hown hK hP 0 rfl rfl 4 (by decide) (hts _ tw_129) (fun _ h9 => h9) rfl dFF_put_22 ?_
    refine lv_aload_n hx hb dFF_put_25 rfl (lv_at hl 0 rfl) ?_
    refine va_get (D := (dC, dI)) (ci := 5) (v := .ref q_table) (C := RFF) (T := TFF) (N := 5) hx hb hts hi_FF hown hK hP 0 rfl rfl 1 (by decide) (hts _ tw_126) (fun _ h9 => h9) rfl dFF_put_26 ?_
    refine va_get (D := (dC, dI)) (ci := 3) (v := .ref q_table_lengths) (C := RFT) (T := TFT) (N := 5) hx hb hts hi_FT hown hK hP 1 rfl rfl 2 (by decide) (hts _ tw_66) (fun _ h9 => h9) rfl dFF_put_29 ?_
    refine lv_iload_n hx hb dFF_put_32 rfl (lv_at hl 1 rfl) ?_
    obtain ⟨v4, ev4, h5, hf⟩ := rd_some hf
    refine ax_iald hx hb hK hP 2 0 rfl rfl h5 ev4 dFF_put_33 ?_
    obtain ⟨r6, h7, hf⟩ := bd1_some hf
    have hPc := hP.sub (ws' := (w_FR_hasRoom cI cZ cL cB q_row q_row_cells k_row_size k_row_place)) [3] rfl
    refine ro_call (va_runV (As := [.int v4]) (rest := []) ⟨hx, hb, hml, hown, hts⟩ (cr_FR_hasRoom l dC dI cI cZ cL cB q_row q_row_cells k_row_size k_row_place v4 r6 h7) (cwV 1 hts (tt_V tw_317 tw_318 tw_319 tw_26 tw_320) rfl rfl rfl (by decide +kernel) ⟨Nat.le_of_ble_eq_true rfl, Nat.le_of_ble_eq_true rfl⟩) ⟨kzr_fb, va_recv hK hPc (ci := 1) (q0 := 0) rfl rfl, kzr_pre hPc hZ⟩ rfl rfl hl.1 rfl (lv_room (Nat.le_of_ble_eq_true rfl)) dFF_put_34 ⟨Nat.zero_le _, Nat.zero_le _⟩) ?_
    refine lv_if_ne (tgt := 50) hx hb dFF_put_37 (by decide) (fun c_8 => ?_) (fun c_8 => ?_)
    · have hf := ifF hf c_8
      exfalso
      obtain ⟨v9, ev9, h10, hf⟩ := rd_some hf
      obtain ⟨v11, ev11, h12, hf⟩ := rd_some hf
      obtain ⟨o13, o14, h15, hf⟩ := bd2_some hf
      cases hf
    · have hf := ifT hf c_8
      cases hf
      exact xt_thrS hx hb hst hown hX (List.mem_of_getElem? (i := 4) rfl) hP hD (hl.1.trans hml.symm) dFF_put_40 dFF_put_43 dFF_put_44 dFF_put_46 dFF_put_49 hout (Nat.le_of_ble_eq_true rfl) (Nat.le_of_ble_eq_true rfl) (Nat.le_of_ble_eq_true rfl) (Nat.le_of_ble_eq_true rfl) hlocks
  · have hf := ifT hf c_3
    cases hf
    exact xt_thrA hx hb hst hown hX (List.mem_of_getElem? (i := 3) rfl) hP hD (hl.1.trans hml.symm) dFF_put_11 dFF_put_14 dFF_put_15 dFF_put_17 dFF_put_20 hout (Nat.le_of_ble_eq_true rfl) (Nat.le_of_ble_eq_true rfl) (Nat.le_of_ble_eq_true rfl) (Nat.le_of_ble_eq_true rfl) hlocks
abbrev wsLL_put : List Cond := Cond.codeWith yLL_put cLL_put 4 (some .int) [(0, 9, 12, 13), (0, 9, 15, 15)] :: tt
set_option maxHeartbeats 4000000 in
set_option maxRecDepth 100000 in
theorem cc_LL_put (l : Launch) (hst : l.stackTraces = false) (dC : Nat → ClassId) (dI : Nat → Nat → Nat) (cI cZ cL cB : ClassId) (q_p0 q_p0_draft q_p0_table q_p0_tally q_p0_finder q_p0_row q_p0_table_counts q_p0_table_symbols q_p0_table_lengths q_p0_table_codes q_p0_row_cells q_p2 : Nat) (sz : Nat) (k_p0_table_size : Int32) (k_p0_table_lengths : Nat → Int32) (k_p0_row_size : Int32) (k_p0_row_place : Int32) (k_p0_table_codes : Nat → Int32) (k_p0_row_cells : Nat → Int32) (n_p2 : Nat) (k_p2 : Nat → Int64) (a_1 : Int32) (r : Int32) (o_p0_row_size : Int32) (o_p0_row_cells : Nat → Int32) (o_p2 : Nat → Int64) (hf : f_LL_put k_p0_table_size k_p0_table_lengths k_p0_row_size k_p0_row_place k_p0_table_codes k_p0_row_cells n_p2 k_p2 a_1 = some (r, o_p0_row_size, o_p0_row_cells, o_p2)) : Met l yLL_put wsLL_put ({ frames := 7, cells := 1, slots := 6, locals := 103 }) (va_Pc [.ref q_p0, .int a_1, .ref q_p2] (kx_P dC dI cI cZ cL cB sz (w_LL_put cI cZ cL cB q_p0 q_p0_draft q_p0_table q_p0_tally q_p0_finder q_p0_row q_p0_table_counts q_p0_table_symbols q_p0_table_lengths q_p0_table_codes q_p0_row_cells q_p2 k_p0_table_size k_p0_table_lengths k_p0_row_size k_p0_row_place k_p0_table_codes k_p0_row_cells n_p2 k_p2))) (va_Qi (fun (r' : Int32) (_ : Unit) => r' = r) (fun _ t => va_P (dC, dI) vwCl (w_LL_put cI cZ cL cB q_p0 q_p0_draft q_p0_table q_p0_tally q_p0_finder q_p0_row q_p0_table_counts q_p0_table_symbols q_p0_table_lengths q_p0_table_codes q_p0_row_cells q_p2 k_p0_table_size k_p0_table_lengths o_p0_row_size k_p0_row_place k_p0_table_codes o_p0_row_cells n_p2 o_p2) t.heap ∧ va_D (va_A (w_LL_put cI cZ cL cB q_p0 q_p0_draft q_p0_table q_p0_tally q_p0_finder q_p0_row q_p0_table_counts q_p0_table_symbols q_p0_table_lengths q_p0_table_codes q_p0_row_cells q_p2 k_p0_table_size k_p0_table_lengths k_p0_row_size k_p0_row_place k_p0_table_codes k_p0_row_cells n_p2 k_p2) sz) (w_LL_put cI cZ cL cB q_p0 q_p0_draft q_p0_table q_p0_tally q_p0_finder q_p0_row q_p0_table_counts q_p0_table_symbols q_p0_table_lengths q_p0_table_codes q_p0_row_cells q_p2 k_p0_table_size k_p0_table_lengths o_p0_row_size k_p0_row_place k_p0_table_codes o_p0_row_cells n_p2 o_p2)) (va_A (w_LL_put cI cZ cL cB q_p0 q_p0_draft q_p0_table q_p0_tally q_p0_finder q_p0_row q_p0_table_counts q_p0_table_symbols q_p0_table_lengths q_p0_table_codes q_p0_row_cells q_p2 k_p0_table_size k_p0_table_lengths k_p0_row_size k_p0_row_place k_p0_table_codes k_p0_row_cells n_p2 k_p2) sz)) 1 6 (va_A (w_LL_put cI cZ cL cB q_p0 q_p0_draft q_p0_table q_p0_tally q_p0_finder q_p0_row q_p0_table_counts q_p0_table_symbols q_p0_table_lengths q_p0_table_codes q_p0_row_cells q_p2 k_p0_table_size k_p0_table_lengths k_p0_row_size k_p0_row_place k_p0_table_codes k_p0_row_cells n_p2 k_p2) sz) := by
  refine va_MetW (hh := [(0, 9, 12, 13), (0, 9, 15, 15)]) (cc := cLL_put) (maxL := 4) (ret := (some .int)) (by decide) rfl ?_
  intro p e s m args below meth c s₁ B hml hv
  obtain ⟨rfl, ⟨hsz, hP, hZ, hD0⟩, hX⟩ := hv
  have hK := hZ.1
  have hx := B.exec
  have hb := B.bytes
  have hr := B.returns
  have hts : ∀ w ∈ tt, w.before _ s = true := fun w h => atoms_spec (ws := wsLL_put) B.pre w (List.mem_cons_of_mem _ h)
  have hown : s.vm.findClass RLL = some m.cls := findClass_of_methodNamed B.named
  have hlocks := B.notSynchronized
  subst hsz
  have hD := hD0.self (sz := s.heap.size)
  generalize hAe : va_A (w_LL_put cI cZ cL cB q_p0 q_p0_draft q_p0_table q_p0_tally q_p0_finder q_p0_row q_p0_table_counts q_p0_table_symbols q_p0_table_lengths q_p0_table_codes q_p0_row_cells q_p2 k_p0_table_size k_p0_table_lengths k_p0_row_size k_p0_row_place k_p0_table_codes k_p0_row_cells n_p2 k_p2) s.heap.size = A at hD ⊢
  have hA : ∀ q : Nat, s.heap.size ≤ q → A q := fun q h => by rw [← hAe]; exact Or.inr h
  have hS : va_S A s.heap s.heap [] := va_S.rf
  have hl := lv_entry [.ref q_p0, .int a_1, .ref q_p2] (n := 4) (Nat.le_of_ble_eq_true rfl)
  rw [lg_entry_eq]
  generalize (lg_sl [.ref q_p0, .int a_1, .ref q_p2] ++ List.replicate (4 - (lg_sl [.ref q_p0, .int a_1, .ref q_p2]).length) Slot.unset).toArray = ls at hl ⊢
  have hl : lv_has ls 4 [(0, .ref q_p0), (1, .int a_1), (2, .ref q_p2)] := hl
  obtain ⟨x1, x2, htb, e1, e2⟩ := xt_rows (xt_table (y := yLL_put) B (atoms_spec (ws := wsLL_put) B.pre _ List.mem_cons_self))
  simp only [Prod.mk.injEq] at e1 e2
  obtain ⟨ea1, eb1, ec1, ed1⟩ := e1
  obtain ⟨ea2, eb2, ec2, ed2⟩ := e2
  unfold f_LL_put at hf
  refine lv_aload_n hx hb dLL_put_0 rfl (lv_at hl 2 rfl) ?_
  refine lv_iconst (v := 0) hx hb dLL_put_1 (by decide) ?_
  refine lv_aload_n hx hb dLL_put_2 rfl (lv_at hl 0 rfl) ?_
  refine lv_iload_n hx hb dLL_put_3 rfl (lv_at hl 1 rfl) ?_
  have hPc := hP.sub (ws' := (w_FF_put cI cZ cL cB q_p0 q_p0_draft q_p0_table q_p0_tally q_p0_finder q_p0_row q_p0_table_counts q_p0_table_symbols q_p0_table_lengths q_p0_table_codes q_p0_row_cells k_p0_table_size k_p0_table_lengths k_p0_row_size k_p0_row_place k_p0_table_codes k_p0_row_cells)) [0, 1, 2, 3, 4, 5] rfl
  have hDc := hD.sub (ws' := (w_FF_put cI cZ cL cB q_p0 q_p0_draft q_p0_table q_p0_tally q_p0_finder q_p0_row q_p0_table_counts q_p0_table_symbols q_p0_table_lengths q_p0_table_codes q_p0_row_cells k_p0_table_size k_p0_table_lengths k_p0_row_size k_p0_row_place k_p0_table_codes k_p0_row_cells)) [0, 1, 2, 3, 4, 5] (by decide) rfl
  rcases bx3_some hf with ⟨kx5, hk6, hf⟩ | ⟨r1, o2, o3, h4, hf⟩
  · refine xt_callV (As := [.int a_1]) (rest := [.int 0, .ref q_p2]) ⟨hx, hb, hml, hown, hts⟩ (cx_FF_put l hst dC dI cI cZ cL cB q_p0 q_p0_draft q_p0_table q_p0_tally q_p0_finder q_p0_row q_p0_table_counts q_p0_table_symbols q_p0_table_lengths q_p0_table_codes q_p0_row_cells s.heap.size k_p0_table_size k_p0_table_lengths k_p0_row_size k_p0_row_place k_p0_table_codes k_p0_row_cells a_1 kx5 hk6) (cwV 1 hts (tt_V tw_313 tw_314 tw_315 tw_21 tw_316) rfl rfl rfl (by decide +kernel) ⟨Nat.le_of_ble_eq_true rfl, Nat.le_of_ble_eq_true rfl⟩) ⟨kx_fb, va_recv hK hPc (ci := 5) (q0 := 0) rfl rfl, kx_pre hPc hZ hDc hX (fun _ _ => rfl)⟩ rfl rfl hl.1 rfl (lv_room (Nat.le_of_ble_eq_true rfl)) dLL_put_4 ⟨Nat.le_of_ble_eq_true rfl, Nat.le_of_ble_eq_true rfl⟩ (fun qx st₀ t L h0 hal0 hal hL hxc => ?_)
    obtain ⟨⟨ce, hce, hcv, hcl⟩, hP, hD, hS⟩ := xt_after (wr := [(q_p2, .inl (cL, n_p2, .inr (.inl k_p2)))]) h0 hal0 hL hxc hP hD hS hA [0, 1, 2, 3, 4, 5] [6] [1, 2, 3, 4, 5, 6, 0] rfl rfl (by decide) (by decide) rfl (by decide)
    by_cases hk1 : kx5 = 1
    · have hf := ifT hf hk1
      have hcl : s.vm.findClass xIA = some ce.cls := by rw [xcls, if_pos hk1] at hcl; exact hcl
      refine xt_catch1 (own := RLL) (E := xIA) (n1 := xIA) hown htb (by simp [covers, ea1, eb1]) (by rw [ed1]; decide) (by rw [ed1]; exact hts _ tw_298) (xs_args xwA_ok hX.1 _ (xwA_has _ (List.mem_cons_of_mem _ List.mem_cons_self))) hce hcv hcl ?_
      rw [ec1]
      refine lv_astore_n (lv' := [(3, .ref qx), (0, .ref q_p0), (1, .int a_1), (2, .ref q_p2)]) hx hb dLL_put_12 rfl hl (by decide) rfl (fun ls hl => ?_)
      refine lv_iconst (v := 1) hx hb dLL_put_13 (by decide) ?_
      cases hf
      refine W.widen (k := 1) (n := 6) (by decide) (by decide) ?_
      exact ax_iret hx hb hr hP hD hS dLL_put_14 hlocks
    · have hf := ifF hf hk1
      have hcl : s.vm.findClass xIS = some ce.cls := by rw [xcls, if_neg hk1] at hcl; exact hcl
      refine xt_catch2 (own := RLL) (E := xIS) (n1 := xIA) (n2 := xIS) hown htb (by simp [covers, ea1, eb1]) (by rw [ed1]; decide) (by simp [covers, ea2, eb2]) (by rw [ed2]; decide) (by rw [ed1]; exact hts _ tw_298) hX.2.2.2 (by rw [ed2]; exact hts _ tw_299) (xs_args xwS_ok hX.2.1 _ (xwS_has _ (List.mem_cons_of_mem _ List.mem_cons_self))) hce hcv hcl ?_
      rw [ec2]
      refine lv_astore_n (lv' := [(3, .ref qx), (0, .ref q_p0), (1, .int a_1), (2, .ref q_p2)]) hx hb dLL_put_15 rfl hl (by decide) rfl (fun ls hl => ?_)
      refine lv_iconst (v := 2) hx hb dLL_put_16 (by decide) ?_
      cases hf
      refine W.widen (k := 1) (n := 6) (by decide) (by decide) ?_
      exact ax_iret hx hb hr hP hD hS dLL_put_17 hlocks
  · refine ax_calli (wr := [(q_p2, .inl (cL, n_p2, .inr (.inl k_p2)))]) (w2 := (w_LL_put cI cZ cL cB q_p0 q_p0_draft q_p0_table q_p0_tally q_p0_finder q_p0_row q_p0_table_counts q_p0_table_symbols q_p0_table_lengths q_p0_table_codes q_p0_row_cells q_p2 k_p0_table_size k_p0_table_lengths o2 k_p0_row_place k_p0_table_codes o3 n_p2 k_p2)) (va_runV (As := [.int a_1]) (rest := [.int 0, .ref q_p2]) ⟨hx, hb, hml, hown, hts⟩ (cc_FF_put l dC dI cI cZ cL cB q_p0 q_p0_draft q_p0_table q_p0_tally q_p0_finder q_p0_row q_p0_table_counts q_p0_table_symbols q_p0_table_lengths q_p0_table_codes q_p0_row_cells s.heap.size k_p0_table_size k_p0_table_lengths k_p0_row_size k_p0_row_place k_p0_table_codes k_p0_row_cells a_1 r1 o2 o3 h4) (cwV 1 hts (tt_V tw_313 tw_314 tw_315 tw_21 tw_316) rfl rfl rfl (by decide +kernel) ⟨Nat.le_of_ble_eq_true rfl, Nat.le_of_ble_eq_true rfl⟩) ⟨kz_fb, va_recv hK hPc (ci := 5) (q0 := 0) rfl rfl, kz_pre hPc hZ hDc⟩ rfl rfl hl.1 rfl (lv_room (Nat.le_of_ble_eq_true rfl)) dLL_put_4 ⟨Nat.zero_le _, Nat.zero_le _⟩) hP hD hS hA [0, 1, 2, 3, 4, 5] [6] [1, 2, 3, 4, 5, 6, 0] rfl rfl (by decide) (by decide) rfl (by decide) (fun H locs hP hD hS => ?_)
    refine lv_i2l (v := r1.toInt64) hx hb dLL_put_7 rfl ?_
    obtain ⟨g7, eg7, h8, hf⟩ := wrL_some hf
    refine ax_last hx hb hK hP hD hS 6 2 rfl rfl h8 eg7 dLL_put_8 (ws' := (w_LL_put cI cZ cL cB q_p0 q_p0_draft q_p0_table q_p0_tally q_p0_finder q_p0_row q_p0_table_counts q_p0_table_symbols q_p0_table_lengths q_p0_table_codes q_p0_row_cells q_p2 k_p0_table_size k_p0_table_lengths o2 k_p0_row_place k_p0_table_codes o3 n_p2 g7)) rfl (fun H locs hP hD hS => ?_)
    refine lv_goto (tgt := 18) hx hb dLL_put_9 (by decide) ?_
    refine lv_iconst (v := 0) hx hb dLL_put_18 (by decide) ?_
    cases hf
    refine W.widen (k := 1) (n := 6) (by decide) (by decide) ?_
    exact ax_iret hx hb hr hP hD hS dLL_put_19 hlocks
abbrev wsFF_raw : List Cond := Cond.code yFF_raw cFF_raw 3 (some .int) :: tt
set_option maxHeartbeats 4000000 in
set_option maxRecDepth 100000 in
theorem cc_FF_raw (l : Launch) (dC : Nat → ClassId) (dI : Nat → Nat → Nat) (cI cZ cL cB : ClassId) (q q_draft q_table q_tally q_finder q_row q_row_cells : Nat) (sz : Nat) (k_row_size : Int32) (k_row_place : Int32) (k_row_cells : Nat → Int32) (a_0 : Int32) (a_1 : Int32) (r : Int32) (o_row_size : Int32) (o_row_cells : Nat → Int32) (hf : f_FF_raw k_row_size k_row_place k_row_cells a_0 a_1 = some (.inr (r, o_row_size, o_row_cells))) : Met l yFF_raw wsFF_raw ({ frames := 1, cells := 0, slots := 0, locals := 25 }) (va_Pc [.ref q, .int a_0, .int a_1] (kz_P dC dI cI cZ cL cB sz (w_FF_raw cI cZ cL cB q q_draft q_table q_tally q_finder q_row q_row_cells k_row_size k_row_place k_row_cells))) (va_Qi (fun (r' : Int32) (_ : Unit) => r' = r) (fun _ t => va_P (dC, dI) vwCl (w_FF_raw cI cZ cL cB q q_draft q_table q_tally q_finder q_row q_row_cells o_row_size k_row_place o_row_cells) t.heap ∧ va_D (va_A (w_FF_raw cI cZ cL cB q q_draft q_table q_tally q_finder q_row q_row_cells k_row_size k_row_place k_row_cells) sz) (w_FF_raw cI cZ cL cB q q_draft q_table q_tally q_finder q_row q_row_cells o_row_size k_row_place o_row_cells)) (va_A (w_FF_raw cI cZ cL cB q q_draft q_table q_tally q_finder q_row q_row_cells k_row_size k_row_place k_row_cells) sz)) 0 0 (va_A (w_FF_raw cI cZ cL cB q q_draft q_table q_tally q_finder q_row q_row_cells k_row_size k_row_place k_row_cells) sz) := by
  refine Met.ofW (cc := cFF_raw) (maxL := 3) (ret := (some .int)) (by decide) rfl ?_
  intro p e s m args below meth c s₁ B hml hv
  obtain ⟨rfl, hsz, hP, hZ, hD0⟩ := hv
  have hK := hZ.1
  have hx := B.exec
  have hb := B.bytes
  have hr := B.returns
  have hts : ∀ w ∈ tt, w.before _ s = true := fun w h => atoms_spec (ws := wsFF_raw) B.pre w (List.mem_cons_of_mem _ h)
  have hown : s.vm.findClass RFF = some m.cls := findClass_of_methodNamed B.named
  have hlocks := B.notSynchronized
  subst hsz
  have hD := hD0.self (sz := s.heap.size)
  generalize hAe : va_A (w_FF_raw cI cZ cL cB q q_draft q_table q_tally q_finder q_row q_row_cells k_row_size k_row_place k_row_cells) s.heap.size = A at hD ⊢
  have hA : ∀ q : Nat, s.heap.size ≤ q → A q := fun q h => by rw [← hAe]; exact Or.inr h
  have hS : va_S A s.heap s.heap [] := va_S.rf
  have hl := lv_entry [.ref q, .int a_0, .int a_1] (n := 3) (Nat.le_of_ble_eq_true rfl)
  rw [lg_entry_eq]
  generalize (lg_sl [.ref q, .int a_0, .int a_1] ++ List.replicate (3 - (lg_sl [.ref q, .int a_0, .int a_1]).length) Slot.unset).toArray = ls at hl ⊢
  have hl : lv_has ls 3 [(0, .ref q), (1, .int a_0), (2, .int a_1)] := hl
  unfold f_FF_raw at hf
  refine lv_iload_n hx hb dFF_raw_0 rfl (lv_at hl 2 rfl) ?_
  obtain ⟨r1, h2, hf⟩ := bd1_some hf
  have hPc := hP.sub (ws' := (w_FF_isBitNumber cI cZ cL cB )) [] rfl
  have hDc := hD.sub (ws' := (w_FF_isBitNumber cI cZ cL cB )) [] (by decide) rfl
  refine ax_calli (wr := [(q, .inr (5, [.ref q_draft, .ref q_table, .ref q_tally, .ref q_finder, .ref q_row])), (q_row, .inr (1, [.ref q_row_cells, .int k_row_size, .int k_row_place])), (q_row_cells, .inl (cI, 2048, .inl k_row_cells))]) (w2 := (w_FF_raw cI cZ cL cB q q_draft q_table q_tally q_finder q_row q_row_cells k_row_size k_row_place k_row_cells)) (va_runS (As := [.int a_1]) (rest := []) ⟨hx, hb, hml, hown, hts⟩ (cc_FF_isBitNumber l dC dI cI cZ cL cB  s.heap.size a_1 r1 h2) (va_cwS 1 hts (tt_S tw_275 tw_276 tw_21 tw_277) rfl rfl rfl (by decide +kernel) ⟨Nat.le_of_ble_eq_true rfl, Nat.le_of_ble_eq_true rfl⟩) ⟨kz_fb, kz_pre hPc hZ hDc⟩ rfl rfl hl.1 rfl (lv_room (Nat.le_of_ble_eq_true rfl)) dFF_raw_1 ⟨Nat.zero_le _, Nat.zero_le _⟩) hP hD hS hA [] [0, 1, 2] [0, 1, 2] rfl rfl (by decide) (by decide) rfl (by decide) (fun H locs hP hD hS => ?_)
  refine lv_if_ne (tgt := 17) hx hb dFF_raw_4 (by decide) (fun c_3 => ?_) (fun c_3 => ?_)
  · have hf := ifF hf c_3
    refine lv_aload_n hx hb dFF_raw_17 rfl (lv_at hl 0 rfl) ?_
    refine va_get (D := (dC, dI)) (ci := 5) (v := .ref q_row) (C := RFF) (T := TFF) (N := 5) hx hb hts hi_FF hown hK hP 0 rfl rfl 4 (by decide) (hts _ tw_129) (fun _ h9 => h9) rfl dFF_raw_18 ?_
    refine lv_iload_n hx hb dFF_raw_21 rfl (lv_at hl 2 rfl) ?_
    obtain ⟨r4, h5, hf⟩ := bd1_some hf
    have hPc := hP.sub (ws' := (w_FR_hasRoom cI cZ cL cB q_row q_row_cells k_row_size k_row_place)) [1] rfl
    have hDc := hD.sub (ws' := (w_FR_hasRoom cI cZ cL cB q_row q_row_cells k_row_size k_row_place)) [1] (by decide) rfl
    refine ax_calli (wr := [(q, .inr (5, [.ref q_draft, .ref q_table, .ref q_tally, .ref q_finder, .ref q_row])), (q_row_cells, .inl (cI, 2048, .inl k_row_cells))]) (w2 := (w_FF_raw cI cZ cL cB q q_draft q_table q_tally q_finder q_row q_row_cells k_row_size k_row_place k_row_cells)) (va_runV (As := [.int a_1]) (rest := []) ⟨hx, hb, hml, hown, hts⟩ (cc_FR_hasRoom l dC dI cI cZ cL cB q_row q_row_cells H.size k_row_size k_row_place a_1 r4 h5) (cwV 1 hts (tt_V tw_317 tw_318 tw_319 tw_26 tw_320) rfl rfl rfl (by decide +kernel) ⟨Nat.le_of_ble_eq_true rfl, Nat.le_of_ble_eq_true rfl⟩) ⟨kz_fb, va_recv hK hPc (ci := 1) (q0 := 0) rfl rfl, kz_pre hPc hZ hDc⟩ rfl rfl hl.1 rfl (lv_room (Nat.le_of_ble_eq_true rfl)) dFF_raw_22 ⟨Nat.zero_le _, Nat.zero_le _⟩) hP hD hS hA [1] [0, 2] [0, 2, 1] rfl rfl (by decide) (by decide) rfl (by decide) (fun H locs hP hD hS => ?_)
    refine lv_if_ne (tgt := 38) hx hb dFF_raw_25 (by decide) (fun c_6 => ?_) (fun c_6 => ?_)
    · have hf := ifF hf c_6
      refine lv_aload_n hx hb dFF_raw_38 rfl (lv_at hl 0 rfl) ?_
      refine va_get (D := (dC, dI)) (ci := 5) (v := .ref q_row) (C := RFF) (T := TFF) (N := 5) hx hb hts hi_FF hown hK hP 0 rfl rfl 4 (by decide) (hts _ tw_129) (fun _ h9 => h9) rfl dFF_raw_39 ?_
      refine lv_iload_n hx hb dFF_raw_42 rfl (lv_at hl 1 rfl) ?_
      refine lv_iload_n hx hb dFF_raw_43 rfl (lv_at hl 2 rfl) ?_
      obtain ⟨o7, o8, h9, hf⟩ := bd2_some hf
      have hPc := hP.sub (ws' := (w_FR_append cI cZ cL cB q_row q_row_cells k_row_size k_row_place k_row_cells)) [1, 2] rfl
      have hDc := hD.sub (ws' := (w_FR_append cI cZ cL cB q_row q_row_cells k_row_size k_row_place k_row_cells)) [1, 2] (by decide) rfl
      refine ax_callv (wr := [(q, .inr (5, [.ref q_draft, .ref q_table, .ref q_tally, .ref q_finder, .ref q_row]))]) (w2 := (w_FF_raw cI cZ cL cB q q_draft q_table q_tally q_finder q_row q_row_cells o7 k_row_place o8)) (va_runV (As := [.int a_0, .int a_1]) (rest := []) ⟨hx, hb, hml, hown, hts⟩ (cc_FR_append l dC dI cI cZ cL cB q_row q_row_cells H.size k_row_size k_row_place k_row_cells a_0 a_1 o7 o8 h9) (cwV 2 hts (tt_V tw_322 tw_323 tw_324 tw_26 tw_325) rfl rfl rfl (by decide +kernel) ⟨Nat.le_of_ble_eq_true rfl, Nat.le_of_ble_eq_true rfl⟩) ⟨kz_fb, va_recv hK hPc (ci := 1) (q0 := 0) rfl rfl, kz_pre hPc hZ hDc⟩ rfl rfl hl.1 rfl (lv_room (Nat.le_of_ble_eq_true rfl)) dFF_raw_44 ⟨Nat.zero_le _, Nat.zero_le _⟩) hP hD hS hA [1, 2] [0] [0, 1, 2] rfl rfl (by decide) (by decide) rfl (by decide) (fun H locs hP hD hS => ?_)
      refine lv_aload_n hx hb dFF_raw_47 rfl (lv_at hl 0 rfl) ?_
      refine va_get (D := (dC, dI)) (ci := 5) (v := .ref q_row) (C := RFF) (T := TFF) (N := 5) hx hb hts hi_FF hown hK hP 0 rfl rfl 4 (by decide) (hts _ tw_129) (fun _ h9 => h9) rfl dFF_raw_48 ?_
      refine va_get (D := (dC, dI)) (ci := 1) (v := .int o7) (C := RFR) (T := TFR) (N := 3) hx hb hts hi_FR hown hK hP 1 rfl rfl 1 (by decide) (hts _ tw_119) (fun _ h9 => h9) rfl dFF_raw_51 ?_
      cases hf
      exact ax_iret hx hb hr hP hD hS dFF_raw_54 hlocks
    · have hf := ifT hf c_6
      cases hf
  · have hf := ifT hf c_3
    cases hf
set_option maxHeartbeats 4000000 in
set_option maxRecDepth 100000 in
theorem cx_FF_raw (l : Launch) (hst : l.stackTraces = false) (dC : Nat → ClassId) (dI : Nat → Nat → Nat) (cI cZ cL cB : ClassId) (q q_draft q_table q_tally q_finder q_row q_row_cells : Nat) (sz : Nat) (k_row_size : Int32) (k_row_place : Int32) (k_row_cells : Nat → Int32) (a_0 : Int32) (a_1 : Int32) (k : Nat) (hf : f_FF_raw k_row_size k_row_place k_row_cells a_0 a_1 = some (.inl k)) : XMet l yFF_raw wsFF_raw ({ frames := 6, cells := 1, slots := 6, locals := 82 }) (va_Pc [.ref q, .int a_0, .int a_1] (kx_P dC dI cI cZ cL cB sz (w_FF_raw cI cZ cL cB q q_draft q_table q_tally q_finder q_row q_row_cells k_row_size k_row_place k_row_cells))) (XC (dC, dI) (w_FF_raw cI cZ cL cB q q_draft q_table q_tally q_finder q_row q_row_cells k_row_size k_row_place k_row_cells) (va_A (w_FF_raw cI cZ cL cB q q_draft q_table q_tally q_finder q_row q_row_cells k_row_size k_row_place k_row_cells) sz) k) 1 6 (va_A (w_FF_raw cI cZ cL cB q q_draft q_table q_tally q_finder q_row q_row_cells k_row_size k_row_place k_row_cells) sz) := by
  refine XMet.ofW (cc := cFF_raw) (maxL := 3) (ret := (some .int)) (by decide) rfl ?_
  intro p e s m args below meth c s₁ B hml hout hv
  obtain ⟨rfl, ⟨hsz, hP, hZ, hD0⟩, hX⟩ := hv
  have hK := hZ.1
  have hx := B.exec
  have hb := B.bytes
  have hr := B.returns
  have hts : ∀ w ∈ tt, w.before _ s = true := fun w h => atoms_spec (ws := wsFF_raw) B.pre w (List.mem_cons_of_mem _ h)
  have hown : s.vm.findClass RFF = some m.cls := findClass_of_methodNamed B.named
  have hlocks := B.notSynchronized
  subst hsz
  have hD := hD0.self (sz := s.heap.size)
  generalize hAe : va_A (w_FF_raw cI cZ cL cB q q_draft q_table q_tally q_finder q_row q_row_cells k_row_size k_row_place k_row_cells) s.heap.size = A at hD ⊢
  have hl := lv_entry [.ref q, .int a_0, .int a_1] (n := 3) (Nat.le_of_ble_eq_true rfl)
  rw [lg_entry_eq]
  generalize (lg_sl [.ref q, .int a_0, .int a_1] ++ List.replicate (3 - (lg_sl [.ref q, .int a_0, .int a_1]).length) Slot.unset).toArray = ls at hl ⊢
  have hl : lv_has ls 3 [(0, .ref q), (1, .int a_0), (2, .int a_1)] := hl
  unfold f_FF_raw at hf
  refine lv_iload_n hx hb dFF_raw_0 rfl (lv_at hl 2 rfl) ?_
  obtain ⟨r1, h2, hf⟩ := bd1_some hf
  have hPc := hP.sub (ws' := (w_FF_isBitNumber cI cZ cL cB )) [] rfl
  refine ro_call (va_runS (As := [.int a_1]) (rest := []) ⟨hx, hb, hml, hown, hts⟩ (cr_FF_isBitNumber l dC dI cI cZ cL cB  a_1 r1 h2) (va_cwS 1 hts (tt_S tw_275 tw_276 tw_21 tw_277) rfl rfl rfl (by decide +kernel) ⟨Nat.le_of_ble_eq_true rfl, Nat.le_of_ble_eq_true rfl⟩) ⟨kzr_fb, kzr_pre hPc hZ⟩ rfl rfl hl.1 rfl (lv_room (Nat.le_of_ble_eq_true rfl)) dFF_raw_1 ⟨Nat.zero_le _, Nat.zero_le _⟩) ?_
  refine lv_if_ne (tgt := 17) hx hb dFF_raw_4 (by decide) (fun c_3 => ?_) (fun c_3 => ?_)
  · have hf := ifF hf c_3
    refine lv_aload_n hx hb dFF_raw_17 rfl (lv_at hl 0 rfl) ?_
    refine va_get (D := (dC, dI)) (ci := 5) (v := .ref q_row) (C := RFF) (T := TFF) (N := 5) hx hb hts hi_FF hown hK hP 0 rfl rfl 4 (by decide) (hts _ tw_129) (fun _ h9 => h9) rfl dFF_raw_18 ?_
    refine lv_iload_n hx hb dFF_raw_21 rfl (lv_at hl 2 rfl) ?_
    obtain ⟨r4, h5, hf⟩ := bd1_some hf
    have hPc := hP.sub (ws' := (w_FR_hasRoom cI cZ cL cB q_row q_row_cells k_row_size k_row_place)) [1] rfl
    refine ro_call (va_runV (As := [.int a_1]) (rest := []) ⟨hx, hb, hml, hown, hts⟩ (cr_FR_hasRoom l dC dI cI cZ cL cB q_row q_row_cells k_row_size k_row_place a_1 r4 h5) (cwV 1 hts (tt_V tw_317 tw_318 tw_319 tw_26 tw_320) rfl rfl rfl (by decide +kernel) ⟨Nat.le_of_ble_eq_true rfl, Nat.le_of_ble_eq_true rfl⟩) ⟨kzr_fb, va_recv hK hPc (ci := 1) (q0 := 0) rfl rfl, kzr_pre hPc hZ⟩ rfl rfl hl.1 rfl (lv_room (Nat.le_of_ble_eq_true rfl)) dFF_raw_22 ⟨Nat.zero_le _, Nat.zero_le _⟩) ?_
    refine lv_if_ne (tgt := 38) hx hb dFF_raw_25 (by decide) (fun c_6 => ?_) (fun c_6 => ?_)
    · have hf := ifF hf c_6
      exfalso
      obtain ⟨o7, o8, h9, hf⟩ := bd2_some hf
      cases hf
    · have hf := ifT hf c_6
      cases hf
      exact xt_thrS hx hb hst hown hX (List.mem_of_getElem? (i := 6) rfl) hP hD (hl.1.trans hml.symm) dFF_raw_28 dFF_raw_31 dFF_raw_32 dFF_raw_34 dFF_raw_37 hout (Nat.le_of_ble_eq_true rfl) (Nat.le_of_ble_eq_true rfl) (Nat.le_of_ble_eq_true rfl) (Nat.le_of_ble_eq_true rfl) hlocks
  · have hf := ifT hf c_3
    cases hf
    exact xt_thrA hx hb hst hown hX (List.mem_of_getElem? (i := 5) rfl) hP hD (hl.1.trans hml.symm) dFF_raw_7 dFF_raw_10 dFF_raw_11 dFF_raw_13 dFF_raw_16 hout (Nat.le_of_ble_eq_true rfl) (Nat.le_of_ble_eq_true rfl) (Nat.le_of_ble_eq_true rfl) (Nat.le_of_ble_eq_true rfl) hlocks
abbrev wsLL_raw : List Cond := Cond.codeWith yLL_raw cLL_raw 5 (some .int) [(0, 10, 13, 13), (0, 10, 17, 15)] :: tt
set_option maxHeartbeats 4000000 in
set_option maxRecDepth 100000 in
theorem cc_LL_raw (l : Launch) (hst : l.stackTraces = false) (dC : Nat → ClassId) (dI : Nat → Nat → Nat) (cI cZ cL cB : ClassId) (q_p0 q_p0_draft q_p0_table q_p0_tally q_p0_finder q_p0_row q_p0_row_cells q_p3 : Nat) (sz : Nat) (k_p0_row_size : Int32) (k_p0_row_place : Int32) (k_p0_row_cells : Nat → Int32) (n_p3 : Nat) (k_p3 : Nat → Int64) (a_1 : Int32) (a_2 : Int32) (r : Int32) (o_p0_row_size : Int32) (o_p0_row_cells : Nat → Int32) (o_p3 : Nat → Int64) (hf : f_LL_raw k_p0_row_size k_p0_row_place k_p0_row_cells n_p3 k_p3 a_1 a_2 = some (r, o_p0_row_size, o_p0_row_cells, o_p3)) : Met l yLL_raw wsLL_raw ({ frames := 7, cells := 1, slots := 6, locals := 104 }) (va_Pc [.ref q_p0, .int a_1, .int a_2, .ref q_p3] (kx_P dC dI cI cZ cL cB sz (w_LL_raw cI cZ cL cB q_p0 q_p0_draft q_p0_table q_p0_tally q_p0_finder q_p0_row q_p0_row_cells q_p3 k_p0_row_size k_p0_row_place k_p0_row_cells n_p3 k_p3))) (va_Qi (fun (r' : Int32) (_ : Unit) => r' = r) (fun _ t => va_P (dC, dI) vwCl (w_LL_raw cI cZ cL cB q_p0 q_p0_draft q_p0_table q_p0_tally q_p0_finder q_p0_row q_p0_row_cells q_p3 o_p0_row_size k_p0_row_place o_p0_row_cells n_p3 o_p3) t.heap ∧ va_D (va_A (w_LL_raw cI cZ cL cB q_p0 q_p0_draft q_p0_table q_p0_tally q_p0_finder q_p0_row q_p0_row_cells q_p3 k_p0_row_size k_p0_row_place k_p0_row_cells n_p3 k_p3) sz) (w_LL_raw cI cZ cL cB q_p0 q_p0_draft q_p0_table q_p0_tally q_p0_finder q_p0_row q_p0_row_cells q_p3 o_p0_row_size k_p0_row_place o_p0_row_cells n_p3 o_p3)) (va_A (w_LL_raw cI cZ cL cB q_p0 q_p0_draft q_p0_table q_p0_tally q_p0_finder q_p0_row q_p0_row_cells q_p3 k_p0_row_size k_p0_row_place k_p0_row_cells n_p3 k_p3) sz)) 1 6 (va_A (w_LL_raw cI cZ cL cB q_p0 q_p0_draft q_p0_table q_p0_tally q_p0_finder q_p0_row q_p0_row_cells q_p3 k_p0_row_size k_p0_row_place k_p0_row_cells n_p3 k_p3) sz) := by
  refine va_MetW (hh := [(0, 10, 13, 13), (0, 10, 17, 15)]) (cc := cLL_raw) (maxL := 5) (ret := (some .int)) (by decide) rfl ?_
  intro p e s m args below meth c s₁ B hml hv
  obtain ⟨rfl, ⟨hsz, hP, hZ, hD0⟩, hX⟩ := hv
  have hK := hZ.1
  have hx := B.exec
  have hb := B.bytes
  have hr := B.returns
  have hts : ∀ w ∈ tt, w.before _ s = true := fun w h => atoms_spec (ws := wsLL_raw) B.pre w (List.mem_cons_of_mem _ h)
  have hown : s.vm.findClass RLL = some m.cls := findClass_of_methodNamed B.named
  have hlocks := B.notSynchronized
  subst hsz
  have hD := hD0.self (sz := s.heap.size)
  generalize hAe : va_A (w_LL_raw cI cZ cL cB q_p0 q_p0_draft q_p0_table q_p0_tally q_p0_finder q_p0_row q_p0_row_cells q_p3 k_p0_row_size k_p0_row_place k_p0_row_cells n_p3 k_p3) s.heap.size = A at hD ⊢
  have hA : ∀ q : Nat, s.heap.size ≤ q → A q := fun q h => by rw [← hAe]; exact Or.inr h
  have hS : va_S A s.heap s.heap [] := va_S.rf
  have hl := lv_entry [.ref q_p0, .int a_1, .int a_2, .ref q_p3] (n := 5) (Nat.le_of_ble_eq_true rfl)
  rw [lg_entry_eq]
  generalize (lg_sl [.ref q_p0, .int a_1, .int a_2, .ref q_p3] ++ List.replicate (5 - (lg_sl [.ref q_p0, .int a_1, .int a_2, .ref q_p3]).length) Slot.unset).toArray = ls at hl ⊢
  have hl : lv_has ls 5 [(0, .ref q_p0), (1, .int a_1), (2, .int a_2), (3, .ref q_p3)] := hl
  obtain ⟨x1, x2, htb, e1, e2⟩ := xt_rows (xt_table (y := yLL_raw) B (atoms_spec (ws := wsLL_raw) B.pre _ List.mem_cons_self))
  simp only [Prod.mk.injEq] at e1 e2
  obtain ⟨ea1, eb1, ec1, ed1⟩ := e1
  obtain ⟨ea2, eb2, ec2, ed2⟩ := e2
  unfold f_LL_raw at hf
  refine lv_aload_n hx hb dLL_raw_0 rfl (lv_at hl 3 rfl) ?_
  refine lv_iconst (v := 0) hx hb dLL_raw_1 (by decide) ?_
  refine lv_aload_n hx hb dLL_raw_2 rfl (lv_at hl 0 rfl) ?_
  refine lv_iload_n hx hb dLL_raw_3 rfl (lv_at hl 1 rfl) ?_
  refine lv_iload_n hx hb dLL_raw_4 rfl (lv_at hl 2 rfl) ?_
  have hPc := hP.sub (ws' := (w_FF_raw cI cZ cL cB q_p0 q_p0_draft q_p0_table q_p0_tally q_p0_finder q_p0_row q_p0_row_cells k_p0_row_size k_p0_row_place k_p0_row_cells)) [0, 1, 2] rfl
  have hDc := hD.sub (ws' := (w_FF_raw cI cZ cL cB q_p0 q_p0_draft q_p0_table q_p0_tally q_p0_finder q_p0_row q_p0_row_cells k_p0_row_size k_p0_row_place k_p0_row_cells)) [0, 1, 2] (by decide) rfl
  rcases bx3_some hf with ⟨kx5, hk6, hf⟩ | ⟨r1, o2, o3, h4, hf⟩
  · refine xt_callV (As := [.int a_1, .int a_2]) (rest := [.int 0, .ref q_p3]) ⟨hx, hb, hml, hown, hts⟩ (cx_FF_raw l hst dC dI cI cZ cL cB q_p0 q_p0_draft q_p0_table q_p0_tally q_p0_finder q_p0_row q_p0_row_cells s.heap.size k_p0_row_size k_p0_row_place k_p0_row_cells a_1 a_2 kx5 hk6) (cwV 2 hts (tt_V tw_329 tw_330 tw_331 tw_21 tw_332) rfl rfl rfl (by decide +kernel) ⟨Nat.le_of_ble_eq_true rfl, Nat.le_of_ble_eq_true rfl⟩) ⟨kx_fb, va_recv hK hPc (ci := 5) (q0 := 0) rfl rfl, kx_pre hPc hZ hDc hX (fun _ _ => rfl)⟩ rfl rfl hl.1 rfl (lv_room (Nat.le_of_ble_eq_true rfl)) dLL_raw_5 ⟨Nat.le_of_ble_eq_true rfl, Nat.le_of_ble_eq_true rfl⟩ (fun qx st₀ t L h0 hal0 hal hL hxc => ?_)
    obtain ⟨⟨ce, hce, hcv, hcl⟩, hP, hD, hS⟩ := xt_after (wr := [(q_p3, .inl (cL, n_p3, .inr (.inl k_p3)))]) h0 hal0 hL hxc hP hD hS hA [0, 1, 2] [3] [1, 2, 3, 0] rfl rfl (by decide) (by decide) rfl (by decide)
    by_cases hk1 : kx5 = 1
    · have hf := ifT hf hk1
      have hcl : s.vm.findClass xIA = some ce.cls := by rw [xcls, if_pos hk1] at hcl; exact hcl
      refine xt_catch1 (own := RLL) (E := xIA) (n1 := xIA) hown htb (by simp [covers, ea1, eb1]) (by rw [ed1]; decide) (by rw [ed1]; exact hts _ tw_298) (xs_args xwA_ok hX.1 _ (xwA_has _ (List.mem_cons_of_mem _ List.mem_cons_self))) hce hcv hcl ?_
      rw [ec1]
      refine lv_astore (lv' := [(4, .ref qx), (0, .ref q_p0), (1, .int a_1), (2, .int a_2), (3, .ref q_p3)]) hx hb dLL_raw_13 hl (by decide) rfl (fun ls hl => ?_)
      refine lv_iconst (v := 1) hx hb dLL_raw_15 (by decide) ?_
      cases hf
      refine W.widen (k := 1) (n := 6) (by decide) (by decide) ?_
      exact ax_iret hx hb hr hP hD hS dLL_raw_16 hlocks
    · have hf := ifF hf hk1
      have hcl : s.vm.findClass xIS = some ce.cls := by rw [xcls, if_neg hk1] at hcl; exact hcl
      refine xt_catch2 (own := RLL) (E := xIS) (n1 := xIA) (n2 := xIS) hown htb (by simp [covers, ea1, eb1]) (by rw [ed1]; decide) (by simp [covers, ea2, eb2]) (by rw [ed2]; decide) (by rw [ed1]; exact hts _ tw_298) hX.2.2.2 (by rw [ed2]; exact hts _ tw_299) (xs_args xwS_ok hX.2.1 _ (xwS_has _ (List.mem_cons_of_mem _ List.mem_cons_self))) hce hcv hcl ?_
      rw [ec2]
      refine lv_astore (lv' := [(4, .ref qx), (0, .ref q_p0), (1, .int a_1), (2, .int a_2), (3, .ref q_p3)]) hx hb dLL_raw_17 hl (by decide) rfl (fun ls hl => ?_)
      refine lv_iconst (v := 2) hx hb dLL_raw_19 (by decide) ?_
      cases hf
      refine W.widen (k := 1) (n := 6) (by decide) (by decide) ?_
      exact ax_iret hx hb hr hP hD hS dLL_raw_20 hlocks
  · refine ax_calli (wr := [(q_p3, .inl (cL, n_p3, .inr (.inl k_p3)))]) (w2 := (w_LL_raw cI cZ cL cB q_p0 q_p0_draft q_p0_table q_p0_tally q_p0_finder q_p0_row q_p0_row_cells q_p3 o2 k_p0_row_place o3 n_p3 k_p3)) (va_runV (As := [.int a_1, .int a_2]) (rest := [.int 0, .ref q_p3]) ⟨hx, hb, hml, hown, hts⟩ (cc_FF_raw l dC dI cI cZ cL cB q_p0 q_p0_draft q_p0_table q_p0_tally q_p0_finder q_p0_row q_p0_row_cells s.heap.size k_p0_row_size k_p0_row_place k_p0_row_cells a_1 a_2 r1 o2 o3 h4) (cwV 2 hts (tt_V tw_329 tw_330 tw_331 tw_21 tw_332) rfl rfl rfl (by decide +kernel) ⟨Nat.le_of_ble_eq_true rfl, Nat.le_of_ble_eq_true rfl⟩) ⟨kz_fb, va_recv hK hPc (ci := 5) (q0 := 0) rfl rfl, kz_pre hPc hZ hDc⟩ rfl rfl hl.1 rfl (lv_room (Nat.le_of_ble_eq_true rfl)) dLL_raw_5 ⟨Nat.zero_le _, Nat.zero_le _⟩) hP hD hS hA [0, 1, 2] [3] [1, 2, 3, 0] rfl rfl (by decide) (by decide) rfl (by decide) (fun H locs hP hD hS => ?_)
    refine lv_i2l (v := r1.toInt64) hx hb dLL_raw_8 rfl ?_
    obtain ⟨g7, eg7, h8, hf⟩ := wrL_some hf
    refine ax_last hx hb hK hP hD hS 3 2 rfl rfl h8 eg7 dLL_raw_9 (ws' := (w_LL_raw cI cZ cL cB q_p0 q_p0_draft q_p0_table q_p0_tally q_p0_finder q_p0_row q_p0_row_cells q_p3 o2 k_p0_row_place o3 n_p3 g7)) rfl (fun H locs hP hD hS => ?_)
    refine lv_goto (tgt := 21) hx hb dLL_raw_10 (by decide) ?_
    refine lv_iconst (v := 0) hx hb dLL_raw_21 (by decide) ?_
    cases hf
    refine W.widen (k := 1) (n := 6) (by decide) (by decide) ?_
    exact ax_iret hx hb hr hP hD hS dLL_raw_22 hlocks
