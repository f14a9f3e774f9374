abbrev wsFD_init : List Cond := Cond.code yFD_init cFD_init 1 none :: tt
abbrev wi_FD_init (cI cZ cL cB : ClassId) (q : Nat) (u : Nat × Nat × Nat) : va_W := [(q, .inr (2, [.ref u.1, .ref u.2.1, .int 0, .ref u.2.2])), (u.1, .inl (cI, 17, .inl (fun _ => 0))), (u.2.1, .inl (cI, 256, .inl (fun _ => 0))), (u.2.2, .inl (cZ, 256, .inl (fun _ => 0)))]
set_option maxHeartbeats 4000000 in
set_option maxRecDepth 100000 in
theorem ci_FD_init (l : Launch) (dC : Nat → ClassId) (dI : Nat → Nat → Nat) (cI cZ cL cB : ClassId) (q sz : Nat) : Met l yFD_init wsFD_init ({ frames := 1, cells := 3, slots := 529, locals := 12 }) (va_Pc [.ref q] (kz_P dC dI cI cZ cL cB sz [(q, .inr (2, [.null, .null, .int 0, .null]))])) (va_Qv (fun (_ : Nat × Nat × Nat) => True) (fun u t => va_P (dC, dI) vwCl (wi_FD_init cI cZ cL cB q u) t.heap ∧ va_D (va_A [(q, .inr (2, [.null, .null, .int 0, .null]))] sz) (wi_FD_init cI cZ cL cB q u)) (va_A [(q, .inr (2, [.null, .null, .int 0, .null]))] sz)) 3 529 (va_A [(q, .inr (2, [.null, .null, .int 0, .null]))] sz) := by
  refine Met.ofW (cc := cFD_init) (maxL := 1) (ret := none) (by decide) rfl ?_
  intro p e s m args below meth c s₁ B hml hv
  obtain ⟨rfl, hsz, hP, hZ, hD0⟩ := hv
  have hK := hZ.1
  have hx := B.exec
  have hb := B.bytes
  have hr := B.returns
  have hts : ∀ w ∈ tt, w.before _ s = true := fun w h => atoms_spec (ws := wsFD_init) B.pre w (List.mem_cons_of_mem _ h)
  have hown : s.vm.findClass RFD = some m.cls := findClass_of_methodNamed B.named
  have hlocks := B.notSynchronized
  have hin : meth.name = "<init>" := (name_of_methodNamed B.named B.method).1
  subst hsz
  have hD := hD0.self (sz := s.heap.size)
  generalize hAe : va_A [(q, .inr (2, [.null, .null, .int 0, .null]))] s.heap.size = A at hD ⊢
  have hA : ∀ q : Nat, s.heap.size ≤ q → A q := fun q h => by rw [← hAe]; exact Or.inr h
  have hS : va_S A s.heap s.heap [] := va_S.rf
  have hl := lv_entry [.ref q] (n := 1) (Nat.le_of_ble_eq_true rfl)
  rw [lg_entry_eq]
  generalize (lg_sl [.ref q] ++ List.replicate (1 - (lg_sl [.ref q]).length) Slot.unset).toArray = ls at hl ⊢
  have hl : lv_has ls 1 [(0, .ref q)] := hl
  refine lv_aload_n hx hb dFD_init_0 rfl (lv_at hl 0 rfl) ?_
  refine W.objInit hx hb hown (hts _ tw_42) (hts _ tw_36) (hts _ tw_37) rfl (by rw [hml]; exact hl.1) rfl dFD_init_1 (Nat.le_of_ble_eq_true rfl) (Nat.le_of_ble_eq_true rfl) ?_
  refine W.eq (g2 := F0 m 4 ls []) rfl ?_
  refine lv_aload_n hx hb dFD_init_4 rfl (lv_at hl 0 rfl) ?_
  refine lv_bipush (v := 17) hx hb dFD_init_5 (by decide) ?_
  refine ax_newa (ty := .int) (a0 := (17, .inl (fun _ => 0))) hx hb (hts _ tw_54) rfl hK 0 rfl (fun _ h => h) hP hD hS hA (fun _ => rfl) (by decide) (show (17 : Int32).toNatClampNeg = 17 by decide) (by decide) (Nat.le_of_ble_eq_true rfl) (Nat.le_of_ble_eq_true rfl) dFD_init_7 (fun q1 H hP hD hS => ?_)
  have hP : va_P (dC, dI) vwCl [(q, .inr (2, [.null, .null, .int 0, .null])), (q1, .inl (cI, 17, .inl (fun _ => 0)))] H := hP
  have hD : va_D A [(q, .inr (2, [.null, .null, .int 0, .null])), (q1, .inl (cI, 17, .inl (fun _ => 0)))] := hD
  refine va_putF (D := (dC, dI)) (ci := 2) (v := .ref q1) (ty := (.array .int)) (C := RFD) (T := TFD) (N := 4) hx hb hts hi_FD tyFD tyFD_ok nmFD hown hK hP hD hS 0 rfl rfl 0 (by decide) (hts _ tw_43) (fun _ h9 => h9) rfl hin rfl (by decide +kernel) rfl rfl (Nat.le_of_ble_eq_true rfl) dFD_init_9 (fun H locs hP hD hS => ?_)
  have hP : va_P (dC, dI) vwCl [(q, .inr (2, [.ref q1, .null, .int 0, .null])), (q1, .inl (cI, 17, .inl (fun _ => 0)))] H := hP
  have hD : va_D A [(q, .inr (2, [.ref q1, .null, .int 0, .null])), (q1, .inl (cI, 17, .inl (fun _ => 0)))] := hD
  refine lv_aload_n hx hb dFD_init_12 rfl (lv_at hl 0 rfl) ?_
  refine lv_sipush (v := 256) hx hb dFD_init_13 (by decide) ?_
  refine ax_newa (ty := .int) (a0 := (256, .inl (fun _ => 0))) hx hb (hts _ tw_54) rfl hK 0 rfl (fun _ h => h) hP hD hS hA (fun _ => rfl) (by decide) (show (256 : Int32).toNatClampNeg = 256 by decide) (by decide) (Nat.le_of_ble_eq_true rfl) (Nat.le_of_ble_eq_true rfl) dFD_init_16 (fun q2 H hP hD hS => ?_)
  have hP : va_P (dC, dI) vwCl [(q, .inr (2, [.ref q1, .null, .int 0, .null])), (q1, .inl (cI, 17, .inl (fun _ => 0))), (q2, .inl (cI, 256, .inl (fun _ => 0)))] H := hP
  have hD : va_D A [(q, .inr (2, [.ref q1, .null, .int 0, .null])), (q1, .inl (cI, 17, .inl (fun _ => 0))), (q2, .inl (cI, 256, .inl (fun _ => 0)))] := hD
  refine va_putF (D := (dC, dI)) (ci := 2) (v := .ref q2) (ty := (.array .int)) (C := RFD) (T := TFD) (N := 4) hx hb hts hi_FD tyFD tyFD_ok nmFD hown hK hP hD hS 0 rfl rfl 1 (by decide) (hts _ tw_45) (fun _ h9 => h9) rfl hin rfl (by decide +kernel) rfl rfl (Nat.le_of_ble_eq_true rfl) dFD_init_18 (fun H locs hP hD hS => ?_)
  have hP : va_P (dC, dI) vwCl [(q, .inr (2, [.ref q1, .ref q2, .int 0, .null])), (q1, .inl (cI, 17, .inl (fun _ => 0))), (q2, .inl (cI, 256, .inl (fun _ => 0)))] H := hP
  have hD : va_D A [(q, .inr (2, [.ref q1, .ref q2, .int 0, .null])), (q1, .inl (cI, 17, .inl (fun _ => 0))), (q2, .inl (cI, 256, .inl (fun _ => 0)))] := hD
  refine lv_aload_n hx hb dFD_init_21 rfl (lv_at hl 0 rfl) ?_
  refine lv_sipush (v := 256) hx hb dFD_init_22 (by decide) ?_
  refine ax_newa (ty := .boolean) (a0 := (256, .inl (fun _ => 0))) hx hb (hts _ tw_55) rfl hK 1 rfl (fun _ h => h) hP hD hS hA (fun _ => rfl) (by decide) (show (256 : Int32).toNatClampNeg = 256 by decide) (by decide) (Nat.le_of_ble_eq_true rfl) (Nat.le_of_ble_eq_true rfl) dFD_init_25 (fun q3 H hP hD hS => ?_)
  have hP : va_P (dC, dI) vwCl [(q, .inr (2, [.ref q1, .ref q2, .int 0, .null])), (q1, .inl (cI, 17, .inl (fun _ => 0))), (q2, .inl (cI, 256, .inl (fun _ => 0))), (q3, .inl (cZ, 256, .inl (fun _ => 0)))] H := hP
  have hD : va_D A [(q, .inr (2, [.ref q1, .ref q2, .int 0, .null])), (q1, .inl (cI, 17, .inl (fun _ => 0))), (q2, .inl (cI, 256, .inl (fun _ => 0))), (q3, .inl (cZ, 256, .inl (fun _ => 0)))] := hD
  refine va_putF (D := (dC, dI)) (ci := 2) (v := .ref q3) (ty := (.array .boolean)) (C := RFD) (T := TFD) (N := 4) hx hb hts hi_FD tyFD tyFD_ok nmFD hown hK hP hD hS 0 rfl rfl 3 (by decide) (hts _ tw_49) (fun _ h9 => h9) rfl hin rfl (by decide +kernel) rfl rfl (Nat.le_of_ble_eq_true rfl) dFD_init_27 (fun H locs hP hD hS => ?_)
  have hP : va_P (dC, dI) vwCl [(q, .inr (2, [.ref q1, .ref q2, .int 0, .ref q3])), (q1, .inl (cI, 17, .inl (fun _ => 0))), (q2, .inl (cI, 256, .inl (fun _ => 0))), (q3, .inl (cZ, 256, .inl (fun _ => 0)))] H := hP
  have hD : va_D A [(q, .inr (2, [.ref q1, .ref q2, .int 0, .ref q3])), (q1, .inl (cI, 17, .inl (fun _ => 0))), (q2, .inl (cI, 256, .inl (fun _ => 0))), (q3, .inl (cZ, 256, .inl (fun _ => 0)))] := hD
  refine W.widen (k := 3) (n := 529) (Nat.le_of_ble_eq_true rfl) (Nat.le_of_ble_eq_true rfl) ?_
  exact ax_cret (u := (q1, q2, q3)) hx hb hr hP hD hS dFD_init_30 hlocks
abbrev wsFT_init : List Cond := Cond.code yFT_init cFT_init 1 none :: tt
abbrev wi_FT_init (cI cZ cL cB : ClassId) (q : Nat) (u : Nat × Nat × Nat × Nat) : va_W := [(q, .inr (3, [.ref u.1, .ref u.2.1, .ref u.2.2.1, .ref u.2.2.2, .int 0])), (u.1, .inl (cI, 17, .inl (fun _ => 0))), (u.2.1, .inl (cI, 256, .inl (fun _ => 0))), (u.2.2.1, .inl (cI, 256, .inl (fun _ => 0))), (u.2.2.2, .inl (cI, 256, .inl (fun _ => 0)))]
set_option maxHeartbeats 4000000 in
set_option maxRecDepth 100000 in
theorem ci_FT_init (l : Launch) (dC : Nat → ClassId) (dI : Nat → Nat → Nat) (cI cZ cL cB : ClassId) (q sz : Nat) : Met l yFT_init wsFT_init ({ frames := 1, cells := 4, slots := 785, locals := 12 }) (va_Pc [.ref q] (kz_P dC dI cI cZ cL cB sz [(q, .inr (3, [.null, .null, .null, .null, .int 0]))])) (va_Qv (fun (_ : Nat × Nat × Nat × Nat) => True) (fun u t => va_P (dC, dI) vwCl (wi_FT_init cI cZ cL cB q u) t.heap ∧ va_D (va_A [(q, .inr (3, [.null, .null, .null, .null, .int 0]))] sz) (wi_FT_init cI cZ cL cB q u)) (va_A [(q, .inr (3, [.null, .null, .null, .null, .int 0]))] sz)) 4 785 (va_A [(q, .inr (3, [.null, .null, .null, .null, .int 0]))] sz) := by
  refine Met.ofW (cc := cFT_init) (maxL := 1) (ret := none) (by decide) rfl ?_
  intro p e s m args below meth c s₁ B hml hv
  obtain ⟨rfl, hsz, hP, hZ, hD0⟩ := hv
  have hK := hZ.1
  have hx := B.exec
  have hb := B.bytes
  have hr := B.returns
  have hts : ∀ w ∈ tt, w.before _ s = true := fun w h => atoms_spec (ws := wsFT_init) B.pre w (List.mem_cons_of_mem _ h)
  have hown : s.vm.findClass RFT = some m.cls := findClass_of_methodNamed B.named
  have hlocks := B.notSynchronized
  have hin : meth.name = "<init>" := (name_of_methodNamed B.named B.method).1
  subst hsz
  have hD := hD0.self (sz := s.heap.size)
  generalize hAe : va_A [(q, .inr (3, [.null, .null, .null, .null, .int 0]))] s.heap.size = A at hD ⊢
  have hA : ∀ q : Nat, s.heap.size ≤ q → A q := fun q h => by rw [← hAe]; exact Or.inr h
  have hS : va_S A s.heap s.heap [] := va_S.rf
  have hl := lv_entry [.ref q] (n := 1) (Nat.le_of_ble_eq_true rfl)
  rw [lg_entry_eq]
  generalize (lg_sl [.ref q] ++ List.replicate (1 - (lg_sl [.ref q]).length) Slot.unset).toArray = ls at hl ⊢
  have hl : lv_has ls 1 [(0, .ref q)] := hl
  refine lv_aload_n hx hb dFT_init_0 rfl (lv_at hl 0 rfl) ?_
  refine W.objInit hx hb hown (hts _ tw_60) (hts _ tw_36) (hts _ tw_37) rfl (by rw [hml]; exact hl.1) rfl dFT_init_1 (Nat.le_of_ble_eq_true rfl) (Nat.le_of_ble_eq_true rfl) ?_
  refine W.eq (g2 := F0 m 4 ls []) rfl ?_
  refine lv_aload_n hx hb dFT_init_4 rfl (lv_at hl 0 rfl) ?_
  refine lv_bipush (v := 17) hx hb dFT_init_5 (by decide) ?_
  refine ax_newa (ty := .int) (a0 := (17, .inl (fun _ => 0))) hx hb (hts _ tw_54) rfl hK 0 rfl (fun _ h => h) hP hD hS hA (fun _ => rfl) (by decide) (show (17 : Int32).toNatClampNeg = 17 by decide) (by decide) (Nat.le_of_ble_eq_true rfl) (Nat.le_of_ble_eq_true rfl) dFT_init_7 (fun q1 H hP hD hS => ?_)
  have hP : va_P (dC, dI) vwCl [(q, .inr (3, [.null, .null, .null, .null, .int 0])), (q1, .inl (cI, 17, .inl (fun _ => 0)))] H := hP
  have hD : va_D A [(q, .inr (3, [.null, .null, .null, .null, .int 0])), (q1, .inl (cI, 17, .inl (fun _ => 0)))] := hD
  refine va_putF (D := (dC, dI)) (ci := 3) (v := .ref q1) (ty := (.array .int)) (C := RFT) (T := TFT) (N := 5) hx hb hts hi_FT tyFT tyFT_ok nmFT hown hK hP hD hS 0 rfl rfl 0 (by decide) (hts _ tw_61) (fun _ h9 => h9) rfl hin rfl (by decide +kernel) rfl rfl (Nat.le_of_ble_eq_true rfl) dFT_init_9 (fun H locs hP hD hS => ?_)
  have hP : va_P (dC, dI) vwCl [(q, .inr (3, [.ref q1, .null, .null, .null, .int 0])), (q1, .inl (cI, 17, .inl (fun _ => 0)))] H := hP
  have hD : va_D A [(q, .inr (3, [.ref q1, .null, .null, .null, .int 0])), (q1, .inl (cI, 17, .inl (fun _ => 0)))] := hD
  refine lv_aload_n hx hb dFT_init_12 rfl (lv_at hl 0 rfl) ?_
  refine lv_sipush (v := 256) hx hb dFT_init_13 (by decide) ?_
  refine ax_newa (ty := .int) (a0 := (256, .inl (fun _ => 0))) hx hb (hts _ tw_54) rfl hK 0 rfl (fun _ h => h) hP hD hS hA (fun _ => rfl) (by decide) (show (256 : Int32).toNatClampNeg = 256 by decide) (by decide) (Nat.le_of_ble_eq_true rfl) (Nat.le_of_ble_eq_true rfl) dFT_init_16 (fun q2 H hP hD hS => ?_)
  have hP : va_P (dC, dI) vwCl [(q, .inr (3, [.ref q1, .null, .null, .null, .int 0])), (q1, .inl (cI, 17, .inl (fun _ => 0))), (q2, .inl (cI, 256, .inl (fun _ => 0)))] H := hP
  have hD : va_D A [(q, .inr (3, [.ref q1, .null, .null, .null, .int 0])), (q1, .inl (cI, 17, .inl (fun _ => 0))), (q2, .inl (cI, 256, .inl (fun _ => 0)))] := hD
  refine va_putF (D := (dC, dI)) (ci := 3) (v := .ref q2) (ty := (.array .int)) (C := RFT) (T := TFT) (N := 5) hx hb hts hi_FT tyFT tyFT_ok nmFT hown hK hP hD hS 0 rfl rfl 1 (by decide) (hts _ tw_63) (fun _ h9 => h9) rfl hin rfl (by decide +kernel) rfl rfl (Nat.le_of_ble_eq_true rfl) dFT_init_18 (fun H locs hP hD hS => ?_)
  have hP : va_P (dC, dI) vwCl [(q, .inr (3, [.ref q1, .ref q2, .null, .null, .int 0])), (q1, .inl (cI, 17, .inl (fun _ => 0))), (q2, .inl (cI, 256, .inl (fun _ => 0)))] H := hP
  have hD : va_D A [(q, .inr (3, [.ref q1, .ref q2, .null, .null, .int 0])), (q1, .inl (cI, 17, .inl (fun _ => 0))), (q2, .inl (cI, 256, .inl (fun _ => 0)))] := hD
  refine lv_aload_n hx hb dFT_init_21 rfl (lv_at hl 0 rfl) ?_
  refine lv_sipush (v := 256) hx hb dFT_init_22 (by decide) ?_
  refine ax_newa (ty := .int) (a0 := (256, .inl (fun _ => 0))) hx hb (hts _ tw_54) rfl hK 0 rfl (fun _ h => h) hP hD hS hA (fun _ => rfl) (by decide) (show (256 : Int32).toNatClampNeg = 256 by decide) (by decide) (Nat.le_of_ble_eq_true rfl) (Nat.le_of_ble_eq_true rfl) dFT_init_25 (fun q3 H hP hD hS => ?_)
  have hP : va_P (dC, dI) vwCl [(q, .inr (3, [.ref q1, .ref q2, .null, .null, .int 0])), (q1, .inl (cI, 17, .inl (fun _ => 0))), (q2, .inl (cI, 256, .inl (fun _ => 0))), (q3, .inl (cI, 256, .inl (fun _ => 0)))] H := hP
  have hD : va_D A [(q, .inr (3, [.ref q1, .ref q2, .null, .null, .int 0])), (q1, .inl (cI, 17, .inl (fun _ => 0))), (q2, .inl (cI, 256, .inl (fun _ => 0))), (q3, .inl (cI, 256, .inl (fun _ => 0)))] := hD
  refine va_putF (D := (dC, dI)) (ci := 3) (v := .ref q3) (ty := (.array .int)) (C := RFT) (T := TFT) (N := 5) hx hb hts hi_FT tyFT tyFT_ok nmFT hown hK hP hD hS 0 rfl rfl 2 (by decide) (hts _ tw_65) (fun _ h9 => h9) rfl hin rfl (by decide +kernel) rfl rfl (Nat.le_of_ble_eq_true rfl) dFT_init_27 (fun H locs hP hD hS => ?_)
  have hP : va_P (dC, dI) vwCl [(q, .inr (3, [.ref q1, .ref q2, .ref q3, .null, .int 0])), (q1, .inl (cI, 17, .inl (fun _ => 0))), (q2, .inl (cI, 256, .inl (fun _ => 0))), (q3, .inl (cI, 256, .inl (fun _ => 0)))] H := hP
  have hD : va_D A [(q, .inr (3, [.ref q1, .ref q2, .ref q3, .null, .int 0])), (q1, .inl (cI, 17, .inl (fun _ => 0))), (q2, .inl (cI, 256, .inl (fun _ => 0))), (q3, .inl (cI, 256, .inl (fun _ => 0)))] := hD
  refine lv_aload_n hx hb dFT_init_30 rfl (lv_at hl 0 rfl) ?_
  refine lv_sipush (v := 256) hx hb dFT_init_31 (by decide) ?_
  refine ax_newa (ty := .int) (a0 := (256, .inl (fun _ => 0))) hx hb (hts _ tw_54) rfl hK 0 rfl (fun _ h => h) hP hD hS hA (fun _ => rfl) (by decide) (show (256 : Int32).toNatClampNeg = 256 by decide) (by decide) (Nat.le_of_ble_eq_true rfl) (Nat.le_of_ble_eq_true rfl) dFT_init_34 (fun q4 H hP hD hS => ?_)
  have hP : va_P (dC, dI) vwCl [(q, .inr (3, [.ref q1, .ref q2, .ref q3, .null, .int 0])), (q1, .inl (cI, 17, .inl (fun _ => 0))), (q2, .inl (cI, 256, .inl (fun _ => 0))), (q3, .inl (cI, 256, .inl (fun _ => 0))), (q4, .inl (cI, 256, .inl (fun _ => 0)))] H := hP
  have hD : va_D A [(q, .inr (3, [.ref q1, .ref q2, .ref q3, .null, .int 0])), (q1, .inl (cI, 17, .inl (fun _ => 0))), (q2, .inl (cI, 256, .inl (fun _ => 0))), (q3, .inl (cI, 256, .inl (fun _ => 0))), (q4, .inl (cI, 256, .inl (fun _ => 0)))] := hD
  refine va_putF (D := (dC, dI)) (ci := 3) (v := .ref q4) (ty := (.array .int)) (C := RFT) (T := TFT) (N := 5) hx hb hts hi_FT tyFT tyFT_ok nmFT hown hK hP hD hS 0 rfl rfl 3 (by decide) (hts _ tw_67) (fun _ h9 => h9) rfl hin rfl (by decide +kernel) rfl rfl (Nat.le_of_ble_eq_true rfl) dFT_init_36 (fun H locs hP hD hS => ?_)
  have hP : va_P (dC, dI) vwCl [(q, .inr (3, [.ref q1, .ref q2, .ref q3, .ref q4, .int 0])), (q1, .inl (cI, 17, .inl (fun _ => 0))), (q2, .inl (cI, 256, .inl (fun _ => 0))), (q3, .inl (cI, 256, .inl (fun _ => 0))), (q4, .inl (cI, 256, .inl (fun _ => 0)))] H := hP
  have hD : va_D A [(q, .inr (3, [.ref q1, .ref q2, .ref q3, .ref q4, .int 0])), (q1, .inl (cI, 17, .inl (fun _ => 0))), (q2, .inl (cI, 256, .inl (fun _ => 0))), (q3, .inl (cI, 256, .inl (fun _ => 0))), (q4, .inl (cI, 256, .inl (fun _ => 0)))] := hD
  refine W.widen (k := 4) (n := 785) (Nat.le_of_ble_eq_true rfl) (Nat.le_of_ble_eq_true rfl) ?_
  exact ax_cret (u := (q1, q2, q3, q4)) hx hb hr hP hD hS dFT_init_39 hlocks
abbrev wsFY_init : List Cond := Cond.code yFY_init cFY_init 1 none :: tt
abbrev wi_FY_init (cI cZ cL cB : ClassId) (q : Nat) (u : Nat) : va_W := [(q, .inr (4, [.ref u, .int 0])), (u, .inl (cI, 256, .inl (fun _ => 0)))]
set_option maxHeartbeats 4000000 in
set_option maxRecDepth 100000 in
theorem ci_FY_init (l : Launch) (dC : Nat → ClassId) (dI : Nat → Nat → Nat) (cI cZ cL cB : ClassId) (q sz : Nat) : Met l yFY_init wsFY_init ({ frames := 1, cells := 1, slots := 256, locals := 12 }) (va_Pc [.ref q] (kz_P dC dI cI cZ cL cB sz [(q, .inr (4, [.null, .int 0]))])) (va_Qv (fun (_ : Nat) => True) (fun u t => va_P (dC, dI) vwCl (wi_FY_init cI cZ cL cB q u) t.heap ∧ va_D (va_A [(q, .inr (4, [.null, .int 0]))] sz) (wi_FY_init cI cZ cL cB q u)) (va_A [(q, .inr (4, [.null, .int 0]))] sz)) 1 256 (va_A [(q, .inr (4, [.null, .int 0]))] sz) := by
  refine Met.ofW (cc := cFY_init) (maxL := 1) (ret := none) (by decide) rfl ?_
  intro p e s m args below meth c s₁ B hml hv
  obtain ⟨rfl, hsz, hP, hZ, hD0⟩ := hv
  have hK := hZ.1
  have hx := B.exec
  have hb := B.bytes
  have hr := B.returns
  have hts : ∀ w ∈ tt, w.before _ s = true := fun w h => atoms_spec (ws := wsFY_init) B.pre w (List.mem_cons_of_mem _ h)
  have hown : s.vm.findClass RFY = some m.cls := findClass_of_methodNamed B.named
  have hlocks := B.notSynchronized
  have hin : meth.name = "<init>" := (name_of_methodNamed B.named B.method).1
  subst hsz
  have hD := hD0.self (sz := s.heap.size)
  generalize hAe : va_A [(q, .inr (4, [.null, .int 0]))] s.heap.size = A at hD ⊢
  have hA : ∀ q : Nat, s.heap.size ≤ q → A q := fun q h => by rw [← hAe]; exact Or.inr h
  have hS : va_S A s.heap s.heap [] := va_S.rf
  have hl := lv_entry [.ref q] (n := 1) (Nat.le_of_ble_eq_true rfl)
  rw [lg_entry_eq]
  generalize (lg_sl [.ref q] ++ List.replicate (1 - (lg_sl [.ref q]).length) Slot.unset).toArray = ls at hl ⊢
  have hl : lv_has ls 1 [(0, .ref q)] := hl
  refine lv_aload_n hx hb dFY_init_0 rfl (lv_at hl 0 rfl) ?_
  refine W.objInit hx hb hown (hts _ tw_80) (hts _ tw_36) (hts _ tw_37) rfl (by rw [hml]; exact hl.1) rfl dFY_init_1 (Nat.le_of_ble_eq_true rfl) (Nat.le_of_ble_eq_true rfl) ?_
  refine W.eq (g2 := F0 m 4 ls []) rfl ?_
  refine lv_aload_n hx hb dFY_init_4 rfl (lv_at hl 0 rfl) ?_
  refine lv_sipush (v := 256) hx hb dFY_init_5 (by decide) ?_
  refine ax_newa (ty := .int) (a0 := (256, .inl (fun _ => 0))) hx hb (hts _ tw_54) rfl hK 0 rfl (fun _ h => h) hP hD hS hA (fun _ => rfl) (by decide) (show (256 : Int32).toNatClampNeg = 256 by decide) (by decide) (Nat.le_of_ble_eq_true rfl) (Nat.le_of_ble_eq_true rfl) dFY_init_8 (fun q1 H hP hD hS => ?_)
  have hP : va_P (dC, dI) vwCl [(q, .inr (4, [.null, .int 0])), (q1, .inl (cI, 256, .inl (fun _ => 0)))] H := hP
  have hD : va_D A [(q, .inr (4, [.null, .int 0])), (q1, .inl (cI, 256, .inl (fun _ => 0)))] := hD
  refine va_putF (D := (dC, dI)) (ci := 4) (v := .ref q1) (ty := (.array .int)) (C := RFY) (T := TFY) (N := 2) hx hb hts hi_FY tyFY tyFY_ok nmFY hown hK hP hD hS 0 rfl rfl 0 (by decide) (hts _ tw_81) (fun _ h9 => h9) rfl hin rfl (by decide +kernel) rfl rfl (Nat.le_of_ble_eq_true rfl) dFY_init_10 (fun H locs hP hD hS => ?_)
  have hP : va_P (dC, dI) vwCl [(q, .inr (4, [.ref q1, .int 0])), (q1, .inl (cI, 256, .inl (fun _ => 0)))] H := hP
  have hD : va_D A [(q, .inr (4, [.ref q1, .int 0])), (q1, .inl (cI, 256, .inl (fun _ => 0)))] := hD
  refine W.widen (k := 1) (n := 256) (Nat.le_of_ble_eq_true rfl) (Nat.le_of_ble_eq_true rfl) ?_
  exact ax_cret (u := q1) hx hb hr hP hD hS dFY_init_13 hlocks
abbrev wsFB_init : List Cond := Cond.code yFB_init cFB_init 1 none :: tt
abbrev wi_FB_init (cI cZ cL cB : ClassId) (q : Nat) (u : Nat × Nat × Nat × Nat × Nat × Nat × Nat) : va_W := [(q, .inr (0, [.ref u.1, .ref u.2.1, .ref u.2.2.1, .ref u.2.2.2.1, .int 0, .ref u.2.2.2.2.1, .ref u.2.2.2.2.2.1, .ref u.2.2.2.2.2.2, .int 0])), (u.1, .inl (cI, 257, .inl (fun _ => 0))), (u.2.1, .inl (cI, 256, .inl (fun _ => 0))), (u.2.2.1, .inl (cI, 257, .inl (fun _ => 0))), (u.2.2.2.1, .inl (cI, 257, .inl (fun _ => 0))), (u.2.2.2.2.1, .inl (cI, 257, .inl (fun _ => 0))), (u.2.2.2.2.2.1, .inl (cI, 513, .inl (fun _ => 0))), (u.2.2.2.2.2.2, .inl (cI, 513, .inl (fun _ => 0)))]
set_option maxHeartbeats 4000000 in
set_option maxRecDepth 100000 in
theorem ci_FB_init (l : Launch) (dC : Nat → ClassId) (dI : Nat → Nat → Nat) (cI cZ cL cB : ClassId) (q sz : Nat) : Met l yFB_init wsFB_init ({ frames := 1, cells := 7, slots := 2310, locals := 12 }) (va_Pc [.ref q] (kz_P dC dI cI cZ cL cB sz [(q, .inr (0, [.null, .null, .null, .null, .int 0, .null, .null, .null, .int 0]))])) (va_Qv (fun (_ : Nat × Nat × Nat × Nat × Nat × Nat × Nat) => True) (fun u t => va_P (dC, dI) vwCl (wi_FB_init cI cZ cL cB q u) t.heap ∧ va_D (va_A [(q, .inr (0, [.null, .null, .null, .null, .int 0, .null, .null, .null, .int 0]))] sz) (wi_FB_init cI cZ cL cB q u)) (va_A [(q, .inr (0, [.null, .null, .null, .null, .int 0, .null, .null, .null, .int 0]))] sz)) 7 2310 (va_A [(q, .inr (0, [.null, .null, .null, .null, .int 0, .null, .null, .null, .int 0]))] sz) := by
  refine Met.ofW (cc := cFB_init) (maxL := 1) (ret := none) (by decide) rfl ?_
  intro p e s m args below meth c s₁ B hml hv
  obtain ⟨rfl, hsz, hP, hZ, hD0⟩ := hv
  have hK := hZ.1
  have hx := B.exec
  have hb := B.bytes
  have hr := B.returns
  have hts : ∀ w ∈ tt, w.before _ s = true := fun w h => atoms_spec (ws := wsFB_init) B.pre w (List.mem_cons_of_mem _ h)
  have hown : s.vm.findClass RFB = some m.cls := findClass_of_methodNamed B.named
  have hlocks := B.notSynchronized
  have hin : meth.name = "<init>" := (name_of_methodNamed B.named B.method).1
  subst hsz
  have hD := hD0.self (sz := s.heap.size)
  generalize hAe : va_A [(q, .inr (0, [.null, .null, .null, .null, .int 0, .null, .null, .null, .int 0]))] s.heap.size = A at hD ⊢
  have hA : ∀ q : Nat, s.heap.size ≤ q → A q := fun q h => by rw [← hAe]; exact Or.inr h
  have hS : va_S A s.heap s.heap [] := va_S.rf
  have hl := lv_entry [.ref q] (n := 1) (Nat.le_of_ble_eq_true rfl)
  rw [lg_entry_eq]
  generalize (lg_sl [.ref q] ++ List.replicate (1 - (lg_sl [.ref q]).length) Slot.unset).toArray = ls at hl ⊢
  have hl : lv_has ls 1 [(0, .ref q)] := hl
  refine lv_aload_n hx hb dFB_init_0 rfl (lv_at hl 0 rfl) ?_
  refine W.objInit hx hb hown (hts _ tw_91) (hts _ tw_36) (hts _ tw_37) rfl (by rw [hml]; exact hl.1) rfl dFB_init_1 (Nat.le_of_ble_eq_true rfl) (Nat.le_of_ble_eq_true rfl) ?_
  refine W.eq (g2 := F0 m 4 ls []) rfl ?_
  refine lv_aload_n hx hb dFB_init_4 rfl (lv_at hl 0 rfl) ?_
  refine lv_sipush (v := 257) hx hb dFB_init_5 (by decide) ?_
  refine ax_newa (ty := .int) (a0 := (257, .inl (fun _ => 0))) hx hb (hts _ tw_54) rfl hK 0 rfl (fun _ h => h) hP hD hS hA (fun _ => rfl) (by decide) (show (257 : Int32).toNatClampNeg = 257 by decide) (by decide) (Nat.le_of_ble_eq_true rfl) (Nat.le_of_ble_eq_true rfl) dFB_init_8 (fun q1 H hP hD hS => ?_)
  have hP : va_P (dC, dI) vwCl [(q, .inr (0, [.null, .null, .null, .null, .int 0, .null, .null, .null, .int 0])), (q1, .inl (cI, 257, .inl (fun _ => 0)))] H := hP
  have hD : va_D A [(q, .inr (0, [.null, .null, .null, .null, .int 0, .null, .null, .null, .int 0])), (q1, .inl (cI, 257, .inl (fun _ => 0)))] := hD
  refine va_putF (D := (dC, dI)) (ci := 0) (v := .ref q1) (ty := (.array .int)) (C := RFB) (T := TFB) (N := 9) hx hb hts hi_FB tyFB tyFB_ok nmFB hown hK hP hD hS 0 rfl rfl 0 (by decide) (hts _ tw_92) (fun _ h9 => h9) rfl hin rfl (by decide +kernel) rfl rfl (Nat.le_of_ble_eq_true rfl) dFB_init_10 (fun H locs hP hD hS => ?_)
  have hP : va_P (dC, dI) vwCl [(q, .inr (0, [.ref q1, .null, .null, .null, .int 0, .null, .null, .null, .int 0])), (q1, .inl (cI, 257, .inl (fun _ => 0)))] H := hP
  have hD : va_D A [(q, .inr (0, [.ref q1, .null, .null, .null, .int 0, .null, .null, .null, .int 0])), (q1, .inl (cI, 257, .inl (fun _ => 0)))] := hD
  refine lv_aload_n hx hb dFB_init_13 rfl (lv_at hl 0 rfl) ?_
  refine lv_sipush (v := 256) hx hb dFB_init_14 (by decide) ?_
  refine ax_newa (ty := .int) (a0 := (256, .inl (fun _ => 0))) hx hb (hts _ tw_54) rfl hK 0 rfl (fun _ h => h) hP hD hS hA (fun _ => rfl) (by decide) (show (256 : Int32).toNatClampNeg = 256 by decide) (by decide) (Nat.le_of_ble_eq_true rfl) (Nat.le_of_ble_eq_true rfl) dFB_init_17 (fun q2 H hP hD hS => ?_)
  have hP : va_P (dC, dI) vwCl [(q, .inr (0, [.ref q1, .null, .null, .null, .int 0, .null, .null, .null, .int 0])), (q1, .inl (cI, 257, .inl (fun _ => 0))), (q2, .inl (cI, 256, .inl (fun _ => 0)))] H := hP
  have hD : va_D A [(q, .inr (0, [.ref q1, .null, .null, .null, .int 0, .null, .null, .null, .int 0])), (q1, .inl (cI, 257, .inl (fun _ => 0))), (q2, .inl (cI, 256, .inl (fun _ => 0)))] := hD
  refine va_putF (D := (dC, dI)) (ci := 0) (v := .ref q2) (ty := (.array .int)) (C := RFB) (T := TFB) (N := 9) hx hb hts hi_FB tyFB tyFB_ok nmFB hown hK hP hD hS 0 rfl rfl 1 (by decide) (hts _ tw_94) (fun _ h9 => h9) rfl hin rfl (by decide +kernel) rfl rfl (Nat.le_of_ble_eq_true rfl) dFB_init_19 (fun H locs hP hD hS => ?_)
  have hP : va_P (dC, dI) vwCl [(q, .inr (0, [.ref q1, .ref q2, .null, .null, .int 0, .null, .null, .null, .int 0])), (q1, .inl (cI, 257, .inl (fun _ => 0))), (q2, .inl (cI, 256, .inl (fun _ => 0)))] H := hP
  have hD : va_D A [(q, .inr (0, [.ref q1, .ref q2, .null, .null, .int 0, .null, .null, .null, .int 0])), (q1, .inl (cI, 257, .inl (fun _ => 0))), (q2, .inl (cI, 256, .inl (fun _ => 0)))] := hD
  refine lv_aload_n hx hb dFB_init_22 rfl (lv_at hl 0 rfl) ?_
  refine lv_sipush (v := 257) hx hb dFB_init_23 (by decide) ?_
  refine ax_newa (ty := .int) (a0 := (257, .inl (fun _ => 0))) hx hb (hts _ tw_54) rfl hK 0 rfl (fun _ h => h) hP hD hS hA (fun _ => rfl) (by decide) (show (257 : Int32).toNatClampNeg = 257 by decide) (by decide) (Nat.le_of_ble_eq_true rfl) (Nat.le_of_ble_eq_true rfl) dFB_init_26 (fun q3 H hP hD hS => ?_)
  have hP : va_P (dC, dI) vwCl [(q, .inr (0, [.ref q1, .ref q2, .null, .null, .int 0, .null, .null, .null, .int 0])), (q1, .inl (cI, 257, .inl (fun _ => 0))), (q2, .inl (cI, 256, .inl (fun _ => 0))), (q3, .inl (cI, 257, .inl (fun _ => 0)))] H := hP
  have hD : va_D A [(q, .inr (0, [.ref q1, .ref q2, .null, .null, .int 0, .null, .null, .null, .int 0])), (q1, .inl (cI, 257, .inl (fun _ => 0))), (q2, .inl (cI, 256, .inl (fun _ => 0))), (q3, .inl (cI, 257, .inl (fun _ => 0)))] := hD
  refine va_putF (D := (dC, dI)) (ci := 0) (v := .ref q3) (ty := (.array .int)) (C := RFB) (T := TFB) (N := 9) hx hb hts hi_FB tyFB tyFB_ok nmFB hown hK hP hD hS 0 rfl rfl 2 (by decide) (hts _ tw_96) (fun _ h9 => h9) rfl hin rfl (by decide +kernel) rfl rfl (Nat.le_of_ble_eq_true rfl) dFB_init_28 (fun H locs hP hD hS => ?_)
  have hP : va_P (dC, dI) vwCl [(q, .inr (0, [.ref q1, .ref q2, .ref q3, .null, .int 0, .null, .null, .null, .int 0])), (q1, .inl (cI, 257, .inl (fun _ => 0))), (q2, .inl (cI, 256, .inl (fun _ => 0))), (q3, .inl (cI, 257, .inl (fun _ => 0)))] H := hP
  have hD : va_D A [(q, .inr (0, [.ref q1, .ref q2, .ref q3, .null, .int 0, .null, .null, .null, .int 0])), (q1, .inl (cI, 257, .inl (fun _ => 0))), (q2, .inl (cI, 256, .inl (fun _ => 0))), (q3, .inl (cI, 257, .inl (fun _ => 0)))] := hD
  refine lv_aload_n hx hb dFB_init_31 rfl (lv_at hl 0 rfl) ?_
  refine lv_sipush (v := 257) hx hb dFB_init_32 (by decide) ?_
  refine ax_newa (ty := .int) (a0 := (257, .inl (fun _ => 0))) hx hb (hts _ tw_54) rfl hK 0 rfl (fun _ h => h) hP hD hS hA (fun _ => rfl) (by decide) (show (257 : Int32).toNatClampNeg = 257 by decide) (by decide) (Nat.le_of_ble_eq_true rfl) (Nat.le_of_ble_eq_true rfl) dFB_init_35 (fun q4 H hP hD hS => ?_)
  have hP : va_P (dC, dI) vwCl [(q, .inr (0, [.ref q1, .ref q2, .ref q3, .null, .int 0, .null, .null, .null, .int 0])), (q1, .inl (cI, 257, .inl (fun _ => 0))), (q2, .inl (cI, 256, .inl (fun _ => 0))), (q3, .inl (cI, 257, .inl (fun _ => 0))), (q4, .inl (cI, 257, .inl (fun _ => 0)))] H := hP
  have hD : va_D A [(q, .inr (0, [.ref q1, .ref q2, .ref q3, .null, .int 0, .null, .null, .null, .int 0])), (q1, .inl (cI, 257, .inl (fun _ => 0))), (q2, .inl (cI, 256, .inl (fun _ => 0))), (q3, .inl (cI, 257, .inl (fun _ => 0))), (q4, .inl (cI, 257, .inl (fun _ => 0)))] := hD
  refine va_putF (D := (dC, dI)) (ci := 0) (v := .ref q4) (ty := (.array .int)) (C := RFB) (T := TFB) (N := 9) hx hb hts hi_FB tyFB tyFB_ok nmFB hown hK hP hD hS 0 rfl rfl 3 (by decide) (hts _ tw_97) (fun _ h9 => h9) rfl hin rfl (by decide +kernel) rfl rfl (Nat.le_of_ble_eq_true rfl) dFB_init_37 (fun H locs hP hD hS => ?_)
  have hP : va_P (dC, dI) vwCl [(q, .inr (0, [.ref q1, .ref q2, .ref q3, .ref q4, .int 0, .null, .null, .null, .int 0])), (q1, .inl (cI, 257, .inl (fun _ => 0))), (q2, .inl (cI, 256, .inl (fun _ => 0))), (q3, .inl (cI, 257, .inl (fun _ => 0))), (q4, .inl (cI, 257, .inl (fun _ => 0)))] H := hP
  have hD : va_D A [(q, .inr (0, [.ref q1, .ref q2, .ref q3, .ref q4, .int 0, .null, .null, .null, .int 0])), (q1, .inl (cI, 257, .inl (fun _ => 0))), (q2, .inl (cI, 256, .inl (fun _ => 0))), (q3, .inl (cI, 257, .inl (fun _ => 0))), (q4, .inl (cI, 257, .inl (fun _ => 0)))] := hD
  refine lv_aload_n hx hb dFB_init_40 rfl (lv_at hl 0 rfl) ?_
  refine lv_sipush (v := 257) hx hb dFB_init_41 (by decide) ?_
  refine ax_newa (ty := .int) (a0 := (257, .inl (fun _ => 0))) hx hb (hts _ tw_54) rfl hK 0 rfl (fun _ h => h) hP hD hS hA (fun _ => rfl) (by decide) (show (257 : Int32).toNatClampNeg = 257 by decide) (by decide) (Nat.le_of_ble_eq_true rfl) (Nat.le_of_ble_eq_true rfl) dFB_init_44 (fun q5 H hP hD hS => ?_)
  have hP : va_P (dC, dI) vwCl [(q, .inr (0, [.ref q1, .ref q2, .ref q3, .ref q4, .int 0, .null, .null, .null, .int 0])), (q1, .inl (cI, 257, .inl (fun _ => 0))), (q2, .inl (cI, 256, .inl (fun _ => 0))), (q3, .inl (cI, 257, .inl (fun _ => 0))), (q4, .inl (cI, 257, .inl (fun _ => 0))), (q5, .inl (cI, 257, .inl (fun _ => 0)))] H := hP
  have hD : va_D A [(q, .inr (0, [.ref q1, .ref q2, .ref q3, .ref q4, .int 0, .null, .null, .null, .int 0])), (q1, .inl (cI, 257, .inl (fun _ => 0))), (q2, .inl (cI, 256, .inl (fun _ => 0))), (q3, .inl (cI, 257, .inl (fun _ => 0))), (q4, .inl (cI, 257, .inl (fun _ => 0))), (q5, .inl (cI, 257, .inl (fun _ => 0)))] := hD
  refine va_putF (D := (dC, dI)) (ci := 0) (v := .ref q5) (ty := (.array .int)) (C := RFB) (T := TFB) (N := 9) hx hb hts hi_FB tyFB tyFB_ok nmFB hown hK hP hD hS 0 rfl rfl 5 (by decide) (hts _ tw_99) (fun _ h9 => h9) rfl hin rfl (by decide +kernel) rfl rfl (Nat.le_of_ble_eq_true rfl) dFB_init_46 (fun H locs hP hD hS => ?_)
  have hP : va_P (dC, dI) vwCl [(q, .inr (0, [.ref q1, .ref q2, .ref q3, .ref q4, .int 0, .ref q5, .null, .null, .int 0])), (q1, .inl (cI, 257, .inl (fun _ => 0))), (q2, .inl (cI, 256, .inl (fun _ => 0))), (q3, .inl (cI, 257, .inl (fun _ => 0))), (q4, .inl (cI, 257, .inl (fun _ => 0))), (q5, .inl (cI, 257, .inl (fun _ => 0)))] H := hP
  have hD : va_D A [(q, .inr (0, [.ref q1, .ref q2, .ref q3, .ref q4, .int 0, .ref q5, .null, .null, .int 0])), (q1, .inl (cI, 257, .inl (fun _ => 0))), (q2, .inl (cI, 256, .inl (fun _ => 0))), (q3, .inl (cI, 257, .inl (fun _ => 0))), (q4, .inl (cI, 257, .inl (fun _ => 0))), (q5, .inl (cI, 257, .inl (fun _ => 0)))] := hD
  refine lv_aload_n hx hb dFB_init_49 rfl (lv_at hl 0 rfl) ?_
  refine lv_sipush (v := 513) hx hb dFB_init_50 (by decide) ?_
  refine ax_newa (ty := .int) (a0 := (513, .inl (fun _ => 0))) hx hb (hts _ tw_54) rfl hK 0 rfl (fun _ h => h) hP hD hS hA (fun _ => rfl) (by decide) (show (513 : Int32).toNatClampNeg = 513 by decide) (by decide) (Nat.le_of_ble_eq_true rfl) (Nat.le_of_ble_eq_true rfl) dFB_init_53 (fun q6 H hP hD hS => ?_)
  have hP : va_P (dC, dI) vwCl [(q, .inr (0, [.ref q1, .ref q2, .ref q3, .ref q4, .int 0, .ref q5, .null, .null, .int 0])), (q1, .inl (cI, 257, .inl (fun _ => 0))), (q2, .inl (cI, 256, .inl (fun _ => 0))), (q3, .inl (cI, 257, .inl (fun _ => 0))), (q4, .inl (cI, 257, .inl (fun _ => 0))), (q5, .inl (cI, 257, .inl (fun _ => 0))), (q6, .inl (cI, 513, .inl (fun _ => 0)))] H := hP
  have hD : va_D A [(q, .inr (0, [.ref q1, .ref q2, .ref q3, .ref q4, .int 0, .ref q5, .null, .null, .int 0])), (q1, .inl (cI, 257, .inl (fun _ => 0))), (q2, .inl (cI, 256, .inl (fun _ => 0))), (q3, .inl (cI, 257, .inl (fun _ => 0))), (q4, .inl (cI, 257, .inl (fun _ => 0))), (q5, .inl (cI, 257, .inl (fun _ => 0))), (q6, .inl (cI, 513, .inl (fun _ => 0)))] := hD
  refine va_putF (D := (dC, dI)) (ci := 0) (v := .ref q6) (ty := (.array .int)) (C := RFB) (T := TFB) (N := 9) hx hb hts hi_FB tyFB tyFB_ok nmFB hown hK hP hD hS 0 rfl rfl 6 (by decide) (hts _ tw_100) (fun _ h9 => h9) rfl hin rfl (by decide +kernel) rfl rfl (Nat.le_of_ble_eq_true rfl) dFB_init_55 (fun H locs hP hD hS => ?_)
  have hP : va_P (dC, dI) vwCl [(q, .inr (0, [.ref q1, .ref q2, .ref q3, .ref q4, .int 0, .ref q5, .ref q6, .null, .int 0])), (q1, .inl (cI, 257, .inl (fun _ => 0))), (q2, .inl (cI, 256, .inl (fun _ => 0))), (q3, .inl (cI, 257, .inl (fun _ => 0))), (q4, .inl (cI, 257, .inl (fun _ => 0))), (q5, .inl (cI, 257, .inl (fun _ => 0))), (q6, .inl (cI, 513, .inl (fun _ => 0)))] H := hP
  have hD : va_D A [(q, .inr (0, [.ref q1, .ref q2, .ref q3, .ref q4, .int 0, .ref q5, .ref q6, .null, .int 0])), (q1, .inl (cI, 257, .inl (fun _ => 0))), (q2, .inl (cI, 256, .inl (fun _ => 0))), (q3, .inl (cI, 257, .inl (fun _ => 0))), (q4, .inl (cI, 257, .inl (fun _ => 0))), (q5, .inl (cI, 257, .inl (fun _ => 0))), (q6, .inl (cI, 513, .inl (fun _ => 0)))] := hD
  refine lv_aload_n hx hb dFB_init_58 rfl (lv_at hl 0 rfl) ?_
  refine lv_sipush (v := 513) hx hb dFB_init_59 (by decide) ?_
  refine ax_newa (ty := .int) (a0 := (513, .inl (fun _ => 0))) hx hb (hts _ tw_54) rfl hK 0 rfl (fun _ h => h) hP hD hS hA (fun _ => rfl) (by decide) (show (513 : Int32).toNatClampNeg = 513 by decide) (by decide) (Nat.le_of_ble_eq_true rfl) (Nat.le_of_ble_eq_true rfl) dFB_init_62 (fun q7 H hP hD hS => ?_)
  have hP : va_P (dC, dI) vwCl [(q, .inr (0, [.ref q1, .ref q2, .ref q3, .ref q4, .int 0, .ref q5, .ref q6, .null, .int 0])), (q1, .inl (cI, 257, .inl (fun _ => 0))), (q2, .inl (cI, 256, .inl (fun _ => 0))), (q3, .inl (cI, 257, .inl (fun _ => 0))), (q4, .inl (cI, 257, .inl (fun _ => 0))), (q5, .inl (cI, 257, .inl (fun _ => 0))), (q6, .inl (cI, 513, .inl (fun _ => 0))), (q7, .inl (cI, 513, .inl (fun _ => 0)))] H := hP
  have hD : va_D A [(q, .inr (0, [.ref q1, .ref q2, .ref q3, .ref q4, .int 0, .ref q5, .ref q6, .null, .int 0])), (q1, .inl (cI, 257, .inl (fun _ => 0))), (q2, .inl (cI, 256, .inl (fun _ => 0))), (q3, .inl (cI, 257, .inl (fun _ => 0))), (q4, .inl (cI, 257, .inl (fun _ => 0))), (q5, .inl (cI, 257, .inl (fun _ => 0))), (q6, .inl (cI, 513, .inl (fun _ => 0))), (q7, .inl (cI, 513, .inl (fun _ => 0)))] := hD
  refine va_putF (D := (dC, dI)) (ci := 0) (v := .ref q7) (ty := (.array .int)) (C := RFB) (T := TFB) (N := 9) hx hb hts hi_FB tyFB tyFB_ok nmFB hown hK hP hD hS 0 rfl rfl 7 (by decide) (hts _ tw_101) (fun _ h9 => h9) rfl hin rfl (by decide +kernel) rfl rfl (Nat.le_of_ble_eq_true rfl) dFB_init_64 (fun H locs hP hD hS => ?_)
  have hP : va_P (dC, dI) vwCl [(q, .inr (0, [.ref q1, .ref q2, .ref q3, .ref q4, .int 0, .ref q5, .ref q6, .ref q7, .int 0])), (q1, .inl (cI, 257, .inl (fun _ => 0))), (q2, .inl (cI, 256, .inl (fun _ => 0))), (q3, .inl (cI, 257, .inl (fun _ => 0))), (q4, .inl (cI, 257, .inl (fun _ => 0))), (q5, .inl (cI, 257, .inl (fun _ => 0))), (q6, .inl (cI, 513, .inl (fun _ => 0))), (q7, .inl (cI, 513, .inl (fun _ => 0)))] H := hP
  have hD : va_D A [(q, .inr (0, [.ref q1, .ref q2, .ref q3, .ref q4, .int 0, .ref q5, .ref q6, .ref q7, .int 0])), (q1, .inl (cI, 257, .inl (fun _ => 0))), (q2, .inl (cI, 256, .inl (fun _ => 0))), (q3, .inl (cI, 257, .inl (fun _ => 0))), (q4, .inl (cI, 257, .inl (fun _ => 0))), (q5, .inl (cI, 257, .inl (fun _ => 0))), (q6, .inl (cI, 513, .inl (fun _ => 0))), (q7, .inl (cI, 513, .inl (fun _ => 0)))] := hD
  refine W.widen (k := 7) (n := 2310) (Nat.le_of_ble_eq_true rfl) (Nat.le_of_ble_eq_true rfl) ?_
  exact ax_cret (u := (q1, q2, q3, q4, q5, q6, q7)) hx hb hr hP hD hS dFB_init_67 hlocks
abbrev wsFR_init : List Cond := Cond.code yFR_init cFR_init 1 none :: tt
abbrev wi_FR_init (cI cZ cL cB : ClassId) (q : Nat) (u : Nat) : va_W := [(q, .inr (1, [.ref u, .int 0, .int 0])), (u, .inl (cI, 2048, .inl (fun _ => 0)))]
set_option maxHeartbeats 4000000 in
set_option maxRecDepth 100000 in
theorem ci_FR_init (l : Launch) (dC : Nat → ClassId) (dI : Nat → Nat → Nat) (cI cZ cL cB : ClassId) (q sz : Nat) : Met l yFR_init wsFR_init ({ frames := 1, cells := 1, slots := 2048, locals := 12 }) (va_Pc [.ref q] (kz_P dC dI cI cZ cL cB sz [(q, .inr (1, [.null, .int 0, .int 0]))])) (va_Qv (fun (_ : Nat) => True) (fun u t => va_P (dC, dI) vwCl (wi_FR_init cI cZ cL cB q u) t.heap ∧ va_D (va_A [(q, .inr (1, [.null, .int 0, .int 0]))] sz) (wi_FR_init cI cZ cL cB q u)) (va_A [(q, .inr (1, [.null, .int 0, .int 0]))] sz)) 1 2048 (va_A [(q, .inr (1, [.null, .int 0, .int 0]))] sz) := by
  refine Met.ofW (cc := cFR_init) (maxL := 1) (ret := none) (by decide) rfl ?_
  intro p e s m args below meth c s₁ B hml hv
  obtain ⟨rfl, hsz, hP, hZ, hD0⟩ := hv
  have hK := hZ.1
  have hx := B.exec
  have hb := B.bytes
  have hr := B.returns
  have hts : ∀ w ∈ tt, w.before _ s = true := fun w h => atoms_spec (ws := wsFR_init) B.pre w (List.mem_cons_of_mem _ h)
  have hown : s.vm.findClass RFR = some m.cls := findClass_of_methodNamed B.named
  have hlocks := B.notSynchronized
  have hin : meth.name = "<init>" := (name_of_methodNamed B.named B.method).1
  subst hsz
  have hD := hD0.self (sz := s.heap.size)
  generalize hAe : va_A [(q, .inr (1, [.null, .int 0, .int 0]))] s.heap.size = A at hD ⊢
  have hA : ∀ q : Nat, s.heap.size ≤ q → A q := fun q h => by rw [← hAe]; exact Or.inr h
  have hS : va_S A s.heap s.heap [] := va_S.rf
  have hl := lv_entry [.ref q] (n := 1) (Nat.le_of_ble_eq_true rfl)
  rw [lg_entry_eq]
  generalize (lg_sl [.ref q] ++ List.replicate (1 - (lg_sl [.ref q]).length) Slot.unset).toArray = ls at hl ⊢
  have hl : lv_has ls 1 [(0, .ref q)] := hl
  refine lv_aload_n hx hb dFR_init_0 rfl (lv_at hl 0 rfl) ?_
  refine W.objInit hx hb hown (hts _ tw_116) (hts _ tw_36) (hts _ tw_37) rfl (by rw [hml]; exact hl.1) rfl dFR_init_1 (Nat.le_of_ble_eq_true rfl) (Nat.le_of_ble_eq_true rfl) ?_
  refine W.eq (g2 := F0 m 4 ls []) rfl ?_
  refine lv_aload_n hx hb dFR_init_4 rfl (lv_at hl 0 rfl) ?_
  refine lv_sipush (v := 2048) hx hb dFR_init_5 (by decide) ?_
  refine ax_newa (ty := .int) (a0 := (2048, .inl (fun _ => 0))) hx hb (hts _ tw_54) rfl hK 0 rfl (fun _ h => h) hP hD hS hA (fun _ => rfl) (by decide) (show (2048 : Int32).toNatClampNeg = 2048 by decide) (by decide) (Nat.le_of_ble_eq_true rfl) (Nat.le_of_ble_eq_true rfl) dFR_init_8 (fun q1 H hP hD hS => ?_)
  have hP : va_P (dC, dI) vwCl [(q, .inr (1, [.null, .int 0, .int 0])), (q1, .inl (cI, 2048, .inl (fun _ => 0)))] H := hP
  have hD : va_D A [(q, .inr (1, [.null, .int 0, .int 0])), (q1, .inl (cI, 2048, .inl (fun _ => 0)))] := hD
  refine va_putF (D := (dC, dI)) (ci := 1) (v := .ref q1) (ty := (.array .int)) (C := RFR) (T := TFR) (N := 3) hx hb hts hi_FR tyFR tyFR_ok nmFR hown hK hP hD hS 0 rfl rfl 0 (by decide) (hts _ tw_117) (fun _ h9 => h9) rfl hin rfl (by decide +kernel) rfl rfl (Nat.le_of_ble_eq_true rfl) dFR_init_10 (fun H locs hP hD hS => ?_)
  have hP : va_P (dC, dI) vwCl [(q, .inr (1, [.ref q1, .int 0, .int 0])), (q1, .inl (cI, 2048, .inl (fun _ => 0)))] H := hP
  have hD : va_D A [(q, .inr (1, [.ref q1, .int 0, .int 0])), (q1, .inl (cI, 2048, .inl (fun _ => 0)))] := hD
  refine W.widen (k := 1) (n := 2048) (Nat.le_of_ble_eq_true rfl) (Nat.le_of_ble_eq_true rfl) ?_
  exact ax_cret (u := q1) hx hb hr hP hD hS dFR_init_13 hlocks
abbrev wsFF_init : List Cond := Cond.code yFF_init cFF_init 1 none :: tt
abbrev wi_FF_init (cI cZ cL cB : ClassId) (q : Nat) (u : Nat × Nat × Nat × Nat × Nat × Nat × Nat × Nat × Nat × Nat × Nat × Nat × Nat × Nat × Nat × Nat × Nat × Nat × Nat × Nat × Nat) : va_W := [(q, .inr (5, [.ref u.1, .ref u.2.2.2.2.1, .ref u.2.2.2.2.2.2.2.2.2.1, .ref u.2.2.2.2.2.2.2.2.2.2.2.1, .ref u.2.2.2.2.2.2.2.2.2.2.2.2.2.2.2.2.2.2.2.1])), (u.1, .inr (2, [.ref u.2.1, .ref u.2.2.1, .int 0, .ref u.2.2.2.1])), (u.2.1, .inl (cI, 17, .inl (fun _ => 0))), (u.2.2.1, .inl (cI, 256, .inl (fun _ => 0))), (u.2.2.2.1, .inl (cZ, 256, .inl (fun _ => 0))), (u.2.2.2.2.1, .inr (3, [.ref u.2.2.2.2.2.1, .ref u.2.2.2.2.2.2.1, .ref u.2.2.2.2.2.2.2.1, .ref u.2.2.2.2.2.2.2.2.1, .int 0])), (u.2.2.2.2.2.1, .inl (cI, 17, .inl (fun _ => 0))), (u.2.2.2.2.2.2.1, .inl (cI, 256, .inl (fun _ => 0))), (u.2.2.2.2.2.2.2.1, .inl (cI, 256, .inl (fun _ => 0))), (u.2.2.2.2.2.2.2.2.1, .inl (cI, 256, .inl (fun _ => 0))), (u.2.2.2.2.2.2.2.2.2.1, .inr (4, [.ref u.2.2.2.2.2.2.2.2.2.2.1, .int 0])), (u.2.2.2.2.2.2.2.2.2.2.1, .inl (cI, 256, .inl (fun _ => 0))), (u.2.2.2.2.2.2.2.2.2.2.2.1, .inr (0, [.ref u.2.2.2.2.2.2.2.2.2.2.2.2.1, .ref u.2.2.2.2.2.2.2.2.2.2.2.2.2.1, .ref u.2.2.2.2.2.2.2.2.2.2.2.2.2.2.1, .ref u.2.2.2.2.2.2.2.2.2.2.2.2.2.2.2.1, .int 0, .ref u.2.2.2.2.2.2.2.2.2.2.2.2.2.2.2.2.1, .ref u.2.2.2.2.2.2.2.2.2.2.2.2.2.2.2.2.2.1, .ref u.2.2.2.2.2.2.2.2.2.2.2.2.2.2.2.2.2.2.1, .int 0])), (u.2.2.2.2.2.2.2.2.2.2.2.2.1, .inl (cI, 257, .inl (fun _ => 0))), (u.2.2.2.2.2.2.2.2.2.2.2.2.2.1, .inl (cI, 256, .inl (fun _ => 0))), (u.2.2.2.2.2.2.2.2.2.2.2.2.2.2.1, .inl (cI, 257, .inl (fun _ => 0))), (u.2.2.2.2.2.2.2.2.2.2.2.2.2.2.2.1, .inl (cI, 257, .inl (fun _ => 0))), (u.2.2.2.2.2.2.2.2.2.2.2.2.2.2.2.2.1, .inl (cI, 257, .inl (fun _ => 0))), (u.2.2.2.2.2.2.2.2.2.2.2.2.2.2.2.2.2.1, .inl (cI, 513, .inl (fun _ => 0))), (u.2.2.2.2.2.2.2.2.2.2.2.2.2.2.2.2.2.2.1, .inl (cI, 513, .inl (fun _ => 0))), (u.2.2.2.2.2.2.2.2.2.2.2.2.2.2.2.2.2.2.2.1, .inr (1, [.ref u.2.2.2.2.2.2.2.2.2.2.2.2.2.2.2.2.2.2.2.2, .int 0, .int 0])), (u.2.2.2.2.2.2.2.2.2.2.2.2.2.2.2.2.2.2.2.2, .inl (cI, 2048, .inl (fun _ => 0)))]
set_option maxHeartbeats 4000000 in
set_option maxRecDepth 100000 in
theorem ci_FF_init (l : Launch) (dC : Nat → ClassId) (dI : Nat → Nat → Nat) (cI cZ cL cB : ClassId) (q sz : Nat) : Met l yFF_init wsFF_init ({ frames := 2, cells := 21, slots := 5951, locals := 32 }) (va_Pc [.ref q] (kz_P dC dI cI cZ cL cB sz [(q, .inr (5, [.null, .null, .null, .null, .null]))])) (va_Qv (fun (_ : Nat × Nat × Nat × Nat × Nat × Nat × Nat × Nat × Nat × Nat × Nat × Nat × Nat × Nat × Nat × Nat × Nat × Nat × Nat × Nat × Nat) => True) (fun u t => va_P (dC, dI) vwCl (wi_FF_init cI cZ cL cB q u) t.heap ∧ va_D (va_A [(q, .inr (5, [.null, .null, .null, .null, .null]))] sz) (wi_FF_init cI cZ cL cB q u)) (va_A [(q, .inr (5, [.null, .null, .null, .null, .null]))] sz)) 21 5951 (va_A [(q, .inr (5, [.null, .null, .null, .null, .null]))] sz) := by
  refine Met.ofW (cc := cFF_init) (maxL := 1) (ret := none) (by decide) rfl ?_
  intro p e s m args below meth c s₁ B hml hv
  obtain ⟨rfl, hsz, hP, hZ, hD0⟩ := hv
  have hK := hZ.1
  have hx := B.exec
  have hb := B.bytes
  have hr := B.returns
  have hts : ∀ w ∈ tt, w.before _ s = true := fun w h => atoms_spec (ws := wsFF_init) B.pre w (List.mem_cons_of_mem _ h)
  have hown : s.vm.findClass RFF = some m.cls := findClass_of_methodNamed B.named
  have hlocks := B.notSynchronized
  have hin : meth.name = "<init>" := (name_of_methodNamed B.named B.method).1
  subst hsz
  have hD := hD0.self (sz := s.heap.size)
  generalize hAe : va_A [(q, .inr (5, [.null, .null, .null, .null, .null]))] s.heap.size = A at hD ⊢
  have hA : ∀ q : Nat, s.heap.size ≤ q → A q := fun q h => by rw [← hAe]; exact Or.inr h
  have hS : va_S A s.heap s.heap [] := va_S.rf
  have hl := lv_entry [.ref q] (n := 1) (Nat.le_of_ble_eq_true rfl)
  rw [lg_entry_eq]
  generalize (lg_sl [.ref q] ++ List.replicate (1 - (lg_sl [.ref q]).length) Slot.unset).toArray = ls at hl ⊢
  have hl : lv_has ls 1 [(0, .ref q)] := hl
  refine lv_aload_n hx hb dFF_init_0 rfl (lv_at hl 0 rfl) ?_
  refine W.objInit hx hb hown (hts _ tw_35) (hts _ tw_36) (hts _ tw_37) rfl (by rw [hml]; exact hl.1) rfl dFF_init_1 (Nat.le_of_ble_eq_true rfl) (Nat.le_of_ble_eq_true rfl) ?_
  refine W.eq (g2 := F0 m 4 ls []) rfl ?_
  refine lv_aload_n hx hb dFF_init_4 rfl (lv_at hl 0 rfl) ?_
  refine va_new (ci := 2) (fs := [.null, .null, .int 0, .null]) (C := RFD) (T := TFD) (N := 4) hx hb hts hi_FD tyFD tyFD_ok hown (hts _ tw_38) (hts _ tw_39) (hts _ tw_22) hK hP hD hS hA rfl (by decide +kernel) (Nat.le_of_ble_eq_true rfl) (Nat.le_of_ble_eq_true rfl) dFF_init_5 (fun q1 H hP hD hS => ?_)
  have hP : va_P (dC, dI) vwCl [(q, .inr (5, [.null, .null, .null, .null, .null])), (q1, .inr (2, [.null, .null, .int 0, .null]))] H := hP
  have hD : va_D A [(q, .inr (5, [.null, .null, .null, .null, .null])), (q1, .inr (2, [.null, .null, .int 0, .null]))] := hD
  refine lv_dup hx hb dFF_init_8 rfl ?_
  have hPc := hP.sub (ws' := [(q1, .inr (2, [.null, .null, .int 0, .null]))]) [1] rfl
  have hDc := hD.sub (ws' := [(q1, .inr (2, [.null, .null, .int 0, .null]))]) [1] (by decide) rfl
  refine ax_callc (wr := [(q, .inr (5, [.null, .null, .null, .null, .null]))]) (va_runIN (As := []) (rest := [.ref q1, .ref q]) ⟨hx, hb, hml, hown, hts⟩ (ci_FD_init l dC dI cI cZ cL cB q1 H.size) ⟨va_cnB 0 hts (tt_c tw_41) rfl rfl rfl (nz_0 hZ.2) (hts _ tw_22) (by decide +kernel) ⟨Nat.le_of_ble_eq_true rfl, Nat.le_of_ble_eq_true rfl⟩, rfl, (hts _ tw_40)⟩ ⟨kz_fb, kz_pre hPc hZ hDc⟩ rfl rfl hl.1 rfl (lv_room (Nat.le_of_ble_eq_true rfl)) dFF_init_9 ⟨Nat.le_of_ble_eq_true rfl, Nat.le_of_ble_eq_true rfl⟩) hP hD hS hA [1] [0] rfl rfl (by decide) (by decide) (fun u H locs hP hD hS => ?_)
  obtain ⟨q2, q3, q4⟩ := u
  have hP : va_P (dC, dI) vwCl [(q, .inr (5, [.null, .null, .null, .null, .null])), (q1, .inr (2, [.ref q2, .ref q3, .int 0, .ref q4])), (q2, .inl (cI, 17, .inl (fun _ => 0))), (q3, .inl (cI, 256, .inl (fun _ => 0))), (q4, .inl (cZ, 256, .inl (fun _ => 0)))] H := hP
  have hD : va_D A [(q, .inr (5, [.null, .null, .null, .null, .null])), (q1, .inr (2, [.ref q2, .ref q3, .int 0, .ref q4])), (q2, .inl (cI, 17, .inl (fun _ => 0))), (q3, .inl (cI, 256, .inl (fun _ => 0))), (q4, .inl (cZ, 256, .inl (fun _ => 0)))] := hD
  refine va_putF (D := (dC, dI)) (ci := 5) (v := .ref q1) (ty := (.object "HuffForge$Draft")) (C := RFF) (T := TFF) (N := 5) hx hb hts hi_FF tyFF tyFF_ok nmFF hown hK hP hD hS 0 rfl rfl 0 (by decide) (hts _ tw_125) (fun _ h9 => h9) rfl hin rfl (by decide +kernel) rfl rfl (Nat.le_of_ble_eq_true rfl) dFF_init_12 (fun H locs hP hD hS => ?_)
  have hP : va_P (dC, dI) vwCl [(q, .inr (5, [.ref q1, .null, .null, .null, .null])), (q1, .inr (2, [.ref q2, .ref q3, .int 0, .ref q4])), (q2, .inl (cI, 17, .inl (fun _ => 0))), (q3, .inl (cI, 256, .inl (fun _ => 0))), (q4, .inl (cZ, 256, .inl (fun _ => 0)))] H := hP
  have hD : va_D A [(q, .inr (5, [.ref q1, .null, .null, .null, .null])), (q1, .inr (2, [.ref q2, .ref q3, .int 0, .ref q4])), (q2, .inl (cI, 17, .inl (fun _ => 0))), (q3, .inl (cI, 256, .inl (fun _ => 0))), (q4, .inl (cZ, 256, .inl (fun _ => 0)))] := hD
  refine lv_aload_n hx hb dFF_init_15 rfl (lv_at hl 0 rfl) ?_
  refine va_new (ci := 3) (fs := [.null, .null, .null, .null, .int 0]) (C := RFT) (T := TFT) (N := 5) hx hb hts hi_FT tyFT tyFT_ok hown (hts _ tw_56) (hts _ tw_57) (hts _ tw_23) hK hP hD hS hA rfl (by decide +kernel) (Nat.le_of_ble_eq_true rfl) (Nat.le_of_ble_eq_true rfl) dFF_init_16 (fun q5 H hP hD hS => ?_)
  have hP : va_P (dC, dI) vwCl [(q, .inr (5, [.ref q1, .null, .null, .null, .null])), (q1, .inr (2, [.ref q2, .ref q3, .int 0, .ref q4])), (q2, .inl (cI, 17, .inl (fun _ => 0))), (q3, .inl (cI, 256, .inl (fun _ => 0))), (q4, .inl (cZ, 256, .inl (fun _ => 0))), (q5, .inr (3, [.null, .null, .null, .null, .int 0]))] H := hP
  have hD : va_D A [(q, .inr (5, [.ref q1, .null, .null, .null, .null])), (q1, .inr (2, [.ref q2, .ref q3, .int 0, .ref q4])), (q2, .inl (cI, 17, .inl (fun _ => 0))), (q3, .inl (cI, 256, .inl (fun _ => 0))), (q4, .inl (cZ, 256, .inl (fun _ => 0))), (q5, .inr (3, [.null, .null, .null, .null, .int 0]))] := hD
  refine lv_dup hx hb dFF_init_19 rfl ?_
  have hPc := hP.sub (ws' := [(q5, .inr (3, [.null, .null, .null, .null, .int 0]))]) [5] rfl
  have hDc := hD.sub (ws' := [(q5, .inr (3, [.null, .null, .null, .null, .int 0]))]) [5] (by decide) rfl
  refine ax_callc (wr := [(q, .inr (5, [.ref q1, .null, .null, .null, .null])), (q1, .inr (2, [.ref q2, .ref q3, .int 0, .ref q4])), (q2, .inl (cI, 17, .inl (fun _ => 0))), (q3, .inl (cI, 256, .inl (fun _ => 0))), (q4, .inl (cZ, 256, .inl (fun _ => 0)))]) (va_runIN (As := []) (rest := [.ref q5, .ref q]) ⟨hx, hb, hml, hown, hts⟩ (ci_FT_init l dC dI cI cZ cL cB q5 H.size) ⟨va_cnB 0 hts (tt_c tw_59) rfl rfl rfl (nz_1 hZ.2) (hts _ tw_23) (by decide +kernel) ⟨Nat.le_of_ble_eq_true rfl, Nat.le_of_ble_eq_true rfl⟩, rfl, (hts _ tw_58)⟩ ⟨kz_fb, kz_pre hPc hZ hDc⟩ rfl rfl hl.1 rfl (lv_room (Nat.le_of_ble_eq_true rfl)) dFF_init_20 ⟨Nat.le_of_ble_eq_true rfl, Nat.le_of_ble_eq_true rfl⟩) hP hD hS hA [5] [0, 1, 2, 3, 4] rfl rfl (by decide) (by decide) (fun u H locs hP hD hS => ?_)
  obtain ⟨q6, q7, q8, q9⟩ := u
  have hP : va_P (dC, dI) vwCl [(q, .inr (5, [.ref q1, .null, .null, .null, .null])), (q1, .inr (2, [.ref q2, .ref q3, .int 0, .ref q4])), (q2, .inl (cI, 17, .inl (fun _ => 0))), (q3, .inl (cI, 256, .inl (fun _ => 0))), (q4, .inl (cZ, 256, .inl (fun _ => 0))), (q5, .inr (3, [.ref q6, .ref q7, .ref q8, .ref q9, .int 0])), (q6, .inl (cI, 17, .inl (fun _ => 0))), (q7, .inl (cI, 256, .inl (fun _ => 0))), (q8, .inl (cI, 256, .inl (fun _ => 0))), (q9, .inl (cI, 256, .inl (fun _ => 0)))] H := hP
  have hD : va_D A [(q, .inr (5, [.ref q1, .null, .null, .null, .null])), (q1, .inr (2, [.ref q2, .ref q3, .int 0, .ref q4])), (q2, .inl (cI, 17, .inl (fun _ => 0))), (q3, .inl (cI, 256, .inl (fun _ => 0))), (q4, .inl (cZ, 256, .inl (fun _ => 0))), (q5, .inr (3, [.ref q6, .ref q7, .ref q8, .ref q9, .int 0])), (q6, .inl (cI, 17, .inl (fun _ => 0))), (q7, .inl (cI, 256, .inl (fun _ => 0))), (q8, .inl (cI, 256, .inl (fun _ => 0))), (q9, .inl (cI, 256, .inl (fun _ => 0)))] := hD
  refine va_putF (D := (dC, dI)) (ci := 5) (v := .ref q5) (ty := (.object "HuffForge$Table")) (C := RFF) (T := TFF) (N := 5) hx hb hts hi_FF tyFF tyFF_ok nmFF hown hK hP hD hS 0 rfl rfl 1 (by decide) (hts _ tw_126) (fun _ h9 => h9) rfl hin rfl (by decide +kernel) rfl rfl (Nat.le_of_ble_eq_true rfl) dFF_init_23 (fun H locs hP hD hS => ?_)
  have hP : va_P (dC, dI) vwCl [(q, .inr (5, [.ref q1, .ref q5, .null, .null, .null])), (q1, .inr (2, [.ref q2, .ref q3, .int 0, .ref q4])), (q2, .inl (cI, 17, .inl (fun _ => 0))), (q3, .inl (cI, 256, .inl (fun _ => 0))), (q4, .inl (cZ, 256, .inl (fun _ => 0))), (q5, .inr (3, [.ref q6, .ref q7, .ref q8, .ref q9, .int 0])), (q6, .inl (cI, 17, .inl (fun _ => 0))), (q7, .inl (cI, 256, .inl (fun _ => 0))), (q8, .inl (cI, 256, .inl (fun _ => 0))), (q9, .inl (cI, 256, .inl (fun _ => 0)))] H := hP
  have hD : va_D A [(q, .inr (5, [.ref q1, .ref q5, .null, .null, .null])), (q1, .inr (2, [.ref q2, .ref q3, .int 0, .ref q4])), (q2, .inl (cI, 17, .inl (fun _ => 0))), (q3, .inl (cI, 256, .inl (fun _ => 0))), (q4, .inl (cZ, 256, .inl (fun _ => 0))), (q5, .inr (3, [.ref q6, .ref q7, .ref q8, .ref q9, .int 0])), (q6, .inl (cI, 17, .inl (fun _ => 0))), (q7, .inl (cI, 256, .inl (fun _ => 0))), (q8, .inl (cI, 256, .inl (fun _ => 0))), (q9, .inl (cI, 256, .inl (fun _ => 0)))] := hD
  refine lv_aload_n hx hb dFF_init_26 rfl (lv_at hl 0 rfl) ?_
  refine va_new (ci := 4) (fs := [.null, .int 0]) (C := RFY) (T := TFY) (N := 2) hx hb hts hi_FY tyFY tyFY_ok hown (hts _ tw_76) (hts _ tw_77) (hts _ tw_24) hK hP hD hS hA rfl (by decide +kernel) (Nat.le_of_ble_eq_true rfl) (Nat.le_of_ble_eq_true rfl) dFF_init_27 (fun q10 H hP hD hS => ?_)
  have hP : va_P (dC, dI) vwCl [(q, .inr (5, [.ref q1, .ref q5, .null, .null, .null])), (q1, .inr (2, [.ref q2, .ref q3, .int 0, .ref q4])), (q2, .inl (cI, 17, .inl (fun _ => 0))), (q3, .inl (cI, 256, .inl (fun _ => 0))), (q4, .inl (cZ, 256, .inl (fun _ => 0))), (q5, .inr (3, [.ref q6, .ref q7, .ref q8, .ref q9, .int 0])), (q6, .inl (cI, 17, .inl (fun _ => 0))), (q7, .inl (cI, 256, .inl (fun _ => 0))), (q8, .inl (cI, 256, .inl (fun _ => 0))), (q9, .inl (cI, 256, .inl (fun _ => 0))), (q10, .inr (4, [.null, .int 0]))] H := hP
  have hD : va_D A [(q, .inr (5, [.ref q1, .ref q5, .null, .null, .null])), (q1, .inr (2, [.ref q2, .ref q3, .int 0, .ref q4])), (q2, .inl (cI, 17, .inl (fun _ => 0))), (q3, .inl (cI, 256, .inl (fun _ => 0))), (q4, .inl (cZ, 256, .inl (fun _ => 0))), (q5, .inr (3, [.ref q6, .ref q7, .ref q8, .ref q9, .int 0])), (q6, .inl (cI, 17, .inl (fun _ => 0))), (q7, .inl (cI, 256, .inl (fun _ => 0))), (q8, .inl (cI, 256, .inl (fun _ => 0))), (q9, .inl (cI, 256, .inl (fun _ => 0))), (q10, .inr (4, [.null, .int 0]))] := hD
  refine lv_dup hx hb dFF_init_30 rfl ?_
  have hPc := hP.sub (ws' := [(q10, .inr (4, [.null, .int 0]))]) [10] rfl
  have hDc := hD.sub (ws' := [(q10, .inr (4, [.null, .int 0]))]) [10] (by decide) rfl
  refine ax_callc (wr := [(q, .inr (5, [.ref q1, .ref q5, .null, .null, .null])), (q1, .inr (2, [.ref q2, .ref q3, .int 0, .ref q4])), (q2, .inl (cI, 17, .inl (fun _ => 0))), (q3, .inl (cI, 256, .inl (fun _ => 0))), (q4, .inl (cZ, 256, .inl (fun _ => 0))), (q5, .inr (3, [.ref q6, .ref q7, .ref q8, .ref q9, .int 0])), (q6, .inl (cI, 17, .inl (fun _ => 0))), (q7, .inl (cI, 256, .inl (fun _ => 0))), (q8, .inl (cI, 256, .inl (fun _ => 0))), (q9, .inl (cI, 256, .inl (fun _ => 0)))]) (va_runIN (As := []) (rest := [.ref q10, .ref q]) ⟨hx, hb, hml, hown, hts⟩ (ci_FY_init l dC dI cI cZ cL cB q10 H.size) ⟨va_cnB 0 hts (tt_c tw_79) rfl rfl rfl (nz_2 hZ.2) (hts _ tw_24) (by decide +kernel) ⟨Nat.le_of_ble_eq_true rfl, Nat.le_of_ble_eq_true rfl⟩, rfl, (hts _ tw_78)⟩ ⟨kz_fb, kz_pre hPc hZ hDc⟩ rfl rfl hl.1 rfl (lv_room (Nat.le_of_ble_eq_true rfl)) dFF_init_31 ⟨Nat.le_of_ble_eq_true rfl, Nat.le_of_ble_eq_true rfl⟩) hP hD hS hA [10] [0, 1, 2, 3, 4, 5, 6, 7, 8, 9] rfl rfl (by decide) (by decide) (fun u H locs hP hD hS => ?_)
  obtain ⟨q11, rfl⟩ : ∃ z, z = u := ⟨_, rfl⟩
  have hP : va_P (dC, dI) vwCl [(q, .inr (5, [.ref q1, .ref q5, .null, .null, .null])), (q1, .inr (2, [.ref q2, .ref q3, .int 0, .ref q4])), (q2, .inl (cI, 17, .inl (fun _ => 0))), (q3, .inl (cI, 256, .inl (fun _ => 0))), (q4, .inl (cZ, 256, .inl (fun _ => 0))), (q5, .inr (3, [.ref q6, .ref q7, .ref q8, .ref q9, .int 0])), (q6, .inl (cI, 17, .inl (fun _ => 0))), (q7, .inl (cI, 256, .inl (fun _ => 0))), (q8, .inl (cI, 256, .inl (fun _ => 0))), (q9, .inl (cI, 256, .inl (fun _ => 0))), (q10, .inr (4, [.ref q11, .int 0])), (q11, .inl (cI, 256, .inl (fun _ => 0)))] H := hP
  have hD : va_D A [(q, .inr (5, [.ref q1, .ref q5, .null, .null, .null])), (q1, .inr (2, [.ref q2, .ref q3, .int 0, .ref q4])), (q2, .inl (cI, 17, .inl (fun _ => 0))), (q3, .inl (cI, 256, .inl (fun _ => 0))), (q4, .inl (cZ, 256, .inl (fun _ => 0))), (q5, .inr (3, [.ref q6, .ref q7, .ref q8, .ref q9, .int 0])), (q6, .inl (cI, 17, .inl (fun _ => 0))), (q7, .inl (cI, 256, .inl (fun _ => 0))), (q8, .inl (cI, 256, .inl (fun _ => 0))), (q9, .inl (cI, 256, .inl (fun _ => 0))), (q10, .inr (4, [.ref q11, .int 0])), (q11, .inl (cI, 256, .inl (fun _ => 0)))] := hD
  refine va_putF (D := (dC, dI)) (ci := 5) (v := .ref q10) (ty := (.object "HuffForge$Tally")) (C := RFF) (T := TFF) (N := 5) hx hb hts hi_FF tyFF tyFF_ok nmFF hown hK hP hD hS 0 rfl rfl 2 (by decide) (hts _ tw_127) (fun _ h9 => h9) rfl hin rfl (by decide +kernel) rfl rfl (Nat.le_of_ble_eq_true rfl) dFF_init_34 (fun H locs hP hD hS => ?_)
  have hP : va_P (dC, dI) vwCl [(q, .inr (5, [.ref q1, .ref q5, .ref q10, .null, .null])), (q1, .inr (2, [.ref q2, .ref q3, .int 0, .ref q4])), (q2, .inl (cI, 17, .inl (fun _ => 0))), (q3, .inl (cI, 256, .inl (fun _ => 0))), (q4, .inl (cZ, 256, .inl (fun _ => 0))), (q5, .inr (3, [.ref q6, .ref q7, .ref q8, .ref q9, .int 0])), (q6, .inl (cI, 17, .inl (fun _ => 0))), (q7, .inl (cI, 256, .inl (fun _ => 0))), (q8, .inl (cI, 256, .inl (fun _ => 0))), (q9, .inl (cI, 256, .inl (fun _ => 0))), (q10, .inr (4, [.ref q11, .int 0])), (q11, .inl (cI, 256, .inl (fun _ => 0)))] H := hP
  have hD : va_D A [(q, .inr (5, [.ref q1, .ref q5, .ref q10, .null, .null])), (q1, .inr (2, [.ref q2, .ref q3, .int 0, .ref q4])), (q2, .inl (cI, 17, .inl (fun _ => 0))), (q3, .inl (cI, 256, .inl (fun _ => 0))), (q4, .inl (cZ, 256, .inl (fun _ => 0))), (q5, .inr (3, [.ref q6, .ref q7, .ref q8, .ref q9, .int 0])), (q6, .inl (cI, 17, .inl (fun _ => 0))), (q7, .inl (cI, 256, .inl (fun _ => 0))), (q8, .inl (cI, 256, .inl (fun _ => 0))), (q9, .inl (cI, 256, .inl (fun _ => 0))), (q10, .inr (4, [.ref q11, .int 0])), (q11, .inl (cI, 256, .inl (fun _ => 0)))] := hD
  refine lv_aload_n hx hb dFF_init_37 rfl (lv_at hl 0 rfl) ?_
  refine va_new (ci := 0) (fs := [.null, .null, .null, .null, .int 0, .null, .null, .null, .int 0]) (C := RFB) (T := TFB) (N := 9) hx hb hts hi_FB tyFB tyFB_ok hown (hts _ tw_87) (hts _ tw_88) (hts _ tw_25) hK hP hD hS hA rfl (by decide +kernel) (Nat.le_of_ble_eq_true rfl) (Nat.le_of_ble_eq_true rfl) dFF_init_38 (fun q12 H hP hD hS => ?_)
  have hP : va_P (dC, dI) vwCl [(q, .inr (5, [.ref q1, .ref q5, .ref q10, .null, .null])), (q1, .inr (2, [.ref q2, .ref q3, .int 0, .ref q4])), (q2, .inl (cI, 17, .inl (fun _ => 0))), (q3, .inl (cI, 256, .inl (fun _ => 0))), (q4, .inl (cZ, 256, .inl (fun _ => 0))), (q5, .inr (3, [.ref q6, .ref q7, .ref q8, .ref q9, .int 0])), (q6, .inl (cI, 17, .inl (fun _ => 0))), (q7, .inl (cI, 256, .inl (fun _ => 0))), (q8, .inl (cI, 256, .inl (fun _ => 0))), (q9, .inl (cI, 256, .inl (fun _ => 0))), (q10, .inr (4, [.ref q11, .int 0])), (q11, .inl (cI, 256, .inl (fun _ => 0))), (q12, .inr (0, [.null, .null, .null, .null, .int 0, .null, .null, .null, .int 0]))] H := hP
  have hD : va_D A [(q, .inr (5, [.ref q1, .ref q5, .ref q10, .null, .null])), (q1, .inr (2, [.ref q2, .ref q3, .int 0, .ref q4])), (q2, .inl (cI, 17, .inl (fun _ => 0))), (q3, .inl (cI, 256, .inl (fun _ => 0))), (q4, .inl (cZ, 256, .inl (fun _ => 0))), (q5, .inr (3, [.ref q6, .ref q7, .ref q8, .ref q9, .int 0])), (q6, .inl (cI, 17, .inl (fun _ => 0))), (q7, .inl (cI, 256, .inl (fun _ => 0))), (q8, .inl (cI, 256, .inl (fun _ => 0))), (q9, .inl (cI, 256, .inl (fun _ => 0))), (q10, .inr (4, [.ref q11, .int 0])), (q11, .inl (cI, 256, .inl (fun _ => 0))), (q12, .inr (0, [.null, .null, .null, .null, .int 0, .null, .null, .null, .int 0]))] := hD
  refine lv_dup hx hb dFF_init_41 rfl ?_
  have hPc := hP.sub (ws' := [(q12, .inr (0, [.null, .null, .null, .null, .int 0, .null, .null, .null, .int 0]))]) [12] rfl
  have hDc := hD.sub (ws' := [(q12, .inr (0, [.null, .null, .null, .null, .int 0, .null, .null, .null, .int 0]))]) [12] (by decide) rfl
  refine ax_callc (wr := [(q, .inr (5, [.ref q1, .ref q5, .ref q10, .null, .null])), (q1, .inr (2, [.ref q2, .ref q3, .int 0, .ref q4])), (q2, .inl (cI, 17, .inl (fun _ => 0))), (q3, .inl (cI, 256, .inl (fun _ => 0))), (q4, .inl (cZ, 256, .inl (fun _ => 0))), (q5, .inr (3, [.ref q6, .ref q7, .ref q8, .ref q9, .int 0])), (q6, .inl (cI, 17, .inl (fun _ => 0))), (q7, .inl (cI, 256, .inl (fun _ => 0))), (q8, .inl (cI, 256, .inl (fun _ => 0))), (q9, .inl (cI, 256, .inl (fun _ => 0))), (q10, .inr (4, [.ref q11, .int 0])), (q11, .inl (cI, 256, .inl (fun _ => 0)))]) (va_runIN (As := []) (rest := [.ref q12, .ref q]) ⟨hx, hb, hml, hown, hts⟩ (ci_FB_init l dC dI cI cZ cL cB q12 H.size) ⟨va_cnB 0 hts (tt_c tw_90) rfl rfl rfl (nz_3 hZ.2) (hts _ tw_25) (by decide +kernel) ⟨Nat.le_of_ble_eq_true rfl, Nat.le_of_ble_eq_true rfl⟩, rfl, (hts _ tw_89)⟩ ⟨kz_fb, kz_pre hPc hZ hDc⟩ rfl rfl hl.1 rfl (lv_room (Nat.le_of_ble_eq_true rfl)) dFF_init_42 ⟨Nat.le_of_ble_eq_true rfl, Nat.le_of_ble_eq_true rfl⟩) hP hD hS hA [12] [0, 1, 2, 3, 4, 5, 6, 7, 8, 9, 10, 11] rfl rfl (by decide) (by decide) (fun u H locs hP hD hS => ?_)
  obtain ⟨q13, q14, q15, q16, q17, q18, q19⟩ := u
  have hP : va_P (dC, dI) vwCl [(q, .inr (5, [.ref q1, .ref q5, .ref q10, .null, .null])), (q1, .inr (2, [.ref q2, .ref q3, .int 0, .ref q4])), (q2, .inl (cI, 17, .inl (fun _ => 0))), (q3, .inl (cI, 256, .inl (fun _ => 0))), (q4, .inl (cZ, 256, .inl (fun _ => 0))), (q5, .inr (3, [.ref q6, .ref q7, .ref q8, .ref q9, .int 0])), (q6, .inl (cI, 17, .inl (fun _ => 0))), (q7, .inl (cI, 256, .inl (fun _ => 0))), (q8, .inl (cI, 256, .inl (fun _ => 0))), (q9, .inl (cI, 256, .inl (fun _ => 0))), (q10, .inr (4, [.ref q11, .int 0])), (q11, .inl (cI, 256, .inl (fun _ => 0))), (q12, .inr (0, [.ref q13, .ref q14, .ref q15, .ref q16, .int 0, .ref q17, .ref q18, .ref q19, .int 0])), (q13, .inl (cI, 257, .inl (fun _ => 0))), (q14, .inl (cI, 256, .inl (fun _ => 0))), (q15, .inl (cI, 257, .inl (fun _ => 0))), (q16, .inl (cI, 257, .inl (fun _ => 0))), (q17, .inl (cI, 257, .inl (fun _ => 0))), (q18, .inl (cI, 513, .inl (fun _ => 0))), (q19, .inl (cI, 513, .inl (fun _ => 0)))] H := hP
  have hD : va_D A [(q, .inr (5, [.ref q1, .ref q5, .ref q10, .null, .null])), (q1, .inr (2, [.ref q2, .ref q3, .int 0, .ref q4])), (q2, .inl (cI, 17, .inl (fun _ => 0))), (q3, .inl (cI, 256, .inl (fun _ => 0))), (q4, .inl (cZ, 256, .inl (fun _ => 0))), (q5, .inr (3, [.ref q6, .ref q7, .ref q8, .ref q9, .int 0])), (q6, .inl (cI, 17, .inl (fun _ => 0))), (q7, .inl (cI, 256, .inl (fun _ => 0))), (q8, .inl (cI, 256, .inl (fun _ => 0))), (q9, .inl (cI, 256, .inl (fun _ => 0))), (q10, .inr (4, [.ref q11, .int 0])), (q11, .inl (cI, 256, .inl (fun _ => 0))), (q12, .inr (0, [.ref q13, .ref q14, .ref q15, .ref q16, .int 0, .ref q17, .ref q18, .ref q19, .int 0])), (q13, .inl (cI, 257, .inl (fun _ => 0))), (q14, .inl (cI, 256, .inl (fun _ => 0))), (q15, .inl (cI, 257, .inl (fun _ => 0))), (q16, .inl (cI, 257, .inl (fun _ => 0))), (q17, .inl (cI, 257, .inl (fun _ => 0))), (q18, .inl (cI, 513, .inl (fun _ => 0))), (q19, .inl (cI, 513, .inl (fun _ => 0)))] := hD
  refine va_putF (D := (dC, dI)) (ci := 5) (v := .ref q12) (ty := (.object "HuffForge$BestFinder")) (C := RFF) (T := TFF) (N := 5) hx hb hts hi_FF tyFF tyFF_ok nmFF hown hK hP hD hS 0 rfl rfl 3 (by decide) (hts _ tw_128) (fun _ h9 => h9) rfl hin rfl (by decide +kernel) rfl rfl (Nat.le_of_ble_eq_true rfl) dFF_init_45 (fun H locs hP hD hS => ?_)
  have hP : va_P (dC, dI) vwCl [(q, .inr (5, [.ref q1, .ref q5, .ref q10, .ref q12, .null])), (q1, .inr (2, [.ref q2, .ref q3, .int 0, .ref q4])), (q2, .inl (cI, 17, .inl (fun _ => 0))), (q3, .inl (cI, 256, .inl (fun _ => 0))), (q4, .inl (cZ, 256, .inl (fun _ => 0))), (q5, .inr (3, [.ref q6, .ref q7, .ref q8, .ref q9, .int 0])), (q6, .inl (cI, 17, .inl (fun _ => 0))), (q7, .inl (cI, 256, .inl (fun _ => 0))), (q8, .inl (cI, 256, .inl (fun _ => 0))), (q9, .inl (cI, 256, .inl (fun _ => 0))), (q10, .inr (4, [.ref q11, .int 0])), (q11, .inl (cI, 256, .inl (fun _ => 0))), (q12, .inr (0, [.ref q13, .ref q14, .ref q15, .ref q16, .int 0, .ref q17, .ref q18, .ref q19, .int 0])), (q13, .inl (cI, 257, .inl (fun _ => 0))), (q14, .inl (cI, 256, .inl (fun _ => 0))), (q15, .inl (cI, 257, .inl (fun _ => 0))), (q16, .inl (cI, 257, .inl (fun _ => 0))), (q17, .inl (cI, 257, .inl (fun _ => 0))), (q18, .inl (cI, 513, .inl (fun _ => 0))), (q19, .inl (cI, 513, .inl (fun _ => 0)))] H := hP
  have hD : va_D A [(q, .inr (5, [.ref q1, .ref q5, .ref q10, .ref q12, .null])), (q1, .inr (2, [.ref q2, .ref q3, .int 0, .ref q4])), (q2, .inl (cI, 17, .inl (fun _ => 0))), (q3, .inl (cI, 256, .inl (fun _ => 0))), (q4, .inl (cZ, 256, .inl (fun _ => 0))), (q5, .inr (3, [.ref q6, .ref q7, .ref q8, .ref q9, .int 0])), (q6, .inl (cI, 17, .inl (fun _ => 0))), (q7, .inl (cI, 256, .inl (fun _ => 0))), (q8, .inl (cI, 256, .inl (fun _ => 0))), (q9, .inl (cI, 256, .inl (fun _ => 0))), (q10, .inr (4, [.ref q11, .int 0])), (q11, .inl (cI, 256, .inl (fun _ => 0))), (q12, .inr (0, [.ref q13, .ref q14, .ref q15, .ref q16, .int 0, .ref q17, .ref q18, .ref q19, .int 0])), (q13, .inl (cI, 257, .inl (fun _ => 0))), (q14, .inl (cI, 256, .inl (fun _ => 0))), (q15, .inl (cI, 257, .inl (fun _ => 0))), (q16, .inl (cI, 257, .inl (fun _ => 0))), (q17, .inl (cI, 257, .inl (fun _ => 0))), (q18, .inl (cI, 513, .inl (fun _ => 0))), (q19, .inl (cI, 513, .inl (fun _ => 0)))] := hD
  refine lv_aload_n hx hb dFF_init_48 rfl (lv_at hl 0 rfl) ?_
  refine va_new (ci := 1) (fs := [.null, .int 0, .int 0]) (C := RFR) (T := TFR) (N := 3) hx hb hts hi_FR tyFR tyFR_ok hown (hts _ tw_112) (hts _ tw_113) (hts _ tw_26) hK hP hD hS hA rfl (by decide +kernel) (Nat.le_of_ble_eq_true rfl) (Nat.le_of_ble_eq_true rfl) dFF_init_49 (fun q20 H hP hD hS => ?_)
  have hP : va_P (dC, dI) vwCl [(q, .inr (5, [.ref q1, .ref q5, .ref q10, .ref q12, .null])), (q1, .inr (2, [.ref q2, .ref q3, .int 0, .ref q4])), (q2, .inl (cI, 17, .inl (fun _ => 0))), (q3, .inl (cI, 256, .inl (fun _ => 0))), (q4, .inl (cZ, 256, .inl (fun _ => 0))), (q5, .inr (3, [.ref q6, .ref q7, .ref q8, .ref q9, .int 0])), (q6, .inl (cI, 17, .inl (fun _ => 0))), (q7, .inl (cI, 256, .inl (fun _ => 0))), (q8, .inl (cI, 256, .inl (fun _ => 0))), (q9, .inl (cI, 256, .inl (fun _ => 0))), (q10, .inr (4, [.ref q11, .int 0])), (q11, .inl (cI, 256, .inl (fun _ => 0))), (q12, .inr (0, [.ref q13, .ref q14, .ref q15, .ref q16, .int 0, .ref q17, .ref q18, .ref q19, .int 0])), (q13, .inl (cI, 257, .inl (fun _ => 0))), (q14, .inl (cI, 256, .inl (fun _ => 0))), (q15, .inl (cI, 257, .inl (fun _ => 0))), (q16, .inl (cI, 257, .inl (fun _ => 0))), (q17, .inl (cI, 257, .inl (fun _ => 0))), (q18, .inl (cI, 513, .inl (fun _ => 0))), (q19, .inl (cI, 513, .inl (fun _ => 0))), (q20, .inr (1, [.null, .int 0, .int 0]))] H := hP
  have hD : va_D A [(q, .inr (5, [.ref q1, .ref q5, .ref q10, .ref q12, .null])), (q1, .inr (2, [.ref q2, .ref q3, .int 0, .ref q4])), (q2, .inl (cI, 17, .inl (fun _ => 0))), (q3, .inl (cI, 256, .inl (fun _ => 0))), (q4, .inl (cZ, 256, .inl (fun _ => 0))), (q5, .inr (3, [.ref q6, .ref q7, .ref q8, .ref q9, .int 0])), (q6, .inl (cI, 17, .inl (fun _ => 0))), (q7, .inl (cI, 256, .inl (fun _ => 0))), (q8, .inl (cI, 256, .inl (fun _ => 0))), (q9, .inl (cI, 256, .inl (fun _ => 0))), (q10, .inr (4, [.ref q11, .int 0])), (q11, .inl (cI, 256, .inl (fun _ => 0))), (q12, .inr (0, [.ref q13, .ref q14, .ref q15, .ref q16, .int 0, .ref q17, .ref q18, .ref q19, .int 0])), (q13, .inl (cI, 257, .inl (fun _ => 0))), (q14, .inl (cI, 256, .inl (fun _ => 0))), (q15, .inl (cI, 257, .inl (fun _ => 0))), (q16, .inl (cI, 257, .inl (fun _ => 0))), (q17, .inl (cI, 257, .inl (fun _ => 0))), (q18, .inl (cI, 513, .inl (fun _ => 0))), (q19, .inl (cI, 513, .inl (fun _ => 0))), (q20, .inr (1, [.null, .int 0, .int 0]))] := hD
  refine lv_dup hx hb dFF_init_52 rfl ?_
  have hPc := hP.sub (ws' := [(q20, .inr (1, [.null, .int 0, .int 0]))]) [20] rfl
  have hDc := hD.sub (ws' := [(q20, .inr (1, [.null, .int 0, .int 0]))]) [20] (by decide) rfl
  refine ax_callc (wr := [(q, .inr (5, [.ref q1, .ref q5, .ref q10, .ref q12, .null])), (q1, .inr (2, [.ref q2, .ref q3, .int 0, .ref q4])), (q2, .inl (cI, 17, .inl (fun _ => 0))), (q3, .inl (cI, 256, .inl (fun _ => 0))), (q4, .inl (cZ, 256, .inl (fun _ => 0))), (q5, .inr (3, [.ref q6, .ref q7, .ref q8, .ref q9, .int 0])), (q6, .inl (cI, 17, .inl (fun _ => 0))), (q7, .inl (cI, 256, .inl (fun _ => 0))), (q8, .inl (cI, 256, .inl (fun _ => 0))), (q9, .inl (cI, 256, .inl (fun _ => 0))), (q10, .inr (4, [.ref q11, .int 0])), (q11, .inl (cI, 256, .inl (fun _ => 0))), (q12, .inr (0, [.ref q13, .ref q14, .ref q15, .ref q16, .int 0, .ref q17, .ref q18, .ref q19, .int 0])), (q13, .inl (cI, 257, .inl (fun _ => 0))), (q14, .inl (cI, 256, .inl (fun _ => 0))), (q15, .inl (cI, 257, .inl (fun _ => 0))), (q16, .inl (cI, 257, .inl (fun _ => 0))), (q17, .inl (cI, 257, .inl (fun _ => 0))), (q18, .inl (cI, 513, .inl (fun _ => 0))), (q19, .inl (cI, 513, .inl (fun _ => 0)))]) (va_runIN (As := []) (rest := [.ref q20, .ref q]) ⟨hx, hb, hml, hown, hts⟩ (ci_FR_init l dC dI cI cZ cL cB q20 H.size) ⟨va_cnB 0 hts (tt_c tw_115) rfl rfl rfl (nz_4 hZ.2) (hts _ tw_26) (by decide +kernel) ⟨Nat.le_of_ble_eq_true rfl, Nat.le_of_ble_eq_true rfl⟩, rfl, (hts _ tw_114)⟩ ⟨kz_fb, kz_pre hPc hZ hDc⟩ rfl rfl hl.1 rfl (lv_room (Nat.le_of_ble_eq_true rfl)) dFF_init_53 ⟨Nat.le_of_ble_eq_true rfl, Nat.le_of_ble_eq_true rfl⟩) hP hD hS hA [20] [0, 1, 2, 3, 4, 5, 6, 7, 8, 9, 10, 11, 12, 13, 14, 15, 16, 17, 18, 19] rfl rfl (by decide) (by decide) (fun u H locs hP hD hS => ?_)
  obtain ⟨q21, rfl⟩ : ∃ z, z = u := ⟨_, rfl⟩
  have hP : va_P (dC, dI) vwCl [(q, .inr (5, [.ref q1, .ref q5, .ref q10, .ref q12, .null])), (q1, .inr (2, [.ref q2, .ref q3, .int 0, .ref q4])), (q2, .inl (cI, 17, .inl (fun _ => 0))), (q3, .inl (cI, 256, .inl (fun _ => 0))), (q4, .inl (cZ, 256, .inl (fun _ => 0))), (q5, .inr (3, [.ref q6, .ref q7, .ref q8, .ref q9, .int 0])), (q6, .inl (cI, 17, .inl (fun _ => 0))), (q7, .inl (cI, 256, .inl (fun _ => 0))), (q8, .inl (cI, 256, .inl (fun _ => 0))), (q9, .inl (cI, 256, .inl (fun _ => 0))), (q10, .inr (4, [.ref q11, .int 0])), (q11, .inl (cI, 256, .inl (fun _ => 0))), (q12, .inr (0, [.ref q13, .ref q14, .ref q15, .ref q16, .int 0, .ref q17, .ref q18, .ref q19, .int 0])), (q13, .inl (cI, 257, .inl (fun _ => 0))), (q14, .inl (cI, 256, .inl (fun _ => 0))), (q15, .inl (cI, 257, .inl (fun _ => 0))), (q16, .inl (cI, 257, .inl (fun _ => 0))), (q17, .inl (cI, 257, .inl (fun _ => 0))), (q18, .inl (cI, 513, .inl (fun _ => 0))), (q19, .inl (cI, 513, .inl (fun _ => 0))), (q20, .inr (1, [.ref q21, .int 0, .int 0])), (q21, .inl (cI, 2048, .inl (fun _ => 0)))] H := hP
  have hD : va_D A [(q, .inr (5, [.ref q1, .ref q5, .ref q10, .ref q12, .null])), (q1, .inr (2, [.ref q2, .ref q3, .int 0, .ref q4])), (q2, .inl (cI, 17, .inl (fun _ => 0))), (q3, .inl (cI, 256, .inl (fun _ => 0))), (q4, .inl (cZ, 256, .inl (fun _ => 0))), (q5, .inr (3, [.ref q6, .ref q7, .ref q8, .ref q9, .int 0])), (q6, .inl (cI, 17, .inl (fun _ => 0))), (q7, .inl (cI, 256, .inl (fun _ => 0))), (q8, .inl (cI, 256, .inl (fun _ => 0))), (q9, .inl (cI, 256, .inl (fun _ => 0))), (q10, .inr (4, [.ref q11, .int 0])), (q11, .inl (cI, 256, .inl (fun _ => 0))), (q12, .inr (0, [.ref q13, .ref q14, .ref q15, .ref q16, .int 0, .ref q17, .ref q18, .ref q19, .int 0])), (q13, .inl (cI, 257, .inl (fun _ => 0))), (q14, .inl (cI, 256, .inl (fun _ => 0))), (q15, .inl (cI, 257, .inl (fun _ => 0))), (q16, .inl (cI, 257, .inl (fun _ => 0))), (q17, .inl (cI, 257, .inl (fun _ => 0))), (q18, .inl (cI, 513, .inl (fun _ => 0))), (q19, .inl (cI, 513, .inl (fun _ => 0))), (q20, .inr (1, [.ref q21, .int 0, .int 0])), (q21, .inl (cI, 2048, .inl (fun _ => 0)))] := hD
  refine va_putF (D := (dC, dI)) (ci := 5) (v := .ref q20) (ty := (.object "HuffForge$BitRow")) (C := RFF) (T := TFF) (N := 5) hx hb hts hi_FF tyFF tyFF_ok nmFF hown hK hP hD hS 0 rfl rfl 4 (by decide) (hts _ tw_129) (fun _ h9 => h9) rfl hin rfl (by decide +kernel) rfl rfl (Nat.le_of_ble_eq_true rfl) dFF_init_56 (fun H locs hP hD hS => ?_)
  have hP : va_P (dC, dI) vwCl [(q, .inr (5, [.ref q1, .ref q5, .ref q10, .ref q12, .ref q20])), (q1, .inr (2, [.ref q2, .ref q3, .int 0, .ref q4])), (q2, .inl (cI, 17, .inl (fun _ => 0))), (q3, .inl (cI, 256, .inl (fun _ => 0))), (q4, .inl (cZ, 256, .inl (fun _ => 0))), (q5, .inr (3, [.ref q6, .ref q7, .ref q8, .ref q9, .int 0])), (q6, .inl (cI, 17, .inl (fun _ => 0))), (q7, .inl (cI, 256, .inl (fun _ => 0))), (q8, .inl (cI, 256, .inl (fun _ => 0))), (q9, .inl (cI, 256, .inl (fun _ => 0))), (q10, .inr (4, [.ref q11, .int 0])), (q11, .inl (cI, 256, .inl (fun _ => 0))), (q12, .inr (0, [.ref q13, .ref q14, .ref q15, .ref q16, .int 0, .ref q17, .ref q18, .ref q19, .int 0])), (q13, .inl (cI, 257, .inl (fun _ => 0))), (q14, .inl (cI, 256, .inl (fun _ => 0))), (q15, .inl (cI, 257, .inl (fun _ => 0))), (q16, .inl (cI, 257, .inl (fun _ => 0))), (q17, .inl (cI, 257, .inl (fun _ => 0))), (q18, .inl (cI, 513, .inl (fun _ => 0))), (q19, .inl (cI, 513, .inl (fun _ => 0))), (q20, .inr (1, [.ref q21, .int 0, .int 0])), (q21, .inl (cI, 2048, .inl (fun _ => 0)))] H := hP
  have hD : va_D A [(q, .inr (5, [.ref q1, .ref q5, .ref q10, .ref q12, .ref q20])), (q1, .inr (2, [.ref q2, .ref q3, .int 0, .ref q4])), (q2, .inl (cI, 17, .inl (fun _ => 0))), (q3, .inl (cI, 256, .inl (fun _ => 0))), (q4, .inl (cZ, 256, .inl (fun _ => 0))), (q5, .inr (3, [.ref q6, .ref q7, .ref q8, .ref q9, .int 0])), (q6, .inl (cI, 17, .inl (fun _ => 0))), (q7, .inl (cI, 256, .inl (fun _ => 0))), (q8, .inl (cI, 256, .inl (fun _ => 0))), (q9, .inl (cI, 256, .inl (fun _ => 0))), (q10, .inr (4, [.ref q11, .int 0])), (q11, .inl (cI, 256, .inl (fun _ => 0))), (q12, .inr (0, [.ref q13, .ref q14, .ref q15, .ref q16, .int 0, .ref q17, .ref q18, .ref q19, .int 0])), (q13, .inl (cI, 257, .inl (fun _ => 0))), (q14, .inl (cI, 256, .inl (fun _ => 0))), (q15, .inl (cI, 257, .inl (fun _ => 0))), (q16, .inl (cI, 257, .inl (fun _ => 0))), (q17, .inl (cI, 257, .inl (fun _ => 0))), (q18, .inl (cI, 513, .inl (fun _ => 0))), (q19, .inl (cI, 513, .inl (fun _ => 0))), (q20, .inr (1, [.ref q21, .int 0, .int 0])), (q21, .inl (cI, 2048, .inl (fun _ => 0)))] := hD
  refine W.widen (k := 21) (n := 5951) (Nat.le_of_ble_eq_true rfl) (Nat.le_of_ble_eq_true rfl) ?_
  exact ax_cret (u := (q1, q2, q3, q4, q5, q6, q7, q8, q9, q10, q11, q12, q13, q14, q15, q16, q17, q18, q19, q20, q21)) hx hb hr hP hD hS dFF_init_59 hlocks
abbrev wsFF_isWordLength : List Cond := Cond.code yFF_isWordLength cFF_isWordLength 1 (some .boolean) :: tt
set_option maxHeartbeats 4000000 in
set_option maxRecDepth 100000 in
theorem cc_FF_isWordLength (l : Launch) (dC : Nat → ClassId) (dI : Nat → Nat → Nat) (cI cZ cL cB : ClassId) (sz : Nat) (a_0 : Int32) (r : Int32) (hf : f_FF_isWordLength a_0 = some r) : Met l yFF_isWordLength wsFF_isWordLength ({ frames := 0, cells := 0, slots := 0, locals := 0 }) (va_Pc [.int a_0] (kz_P dC dI cI cZ cL cB sz (w_FF_isWordLength cI cZ cL cB ))) (va_Qi (fun (r' : Int32) (_ : Unit) => r' = r) (fun _ t => va_P (dC, dI) vwCl (w_FF_isWordLength cI cZ cL cB ) t.heap ∧ va_D (va_A (w_FF_isWordLength cI cZ cL cB ) sz) (w_FF_isWordLength cI cZ cL cB )) (va_A (w_FF_isWordLength cI cZ cL cB ) sz)) 0 0 (va_A (w_FF_isWordLength cI cZ cL cB ) sz) := by
  refine Met.ofW (cc := cFF_isWordLength) (maxL := 1) (ret := (some .boolean)) (by decide) rfl ?_
  intro p e s m args below meth c s₁ B hml hv
  obtain ⟨rfl, hsz, hP, hZ, hD0⟩ := hv
  have hK := hZ.1
  have hx := B.exec
  have hb := B.bytes
  have hr := B.returns
  have hts : ∀ w ∈ tt, w.before _ s = true := fun w h => atoms_spec (ws := wsFF_isWordLength) B.pre w (List.mem_cons_of_mem _ h)
  have hown : s.vm.findClass RFF = some m.cls := findClass_of_methodNamed B.named
  have hlocks := B.notSynchronized
  subst hsz
  have hD := hD0.self (sz := s.heap.size)
  generalize hAe : va_A (w_FF_isWordLength cI cZ cL cB ) s.heap.size = A at hD ⊢
  have hA : ∀ q : Nat, s.heap.size ≤ q → A q := fun q h => by rw [← hAe]; exact Or.inr h
  have hS : va_S A s.heap s.heap [] := va_S.rf
  have hl := lv_entry [.int a_0] (n := 1) (Nat.le_of_ble_eq_true rfl)
  rw [lg_entry_eq]
  generalize (lg_sl [.int a_0] ++ List.replicate (1 - (lg_sl [.int a_0]).length) Slot.unset).toArray = ls at hl ⊢
  have hl : lv_has ls 1 [(0, .int a_0)] := hl
  unfold f_FF_isWordLength at hf
  refine lv_iload_n hx hb dFF_isWordLength_0 rfl (lv_at hl 0 rfl) ?_
  refine lv_iconst (v := 1) hx hb dFF_isWordLength_1 (by decide) ?_
  refine lv_icmp_lt (tgt := 15) hx hb dFF_isWordLength_2 (by decide) (fun c_1 => ?_) (fun c_1 => ?_)
  · have hf := ifT hf c_1
    refine lv_iconst (v := 0) hx hb dFF_isWordLength_15 (by decide) ?_
    cases hf
    exact ax_zret hx hb hr rfl hP hD hS dFF_isWordLength_16 hlocks
  · have hf := ifF hf c_1
    refine lv_iload_n hx hb dFF_isWordLength_5 rfl (lv_at hl 0 rfl) ?_
    refine lv_bipush (v := 16) hx hb dFF_isWordLength_6 (by decide) ?_
    refine lv_icmp_gt (tgt := 15) hx hb dFF_isWordLength_8 (by decide) (fun c_2 => ?_) (fun c_2 => ?_)
    · have hf := ifT hf c_2
      refine lv_iconst (v := 0) hx hb dFF_isWordLength_15 (by decide) ?_
      cases hf
      exact ax_zret hx hb hr rfl hP hD hS dFF_isWordLength_16 hlocks
    · have hf := ifF hf c_2
      refine lv_iconst (v := 1) hx hb dFF_isWordLength_11 (by decide) ?_
      refine lv_goto (tgt := 16) hx hb dFF_isWordLength_12 (by decide) ?_
      cases hf
      exact ax_zret hx hb hr rfl hP hD hS dFF_isWordLength_16 hlocks
abbrev wsFF_count : List Cond := Cond.code yFF_count cFF_count 3 (some .boolean) :: tt
set_option maxHeartbeats 4000000 in
set_option maxRecDepth 100000 in
theorem cc_FF_count (l : Launch) (dC : Nat → ClassId) (dI : Nat → Nat → Nat) (cI cZ cL cB : ClassId) (q q_draft q_table q_tally q_finder q_row q_draft_counts q_draft_symbols q_draft_seen : Nat) (sz : Nat) (k_draft_size : Int32) (k_draft_counts : Nat → Int32) (a_0 : Int32) (a_1 : Int32) (r : Int32) (o_draft_counts : Nat → Int32) (hf : f_FF_count k_draft_size k_draft_counts a_0 a_1 = some (r, o_draft_counts)) : Met l yFF_count wsFF_count ({ frames := 1, cells := 0, slots := 0, locals := 20 }) (va_Pc [.ref q, .int a_0, .int a_1] (kz_P dC dI cI cZ cL cB sz (w_FF_count cI cZ cL cB q q_draft q_table q_tally q_finder q_row q_draft_counts q_draft_symbols q_draft_seen k_draft_size k_draft_counts))) (va_Qi (fun (r' : Int32) (_ : Unit) => r' = r) (fun _ t => va_P (dC, dI) vwCl (w_FF_count cI cZ cL cB q q_draft q_table q_tally q_finder q_row q_draft_counts q_draft_symbols q_draft_seen k_draft_size o_draft_counts) t.heap ∧ va_D (va_A (w_FF_count cI cZ cL cB q q_draft q_table q_tally q_finder q_row q_draft_counts q_draft_symbols q_draft_seen k_draft_size k_draft_counts) sz) (w_FF_count cI cZ cL cB q q_draft q_table q_tally q_finder q_row q_draft_counts q_draft_symbols q_draft_seen k_draft_size o_draft_counts)) (va_A (w_FF_count cI cZ cL cB q q_draft q_table q_tally q_finder q_row q_draft_counts q_draft_symbols q_draft_seen k_draft_size k_draft_counts) sz)) 0 0 (va_A (w_FF_count cI cZ cL cB q q_draft q_table q_tally q_finder q_row q_draft_counts q_draft_symbols q_draft_seen k_draft_size k_draft_counts) sz) := by
  refine Met.ofW (cc := cFF_count) (maxL := 3) (ret := (some .boolean)) (by decide) rfl ?_
  intro p e s m args below meth c s₁ B hml hv
  obtain ⟨rfl, hsz, hP, hZ, hD0⟩ := hv
  have hK := hZ.1
  have hx := B.exec
  have hb := B.bytes
  have hr := B.returns
  have hts : ∀ w ∈ tt, w.before _ s = true := fun w h => atoms_spec (ws := wsFF_count) B.pre w (List.mem_cons_of_mem _ h)
  have hown : s.vm.findClass RFF = some m.cls := findClass_of_methodNamed B.named
  have hlocks := B.notSynchronized
  subst hsz
  have hD := hD0.self (sz := s.heap.size)
  generalize hAe : va_A (w_FF_count cI cZ cL cB q q_draft q_table q_tally q_finder q_row q_draft_counts q_draft_symbols q_draft_seen k_draft_size k_draft_counts) s.heap.size = A at hD ⊢
  have hA : ∀ q : Nat, s.heap.size ≤ q → A q := fun q h => by rw [← hAe]; exact Or.inr h
  have hS : va_S A s.heap s.heap [] := va_S.rf
  have hl := lv_entry [.ref q, .int a_0, .int a_1] (n := 3) (Nat.le_of_ble_eq_true rfl)
  rw [lg_entry_eq]
  generalize (lg_sl [.ref q, .int a_0, .int a_1] ++ List.replicate (3 - (lg_sl [.ref q, .int a_0, .int a_1]).length) Slot.unset).toArray = ls at hl ⊢
  have hl : lv_has ls 3 [(0, .ref q), (1, .int a_0), (2, .int a_1)] := hl
  unfold f_FF_count at hf
  refine lv_iload_n hx hb dFF_count_0 rfl (lv_at hl 1 rfl) ?_
  obtain ⟨r1, h2, hf⟩ := bd1_some hf
  have hPc := hP.sub (ws' := (w_FF_isWordLength cI cZ cL cB )) [] rfl
  have hDc := hD.sub (ws' := (w_FF_isWordLength cI cZ cL cB )) [] (by decide) rfl
  refine ax_calli (wr := [(q, .inr (5, [.ref q_draft, .ref q_table, .ref q_tally, .ref q_finder, .ref q_row])), (q_draft, .inr (2, [.ref q_draft_counts, .ref q_draft_symbols, .int k_draft_size, .ref q_draft_seen])), (q_draft_counts, .inl (cI, 17, .inl k_draft_counts))]) (w2 := (w_FF_count cI cZ cL cB q q_draft q_table q_tally q_finder q_row q_draft_counts q_draft_symbols q_draft_seen k_draft_size k_draft_counts)) (va_runS (As := [.int a_0]) (rest := []) ⟨hx, hb, hml, hown, hts⟩ (cc_FF_isWordLength l dC dI cI cZ cL cB  s.heap.size a_0 r1 h2) (va_cwS 1 hts (tt_S tw_139 tw_140 tw_21 tw_141) rfl rfl rfl (by decide +kernel) ⟨Nat.le_of_ble_eq_true rfl, Nat.le_of_ble_eq_true rfl⟩) ⟨kz_fb, kz_pre hPc hZ hDc⟩ rfl rfl hl.1 rfl (lv_room (Nat.le_of_ble_eq_true rfl)) dFF_count_1 ⟨Nat.zero_le _, Nat.zero_le _⟩) hP hD hS hA [] [0, 1, 2] [0, 1, 2] rfl rfl (by decide) (by decide) rfl (by decide) (fun H locs hP hD hS => ?_)
  refine lv_if_eq (tgt := 18) hx hb dFF_count_4 (by decide) (fun c_3 => ?_) (fun c_3 => ?_)
  · have hf := ifT hf c_3
    refine lv_iconst (v := 0) hx hb dFF_count_18 (by decide) ?_
    cases hf
    exact ax_zret hx hb hr rfl hP hD hS dFF_count_19 hlocks
  · have hf := ifF hf c_3
    refine lv_iload_n hx hb dFF_count_7 rfl (lv_at hl 2 rfl) ?_
    refine lv_if_lt (tgt := 18) hx hb dFF_count_8 (by decide) (fun c_4 => ?_) (fun c_4 => ?_)
    · have hf := ifT hf c_4
      refine lv_iconst (v := 0) hx hb dFF_count_18 (by decide) ?_
      cases hf
      exact ax_zret hx hb hr rfl hP hD hS dFF_count_19 hlocks
    · have hf := ifF hf c_4
      refine lv_iload_n hx hb dFF_count_11 rfl (lv_at hl 2 rfl) ?_
      refine lv_sipush (v := 255) hx hb dFF_count_12 (by decide) ?_
      refine lv_icmp_le (tgt := 20) hx hb dFF_count_15 (by decide) (fun c_5 => ?_) (fun c_5 => ?_)
      · have hf := ifT hf c_5
        refine lv_aload_n hx hb dFF_count_20 rfl (lv_at hl 0 rfl) ?_
        refine va_get (D := (dC, dI)) (ci := 5) (v := .ref q_draft) (C := RFF) (T := TFF) (N := 5) hx hb hts hi_FF hown hK hP 0 rfl rfl 0 (by decide) (hts _ tw_125) (fun _ h9 => h9) rfl dFF_count_21 ?_
        refine va_get (D := (dC, dI)) (ci := 2) (v := .ref q_draft_counts) (C := RFD) (T := TFD) (N := 4) hx hb hts hi_FD hown hK hP 1 rfl rfl 0 (by decide) (hts _ tw_44) (fun _ h9 => h9) rfl dFF_count_24 ?_
        refine lv_iload_n hx hb dFF_count_27 rfl (lv_at hl 1 rfl) ?_
        refine lv_iload_n hx hb dFF_count_28 rfl (lv_at hl 2 rfl) ?_
        obtain ⟨g6, eg6, h7, hf⟩ := wr_some hf
        refine ax_iast hx hb hK hP hD hS 2 0 rfl rfl h7 eg6 dFF_count_29 (ws' := (w_FF_count cI cZ cL cB q q_draft q_table q_tally q_finder q_row q_draft_counts q_draft_symbols q_draft_seen k_draft_size g6)) rfl (fun H locs hP hD hS => ?_)
        refine lv_iconst (v := 1) hx hb dFF_count_30 (by decide) ?_
        cases hf
        exact ax_zret hx hb hr rfl hP hD hS dFF_count_31 hlocks
      · have hf := ifF hf c_5
        refine lv_iconst (v := 0) hx hb dFF_count_18 (by decide) ?_
        cases hf
        exact ax_zret hx hb hr rfl hP hD hS dFF_count_19 hlocks
abbrev wsFF_isSymbol : List Cond := Cond.code yFF_isSymbol cFF_isSymbol 1 (some .boolean) :: tt
set_option maxHeartbeats 4000000 in
set_option maxRecDepth 100000 in
theorem cc_FF_isSymbol (l : Launch) (dC : Nat → ClassId) (dI : Nat → Nat → Nat) (cI cZ cL cB : ClassId) (sz : Nat) (a_0 : Int32) (r : Int32) (hf : f_FF_isSymbol a_0 = some r) : Met l yFF_isSymbol wsFF_isSymbol ({ frames := 0, cells := 0, slots := 0, locals := 0 }) (va_Pc [.int a_0] (kz_P dC dI cI cZ cL cB sz (w_FF_isSymbol cI cZ cL cB ))) (va_Qi (fun (r' : Int32) (_ : Unit) => r' = r) (fun _ t => va_P (dC, dI) vwCl (w_FF_isSymbol cI cZ cL cB ) t.heap ∧ va_D (va_A (w_FF_isSymbol cI cZ cL cB ) sz) (w_FF_isSymbol cI cZ cL cB )) (va_A (w_FF_isSymbol cI cZ cL cB ) sz)) 0 0 (va_A (w_FF_isSymbol cI cZ cL cB ) sz) := by
  refine Met.ofW (cc := cFF_isSymbol) (maxL := 1) (ret := (some .boolean)) (by decide) rfl ?_
  intro p e s m args below meth c s₁ B hml hv
  obtain ⟨rfl, hsz, hP, hZ, hD0⟩ := hv
  have hK := hZ.1
  have hx := B.exec
  have hb := B.bytes
  have hr := B.returns
  have hts : ∀ w ∈ tt, w.before _ s = true := fun w h => atoms_spec (ws := wsFF_isSymbol) B.pre w (List.mem_cons_of_mem _ h)
  have hown : s.vm.findClass RFF = some m.cls := findClass_of_methodNamed B.named
  have hlocks := B.notSynchronized
  subst hsz
  have hD := hD0.self (sz := s.heap.size)
  generalize hAe : va_A (w_FF_isSymbol cI cZ cL cB ) s.heap.size = A at hD ⊢
  have hA : ∀ q : Nat, s.heap.size ≤ q → A q := fun q h => by rw [← hAe]; exact Or.inr h
  have hS : va_S A s.heap s.heap [] := va_S.rf
  have hl := lv_entry [.int a_0] (n := 1) (Nat.le_of_ble_eq_true rfl)
  rw [lg_entry_eq]
  generalize (lg_sl [.int a_0] ++ List.replicate (1 - (lg_sl [.int a_0]).length) Slot.unset).toArray = ls at hl ⊢
  have hl : lv_has ls 1 [(0, .int a_0)] := hl
  unfold f_FF_isSymbol at hf
  refine lv_iload_n hx hb dFF_isSymbol_0 rfl (lv_at hl 0 rfl) ?_
  refine lv_if_lt (tgt := 15) hx hb dFF_isSymbol_1 (by decide) (fun c_1 => ?_) (fun c_1 => ?_)
  · have hf := ifT hf c_1
    refine lv_iconst (v := 0) hx hb dFF_isSymbol_15 (by decide) ?_
    cases hf
    exact ax_zret hx hb hr rfl hP hD hS dFF_isSymbol_16 hlocks
  · have hf := ifF hf c_1
    refine lv_iload_n hx hb dFF_isSymbol_4 rfl (lv_at hl 0 rfl) ?_
    refine lv_sipush (v := 256) hx hb dFF_isSymbol_5 (by decide) ?_
    refine lv_icmp_ge (tgt := 15) hx hb dFF_isSymbol_8 (by decide) (fun c_2 => ?_) (fun c_2 => ?_)
    · have hf := ifT hf c_2
      refine lv_iconst (v := 0) hx hb dFF_isSymbol_15 (by decide) ?_
      cases hf
      exact ax_zret hx hb hr rfl hP hD hS dFF_isSymbol_16 hlocks
    · have hf := ifF hf c_2
      refine lv_iconst (v := 1) hx hb dFF_isSymbol_11 (by decide) ?_
      refine lv_goto (tgt := 16) hx hb dFF_isSymbol_12 (by decide) ?_
      cases hf
      exact ax_zret hx hb hr rfl hP hD hS dFF_isSymbol_16 hlocks
abbrev wsFF_symbol : List Cond := Cond.code yFF_symbol cFF_symbol 2 (some .int) :: tt
set_option maxHeartbeats 4000000 in
set_option maxRecDepth 100000 in
theorem cc_FF_symbol (l : Launch) (dC : Nat → ClassId) (dI : Nat → Nat → Nat) (cI cZ cL cB : ClassId) (q q_draft q_table q_tally q_finder q_row q_draft_counts q_draft_symbols q_draft_seen : Nat) (sz : Nat) (k_draft_size : Int32) (k_draft_symbols : Nat → Int32) (a_0 : Int32) (r : Int32) (o_draft_size : Int32) (o_draft_symbols : Nat → Int32) (hf : f_FF_symbol k_draft_size k_draft_symbols a_0 = some (r, o_draft_size, o_draft_symbols)) : Met l yFF_symbol wsFF_symbol ({ frames := 1, cells := 0, slots := 0, locals := 20 }) (va_Pc [.ref q, .int a_0] (kz_P dC dI cI cZ cL cB sz (w_FF_symbol cI cZ cL cB q q_draft q_table q_tally q_finder q_row q_draft_counts q_draft_symbols q_draft_seen k_draft_size k_draft_symbols))) (va_Qi (fun (r' : Int32) (_ : Unit) => r' = r) (fun _ t => va_P (dC, dI) vwCl (w_FF_symbol cI cZ cL cB q q_draft q_table q_tally q_finder q_row q_draft_counts q_draft_symbols q_draft_seen o_draft_size o_draft_symbols) t.heap ∧ va_D (va_A (w_FF_symbol cI cZ cL cB q q_draft q_table q_tally q_finder q_row q_draft_counts q_draft_symbols q_draft_seen k_draft_size k_draft_symbols) sz) (w_FF_symbol cI cZ cL cB q q_draft q_table q_tally q_finder q_row q_draft_counts q_draft_symbols q_draft_seen o_draft_size o_draft_symbols)) (va_A (w_FF_symbol cI cZ cL cB q q_draft q_table q_tally q_finder q_row q_draft_counts q_draft_symbols q_draft_seen k_draft_size k_draft_symbols) sz)) 0 0 (va_A (w_FF_symbol cI cZ cL cB q q_draft q_table q_tally q_finder q_row q_draft_counts q_draft_symbols q_draft_seen k_draft_size k_draft_symbols) sz) := by
  refine Met.ofW (cc := cFF_symbol) (maxL := 2) (ret := (some .int)) (by decide) rfl ?_
  intro p e s m args below meth c s₁ B hml hv
  obtain ⟨rfl, hsz, hP, hZ, hD0⟩ := hv
  have hK := hZ.1
  have hx := B.exec
  have hb := B.bytes
  have hr := B.returns
  have hts : ∀ w ∈ tt, w.before _ s = true := fun w h => atoms_spec (ws := wsFF_symbol) B.pre w (List.mem_cons_of_mem _ h)
  have hown : s.vm.findClass RFF = some m.cls := findClass_of_methodNamed B.named
  have hlocks := B.notSynchronized
  subst hsz
  have hD := hD0.self (sz := s.heap.size)
  generalize hAe : va_A (w_FF_symbol cI cZ cL cB q q_draft q_table q_tally q_finder q_row q_draft_counts q_draft_symbols q_draft_seen k_draft_size k_draft_symbols) s.heap.size = A at hD ⊢
  have hA : ∀ q : Nat, s.heap.size ≤ q → A q := fun q h => by rw [← hAe]; exact Or.inr h
  have hS : va_S A s.heap s.heap [] := va_S.rf
  have hl := lv_entry [.ref q, .int a_0] (n := 2) (Nat.le_of_ble_eq_true rfl)
  rw [lg_entry_eq]
  generalize (lg_sl [.ref q, .int a_0] ++ List.replicate (2 - (lg_sl [.ref q, .int a_0]).length) Slot.unset).toArray = ls at hl ⊢
  have hl : lv_has ls 2 [(0, .ref q), (1, .int a_0)] := hl
  unfold f_FF_symbol at hf
  refine lv_iload_n hx hb dFF_symbol_0 rfl (lv_at hl 1 rfl) ?_
  obtain ⟨r1, h2, hf⟩ := bd1_some hf
  have hPc := hP.sub (ws' := (w_FF_isSymbol cI cZ cL cB )) [] rfl
  have hDc := hD.sub (ws' := (w_FF_isSymbol cI cZ cL cB )) [] (by decide) rfl
  refine ax_calli (wr := [(q, .inr (5, [.ref q_draft, .ref q_table, .ref q_tally, .ref q_finder, .ref q_row])), (q_draft, .inr (2, [.ref q_draft_counts, .ref q_draft_symbols, .int k_draft_size, .ref q_draft_seen])), (q_draft_symbols, .inl (cI, 256, .inl k_draft_symbols))]) (w2 := (w_FF_symbol cI cZ cL cB q q_draft q_table q_tally q_finder q_row q_draft_counts q_draft_symbols q_draft_seen k_draft_size k_draft_symbols)) (va_runS (As := [.int a_0]) (rest := []) ⟨hx, hb, hml, hown, hts⟩ (cc_FF_isSymbol l dC dI cI cZ cL cB  s.heap.size a_0 r1 h2) (va_cwS 1 hts (tt_S tw_146 tw_147 tw_21 tw_148) rfl rfl rfl (by decide +kernel) ⟨Nat.le_of_ble_eq_true rfl, Nat.le_of_ble_eq_true rfl⟩) ⟨kz_fb, kz_pre hPc hZ hDc⟩ rfl rfl hl.1 rfl (lv_room (Nat.le_of_ble_eq_true rfl)) dFF_symbol_1 ⟨Nat.zero_le _, Nat.zero_le _⟩) hP hD hS hA [] [0, 1, 2] [0, 1, 2] rfl rfl (by decide) (by decide) rfl (by decide) (fun H locs hP hD hS => ?_)
  refine lv_if_eq (tgt := 20) hx hb dFF_symbol_4 (by decide) (fun c_3 => ?_) (fun c_3 => ?_)
  · have hf := ifT hf c_3
    refine lv_iconst (v := (-1)) hx hb dFF_symbol_20 (by decide) ?_
    cases hf
    exact ax_iret hx hb hr hP hD hS dFF_symbol_21 hlocks
  · have hf := ifF hf c_3
    refine lv_aload_n hx hb dFF_symbol_7 rfl (lv_at hl 0 rfl) ?_
    refine va_get (D := (dC, dI)) (ci := 5) (v := .ref q_draft) (C := RFF) (T := TFF) (N := 5) hx hb hts hi_FF hown hK hP 0 rfl rfl 0 (by decide) (hts _ tw_125) (fun _ h9 => h9) rfl dFF_symbol_8 ?_
    refine va_get (D := (dC, dI)) (ci := 2) (v := .int k_draft_size) (C := RFD) (T := TFD) (N := 4) hx hb hts hi_FD hown hK hP 1 rfl rfl 2 (by decide) (hts _ tw_48) (fun _ h9 => h9) rfl dFF_symbol_11 ?_
    refine lv_sipush (v := 256) hx hb dFF_symbol_14 (by decide) ?_
    refine lv_icmp_lt (tgt := 22) hx hb dFF_symbol_17 (by decide) (fun c_4 => ?_) (fun c_4 => ?_)
    · have hf := ifT hf c_4
      refine lv_aload_n hx hb dFF_symbol_22 rfl (lv_at hl 0 rfl) ?_
      refine va_get (D := (dC, dI)) (ci := 5) (v := .ref q_draft) (C := RFF) (T := TFF) (N := 5) hx hb hts hi_FF hown hK hP 0 rfl rfl 0 (by decide) (hts _ tw_125) (fun _ h9 => h9) rfl dFF_symbol_23 ?_
      refine va_get (D := (dC, dI)) (ci := 2) (v := .ref q_draft_symbols) (C := RFD) (T := TFD) (N := 4) hx hb hts hi_FD hown hK hP 1 rfl rfl 1 (by decide) (hts _ tw_46) (fun _ h9 => h9) rfl dFF_symbol_26 ?_
      refine lv_aload_n hx hb dFF_symbol_29 rfl (lv_at hl 0 rfl) ?_
      refine va_get (D := (dC, dI)) (ci := 5) (v := .ref q_draft) (C := RFF) (T := TFF) (N := 5) hx hb hts hi_FF hown hK hP 0 rfl rfl 0 (by decide) (hts _ tw_125) (fun _ h9 => h9) rfl dFF_symbol_30 ?_
      refine va_get (D := (dC, dI)) (ci := 2) (v := .int k_draft_size) (C := RFD) (T := TFD) (N := 4) hx hb hts hi_FD hown hK hP 1 rfl rfl 2 (by decide) (hts _ tw_48) (fun _ h9 => h9) rfl dFF_symbol_33 ?_
      refine lv_iload_n hx hb dFF_symbol_36 rfl (lv_at hl 1 rfl) ?_
      obtain ⟨g5, eg5, h6, hf⟩ := wr_some hf
      refine ax_iast hx hb hK hP hD hS 2 0 rfl rfl h6 eg5 dFF_symbol_37 (ws' := (w_FF_symbol cI cZ cL cB q q_draft q_table q_tally q_finder q_row q_draft_counts q_draft_symbols q_draft_seen k_draft_size g5)) rfl (fun H locs hP hD hS => ?_)
      refine lv_aload_n hx hb dFF_symbol_38 rfl (lv_at hl 0 rfl) ?_
      refine va_get (D := (dC, dI)) (ci := 5) (v := .ref q_draft) (C := RFF) (T := TFF) (N := 5) hx hb hts hi_FF hown hK hP 0 rfl rfl 0 (by decide) (hts _ tw_125) (fun _ h9 => h9) rfl dFF_symbol_39 ?_
      refine lv_dup hx hb dFF_symbol_42 rfl ?_
      refine va_get (D := (dC, dI)) (ci := 2) (v := .int k_draft_size) (C := RFD) (T := TFD) (N := 4) hx hb hts hi_FD hown hK hP 1 rfl rfl 2 (by decide) (hts _ tw_48) (fun _ h9 => h9) rfl dFF_symbol_43 ?_
      refine lv_iconst (v := 1) hx hb dFF_symbol_46 (by decide) ?_
      refine lv_iadd hx hb dFF_symbol_47 ?_
      refine va_put (D := (dC, dI)) (ci := 2) (v := .int (k_draft_size + 1)) (ty := .int) (C := RFD) (T := TFD) (N := 4) hx hb hts hi_FD tyFD tyFD_ok nmFD hown hK hP hD hS 1 rfl rfl 2 (by decide) (hts _ tw_48) (fun _ h9 => h9) rfl (by decide +kernel) rfl rfl (Nat.le_of_ble_eq_true rfl) dFF_symbol_48 (fun H locs hP hD hS => ?_)
      have hP : va_P (dC, dI) vwCl (w_FF_symbol cI cZ cL cB q q_draft q_table q_tally q_finder q_row q_draft_counts q_draft_symbols q_draft_seen (k_draft_size + 1) g5) H := hP
      have hD : va_D A (w_FF_symbol cI cZ cL cB q q_draft q_table q_tally q_finder q_row q_draft_counts q_draft_symbols q_draft_seen (k_draft_size + 1) g5) := hD
      refine lv_aload_n hx hb dFF_symbol_51 rfl (lv_at hl 0 rfl) ?_
      refine va_get (D := (dC, dI)) (ci := 5) (v := .ref q_draft) (C := RFF) (T := TFF) (N := 5) hx hb hts hi_FF hown hK hP 0 rfl rfl 0 (by decide) (hts _ tw_125) (fun _ h9 => h9) rfl dFF_symbol_52 ?_
      refine va_get (D := (dC, dI)) (ci := 2) (v := .int (k_draft_size + 1)) (C := RFD) (T := TFD) (N := 4) hx hb hts hi_FD hown hK hP 1 rfl rfl 2 (by decide) (hts _ tw_48) (fun _ h9 => h9) rfl dFF_symbol_55 ?_
      cases hf
      exact ax_iret hx hb hr hP hD hS dFF_symbol_58 hlocks
    · have hf := ifF hf c_4
      refine lv_iconst (v := (-1)) hx hb dFF_symbol_20 (by decide) ?_
      cases hf
      exact ax_iret hx hb hr hP hD hS dFF_symbol_21 hlocks
abbrev wsJA_fill : List Cond := Cond.code yJA_fill cJA_fill 4 none :: tt
set_option maxHeartbeats 4000000 in
set_option maxRecDepth 100000 in
theorem cc_JA_fill (l : Launch) (dC : Nat → ClassId) (dI : Nat → Nat → Nat) (cI cZ cL cB : ClassId) (q_p0 : Nat) (sz : Nat) (n_p0 : Nat) (k_p0 : Nat → Int32) (a_1 : Int32) (o_p0 : Nat → Int32) (hf : f_JA_fill n_p0 k_p0 a_1 = some o_p0) : Met l yJA_fill wsJA_fill ({ frames := 0, cells := 0, slots := 0, locals := 0 }) (va_Pc [.ref q_p0, .int a_1] (kz_P dC dI cI cZ cL cB sz (w_JA_fill cI cZ cL cB q_p0 n_p0 k_p0))) (va_Qv (fun (_ : Unit) => True) (fun _ t => va_P (dC, dI) vwCl (w_JA_fill cI cZ cL cB q_p0 n_p0 o_p0) t.heap ∧ va_D (va_A (w_JA_fill cI cZ cL cB q_p0 n_p0 k_p0) sz) (w_JA_fill cI cZ cL cB q_p0 n_p0 o_p0)) (va_A (w_JA_fill cI cZ cL cB q_p0 n_p0 k_p0) sz)) 0 0 (va_A (w_JA_fill cI cZ cL cB q_p0 n_p0 k_p0) sz) := by
  refine va_MetF (cc := cJA_fill) (maxL := 4) (ret := none) (by decide) rfl ?_
  intro p e s m args below meth c s₁ B hml hv
  obtain ⟨rfl, hsz, hP, hZ, hD0⟩ := hv
  have hK := hZ.1
  have hx := B.exec
  have hb := B.bytes
  have hr := B.returns
  have hts : ∀ w ∈ tt, w.before _ s = true := fun w h => atoms_spec (ws := wsJA_fill) B.pre w (List.mem_cons_of_mem _ h)
  have hown : s.vm.findClass RJA = some m.cls := findClass_of_methodNamed B.named
  have hlocks := B.notSynchronized
  subst hsz
  have hD := hD0.self (sz := s.heap.size)
  generalize hAe : va_A (w_JA_fill cI cZ cL cB q_p0 n_p0 k_p0) s.heap.size = A at hD ⊢
  have hA : ∀ q : Nat, s.heap.size ≤ q → A q := fun q h => by rw [← hAe]; exact Or.inr h
  have hS : va_S A s.heap s.heap [] := va_S.rf
  have hl := lv_entry [.ref q_p0, .int a_1] (n := 4) (Nat.le_of_ble_eq_true rfl)
  rw [lg_entry_eq]
  generalize (lg_sl [.ref q_p0, .int a_1] ++ List.replicate (4 - (lg_sl [.ref q_p0, .int a_1]).length) Slot.unset).toArray = ls at hl ⊢
  have hl : lv_has ls 4 [(0, .ref q_p0), (1, .int a_1)] := hl
  unfold f_JA_fill at hf
  refine lv_iconst (v := 0) hx hb dJA_fill_0 (by decide) ?_
  refine lv_istore_n (lv' := [(2, .int 0), (0, .ref q_p0), (1, .int a_1)]) hx hb dJA_fill_1 rfl hl (by decide) rfl (fun ls hl => ?_)
  refine lv_aload_n hx hb dJA_fill_2 rfl (lv_at hl 1 rfl) ?_
  refine va_alen (v := (Int32.ofNat n_p0)) hx hb hK hP 0 0 rfl rfl rfl dJA_fill_3 ?_
  refine lv_istore_n (lv' := [(3, .int (Int32.ofNat n_p0)), (2, .int 0), (0, .ref q_p0), (1, .int a_1)]) hx hb dJA_fill_4 rfl hl (by decide) rfl (fun ls hl => ?_)
  refine Lp2_W (P := fun (x3 : Int32) (x4 : Nat → Int32) => ∀ (H : Heap) (locs : List Loc) (ls : Array Slot), va_P (dC, dI) vwCl (w_JA_fill cI cZ cL cB q_p0 n_p0 x4) H → va_D A (w_JA_fill cI cZ cL cB q_p0 n_p0 x4) → va_S A s.heap H locs → lv_has ls 4 [(0, .ref q_p0), (1, .int a_1), (2, .int x3), (3, .int (Int32.ofNat n_p0))] → W p l e _ s m _ below meth c H locs 0 0 _ (F0 m 5 ls [])) ?_ _ _ _ hf _ _ _ hP hD hS (lv_sub hl [2, 3, 1, 0] rfl)
  clear hf hP hD hS hl
  intro ag1 ih2 x3 x4 hf H locs ls hP hD hS hl
  refine lv_iload_n hx hb dJA_fill_5 rfl (lv_at hl 2 rfl) ?_
  refine lv_iload_n hx hb dJA_fill_6 rfl (lv_at hl 3 rfl) ?_
  refine lv_icmp_ge (tgt := 20) hx hb dJA_fill_7 (by decide) (fun c_5 => ?_) (fun c_5 => ?_)
  · have hf := ifT hf c_5
    cases hf
    exact ax_vret hx hb hr hP hD hS dJA_fill_20 hlocks
  · have hf := ifF hf c_5
    refine lv_aload_n hx hb dJA_fill_10 rfl (lv_at hl 0 rfl) ?_
    refine lv_iload_n hx hb dJA_fill_11 rfl (lv_at hl 2 rfl) ?_
    refine lv_iload_n hx hb dJA_fill_12 rfl (lv_at hl 1 rfl) ?_
    obtain ⟨g6, eg6, h7, hf⟩ := wr_some hf
    refine ax_iast hx hb hK hP hD hS 0 0 rfl rfl h7 eg6 dJA_fill_13 (ws' := (w_JA_fill cI cZ cL cB q_p0 n_p0 g6)) rfl (fun H locs hP hD hS => ?_)
    refine lv_iinc (v := (x3 + 1)) (lv' := [(2, .int (x3 + 1)), (0, .ref q_p0), (1, .int a_1), (3, .int (Int32.ofNat n_p0))]) hx hb dJA_fill_14 hl (k := 2) rfl rfl (by decide) rfl (fun ls hl => ?_)
    refine lv_goto (tgt := 5) hx hb dJA_fill_17 (by decide) ?_
    exact ih2 (x3 + 1) g6 hf _ _ _ hP hD hS (lv_sub hl [1, 2, 0, 3] rfl)
abbrev wsFD_clear : List Cond := Cond.code yFD_clear cFD_clear 1 none :: tt
set_option maxHeartbeats 4000000 in
set_option maxRecDepth 100000 in
theorem cc_FD_clear (l : Launch) (dC : Nat → ClassId) (dI : Nat → Nat → Nat) (cI cZ cL cB : ClassId) (q q_counts q_symbols q_seen : Nat) (sz : Nat) (k_size : Int32) (k_counts : Nat → Int32) (o_size : Int32) (o_counts : Nat → Int32) (hf : f_FD_clear k_size k_counts = some (o_size, o_counts)) : Met l yFD_clear wsFD_clear ({ frames := 1, cells := 0, slots := 0, locals := 23 }) (va_Pc [.ref q] (kz_P dC dI cI cZ cL cB sz (w_FD_clear cI cZ cL cB q q_counts q_symbols q_seen k_size k_counts))) (va_Qv (fun (_ : Unit) => True) (fun _ t => va_P (dC, dI) vwCl (w_FD_clear cI cZ cL cB q q_counts q_symbols q_seen o_size o_counts) t.heap ∧ va_D (va_A (w_FD_clear cI cZ cL cB q q_counts q_symbols q_seen k_size k_counts) sz) (w_FD_clear cI cZ cL cB q q_counts q_symbols q_seen o_size o_counts)) (va_A (w_FD_clear cI cZ cL cB q q_counts q_symbols q_seen k_size k_counts) sz)) 0 0 (va_A (w_FD_clear cI cZ cL cB q q_counts q_symbols q_seen k_size k_counts) sz) := by
  refine Met.ofW (cc := cFD_clear) (maxL := 1) (ret := none) (by decide) rfl ?_
  intro p e s m args below meth c s₁ B hml hv
  obtain ⟨rfl, hsz, hP, hZ, hD0⟩ := hv
  have hK := hZ.1
  have hx := B.exec
  have hb := B.bytes
  have hr := B.returns
  have hts : ∀ w ∈ tt, w.before _ s = true := fun w h => atoms_spec (ws := wsFD_clear) B.pre w (List.mem_cons_of_mem _ h)
  have hown : s.vm.findClass RFD = some m.cls := findClass_of_methodNamed B.named
  have hlocks := B.notSynchronized
  subst hsz
  have hD := hD0.self (sz := s.heap.size)
  generalize hAe : va_A (w_FD_clear cI cZ cL cB q q_counts q_symbols q_seen k_size k_counts) s.heap.size = A at hD ⊢
  have hA : ∀ q : Nat, s.heap.size ≤ q → A q := fun q h => by rw [← hAe]; exact Or.inr h
  have hS : va_S A s.heap s.heap [] := va_S.rf
  have hl := lv_entry [.ref q] (n := 1) (Nat.le_of_ble_eq_true rfl)
  rw [lg_entry_eq]
  generalize (lg_sl [.ref q] ++ List.replicate (1 - (lg_sl [.ref q]).length) Slot.unset).toArray = ls at hl ⊢
  have hl : lv_has ls 1 [(0, .ref q)] := hl
  unfold f_FD_clear at hf
  refine lv_aload_n hx hb dFD_clear_0 rfl (lv_at hl 0 rfl) ?_
  refine va_get (D := (dC, dI)) (ci := 2) (v := .ref q_counts) (C := RFD) (T := TFD) (N := 4) hx hb hts hi_FD hown hK hP 0 rfl rfl 0 (by decide) (hts _ tw_43) (fun _ h9 => h9) rfl dFD_clear_1 ?_
  refine lv_iconst (v := 0) hx hb dFD_clear_4 (by decide) ?_
  obtain ⟨o1, h2, hf⟩ := bd1_some hf
  have hPc := hP.sub (ws' := (w_JA_fill cI cZ cL cB q_counts 17 k_counts)) [1] rfl
  have hDc := hD.sub (ws' := (w_JA_fill cI cZ cL cB q_counts 17 k_counts)) [1] (by decide) rfl
  refine ax_callv (wr := [(q, .inr (2, [.ref q_counts, .ref q_symbols, .int k_size, .ref q_seen]))]) (w2 := (w_FD_clear cI cZ cL cB q q_counts q_symbols q_seen k_size o1)) (va_runS (As := [.ref q_counts, .int 0]) (rest := []) ⟨hx, hb, hml, hown, hts⟩ (cc_JA_fill l dC dI cI cZ cL cB q_counts s.heap.size 17 k_counts 0 o1 h2) (va_cwS 2 hts (tt_S tw_157 tw_158 tw_28 tw_159) rfl rfl rfl (by decide +kernel) ⟨Nat.le_of_ble_eq_true rfl, Nat.le_of_ble_eq_true rfl⟩) ⟨kz_fb, kz_pre hPc hZ hDc⟩ rfl rfl hl.1 rfl (lv_room (Nat.le_of_ble_eq_true rfl)) dFD_clear_5 ⟨Nat.zero_le _, Nat.zero_le _⟩) hP hD hS hA [1] [0] [0, 1] rfl rfl (by decide) (by decide) rfl (by decide) (fun H locs hP hD hS => ?_)
  refine lv_aload_n hx hb dFD_clear_8 rfl (lv_at hl 0 rfl) ?_
  refine lv_iconst (v := 0) hx hb dFD_clear_9 (by decide) ?_
  refine va_put (D := (dC, dI)) (ci := 2) (v := .int 0) (ty := .int) (C := RFD) (T := TFD) (N := 4) hx hb hts hi_FD tyFD tyFD_ok nmFD hown hK hP hD hS 0 rfl rfl 2 (by decide) (hts _ tw_47) (fun _ h9 => h9) rfl (by decide +kernel) rfl rfl (Nat.le_of_ble_eq_true rfl) dFD_clear_10 (fun H locs hP hD hS => ?_)
  have hP : va_P (dC, dI) vwCl (w_FD_clear cI cZ cL cB q q_counts q_symbols q_seen 0 o1) H := hP
  have hD : va_D A (w_FD_clear cI cZ cL cB q q_counts q_symbols q_seen 0 o1) := hD
  cases hf
  exact ax_vret hx hb hr hP hD hS dFD_clear_13 hlocks
abbrev wsFF_wipe : List Cond := Cond.code yFF_wipe cFF_wipe 1 none :: tt
set_option maxHeartbeats 4000000 in
set_option maxRecDepth 100000 in
theorem cc_FF_wipe (l : Launch) (dC : Nat → ClassId) (dI : Nat → Nat → Nat) (cI cZ cL cB : ClassId) (q q_draft q_table q_tally q_finder q_row q_draft_counts q_draft_symbols q_draft_seen : Nat) (sz : Nat) (k_draft_size : Int32) (k_draft_counts : Nat → Int32) (o_draft_size : Int32) (o_draft_counts : Nat → Int32) (hf : f_FF_wipe k_draft_size k_draft_counts = some (o_draft_size, o_draft_counts)) : Met l yFF_wipe wsFF_wipe ({ frames := 2, cells := 0, slots := 0, locals := 43 }) (va_Pc [.ref q] (kz_P dC dI cI cZ cL cB sz (w_FF_wipe cI cZ cL cB q q_draft q_table q_tally q_finder q_row q_draft_counts q_draft_symbols q_draft_seen k_draft_size k_draft_counts))) (va_Qv (fun (_ : Unit) => True) (fun _ t => va_P (dC, dI) vwCl (w_FF_wipe cI cZ cL cB q q_draft q_table q_tally q_finder q_row q_draft_counts q_draft_symbols q_draft_seen o_draft_size o_draft_counts) t.heap ∧ va_D (va_A (w_FF_wipe cI cZ cL cB q q_draft q_table q_tally q_finder q_row q_draft_counts q_draft_symbols q_draft_seen k_draft_size k_draft_counts) sz) (w_FF_wipe cI cZ cL cB q q_draft q_table q_tally q_finder q_row q_draft_counts q_draft_symbols q_draft_seen o_draft_size o_draft_counts)) (va_A (w_FF_wipe cI cZ cL cB q q_draft q_table q_tally q_finder q_row q_draft_counts q_draft_symbols q_draft_seen k_draft_size k_draft_counts) sz)) 0 0 (va_A (w_FF_wipe cI cZ cL cB q q_draft q_table q_tally q_finder q_row q_draft_counts q_draft_symbols q_draft_seen k_draft_size k_draft_counts) sz) := by
  refine Met.ofW (cc := cFF_wipe) (maxL := 1) (ret := none) (by decide) rfl ?_
  intro p e s m args below meth c s₁ B hml hv
  obtain ⟨rfl, hsz, hP, hZ, hD0⟩ := hv
  have hK := hZ.1
  have hx := B.exec
  have hb := B.bytes
  have hr := B.returns
  have hts : ∀ w ∈ tt, w.before _ s = true := fun w h => atoms_spec (ws := wsFF_wipe) B.pre w (List.mem_cons_of_mem _ h)
  have hown : s.vm.findClass RFF = some m.cls := findClass_of_methodNamed B.named
  have hlocks := B.notSynchronized
  subst hsz
  have hD := hD0.self (sz := s.heap.size)
  generalize hAe : va_A (w_FF_wipe cI cZ cL cB q q_draft q_table q_tally q_finder q_row q_draft_counts q_draft_symbols q_draft_seen k_draft_size k_draft_counts) s.heap.size = A at hD ⊢
  have hA : ∀ q : Nat, s.heap.size ≤ q → A q := fun q h => by rw [← hAe]; exact Or.inr h
  have hS : va_S A s.heap s.heap [] := va_S.rf
  have hl := lv_entry [.ref q] (n := 1) (Nat.le_of_ble_eq_true rfl)
  rw [lg_entry_eq]
  generalize (lg_sl [.ref q] ++ List.replicate (1 - (lg_sl [.ref q]).length) Slot.unset).toArray = ls at hl ⊢
  have hl : lv_has ls 1 [(0, .ref q)] := hl
  unfold f_FF_wipe at hf
  refine lv_aload_n hx hb dFF_wipe_0 rfl (lv_at hl 0 rfl) ?_
  refine va_get (D := (dC, dI)) (ci := 5) (v := .ref q_draft) (C := RFF) (T := TFF) (N := 5) hx hb hts hi_FF hown hK hP 0 rfl rfl 0 (by decide) (hts _ tw_125) (fun _ h9 => h9) rfl dFF_wipe_1 ?_
  obtain ⟨o1, o2, h3, hf⟩ := bd2_some hf
  have hPc := hP.sub (ws' := (w_FD_clear cI cZ cL cB q_draft q_draft_counts q_draft_symbols q_draft_seen k_draft_size k_draft_counts)) [1, 2] rfl
  have hDc := hD.sub (ws' := (w_FD_clear cI cZ cL cB q_draft q_draft_counts q_draft_symbols q_draft_seen k_draft_size k_draft_counts)) [1, 2] (by decide) rfl
  refine ax_callv (wr := [(q, .inr (5, [.ref q_draft, .ref q_table, .ref q_tally, .ref q_finder, .ref q_row]))]) (w2 := (w_FF_wipe cI cZ cL cB q q_draft q_table q_tally q_finder q_row q_draft_counts q_draft_symbols q_draft_seen o1 o2)) (va_runV (As := []) (rest := []) ⟨hx, hb, hml, hown, hts⟩ (cc_FD_clear l dC dI cI cZ cL cB q_draft q_draft_counts q_draft_symbols q_draft_seen s.heap.size k_draft_size k_draft_counts o1 o2 h3) (cwV 0 hts (tt_V tw_153 tw_154 tw_155 tw_22 tw_156) rfl rfl rfl (by decide +kernel) ⟨Nat.le_of_ble_eq_true rfl, Nat.le_of_ble_eq_true rfl⟩) ⟨kz_fb, va_recv hK hPc (ci := 2) (q0 := 0) rfl rfl, kz_pre hPc hZ hDc⟩ rfl rfl hl.1 rfl (lv_room (Nat.le_of_ble_eq_true rfl)) dFF_wipe_4 ⟨Nat.zero_le _, Nat.zero_le _⟩) hP hD hS hA [1, 2] [0] [0, 1, 2] rfl rfl (by decide) (by decide) rfl (by decide) (fun H locs hP hD hS => ?_)
  cases hf
  exact ax_vret hx hb hr hP hD hS dFF_wipe_7 hlocks
