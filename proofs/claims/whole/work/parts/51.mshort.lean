theorem gl_s0 {M : Nat → Nat} {k : Nat} (h : M (k + 1) = 0) : gl M (k + 1) = gl M k := if_neg (by omega)
theorem gl_s1 {M : Nat → Nat} {k : Nat} (h : 0 < M (k + 1)) : gl M (k + 1) = k + 1 := if_pos h
theorem mshort_ok {T : Nat} {N B E : Nat → Nat} {km kb ko : Nat → Int32} (t d w o z p : Int32) (hT : T ≤ 257) (hN : ∀ s, s < 256 → ko s = nI (N s) ∧ N s < 2 ^ 31) (hB : Ar kb B 257) (hE : ∀ p, p < 257 → 0 < w0 N p → B p = E p ∧ 1 ≤ E p ∧ E p ≤ 256) (hE0 : ∀ p, p < 257 → w0 N p = 0 → E p = 0) (hG : Gd T 299 (mn E 257)) : Ok (fun r => Ar r (drp (shA 299 (mn E 257))) 300) (f_MM_shorten t d w o z p km kb ko) := by
  have hMb : ∀ {l : Nat} {M : Nat → Nat}, Gd T l M → ∀ k, k < 300 → M k ≤ 257 := by
    intro l M h k hk
    have := sm300 (M := M) hk
    have := h.2.2.2
    omega
  unfold f_MM_shorten
  apply Ok_Lp2 (fun u x3 x4 => ∃ j, j ≤ 300 ∧ u = 300 - j ∧ x3 = nI j ∧ ∀ i, i < j → x4 i = (0 : Int32)) 300 ⟨0, by omega, rfl, rfl, fun i hi => by omega⟩ (by omega)
  rintro u x3 x4 ⟨j, hj, rfl, rfl, hz⟩ again ih
  apply Ok_le 300 j
  · intro h
    have : j = 300 := by omega
    subst this
    apply Ok_Lp2 (fun u x8 x9 => ∃ j, j ≤ 257 ∧ u = 257 - j ∧ x8 = nI j ∧ Ar x9 (mn E j) 300) 257 ⟨0, by omega, rfl, rfl, fun i hi => by rw [hz i hi, mn_hi (fun p hp => by omega)]; rfl⟩ (by omega)
    rintro u x8 x9 ⟨j, hj, rfl, rfl, h9⟩ again1 ih1
    apply Ok_lt 256 j
    · intro h1
      have : j = 257 := by omega
      subst this
      apply Ok_Lp2 (fun u x13 x14 => ∃ l M, 16 ≤ l ∧ l ≤ 299 ∧ u = l ∧ x13 = nI l ∧ Ar x14 M 300 ∧ Gd T l M ∧ shA l M = shA 299 (mn E 257)) 299 ⟨299, _, by omega, by omega, rfl, rfl, h9, hG, rfl⟩ (by omega)
      rintro l x13 x14 ⟨_, M, hl0, hl, rfl, rfl, h14, hGd, hF⟩ again2 ih2
      apply Ok_le l 16
      · intro c
        have : l = 16 := by omega
        subst this
        rw [shA_low (by omega)] at hF
        rw [← hF]
        have g1 := Gd_gl hGd
        apply Ok_Lp1 (fun u x18 => ∃ k, k ≤ 16 ∧ u = k ∧ x18 = nI k ∧ gl M 16 = gl M k) 16 ⟨16, by omega, rfl, rfl, rfl⟩ (by omega)
        rintro k x18 ⟨_, hk, rfl, rfl, hg⟩ again3 ih3
        have k1 : 1 ≤ k := by
          apply Classical.byContradiction
          intro q
          have : k = 0 := by omega
          subst this
          have : gl M 0 = 0 := rfl
          omega
        obtain ⟨k', rfl⟩ : ∃ k', k = k' + 1 := ⟨k - 1, by omega⟩
        have mb := hMb hGd (k' + 1) (by omega)
        apply Ok_rd (k' + 1)
        rw [h14 _ (by omega)]
        apply Ok_eqI (M (k' + 1)) 0
        · intro c2
          exact ih3 k' _ (by omega) ⟨k', by omega, rfl, pk_m1 _, by rw [hg, gl_s0 c2]⟩
        · intro c2
          apply Ok_rd (k' + 1)
          apply Ok_wr (k' + 1)
          rw [h14 _ (by omega), show nI (M (k' + 1)) - 1 = nI (M (k' + 1) - 1) from pk_sub (b := 1) (by omega)]
          have e : gl M 16 = k' + 1 := by rw [hg]; exact gl_s1 (by omega)
          unfold drp
          rw [e]
          exact Ok_ret (Ar_up h14)
      · intro c
        obtain ⟨l', rfl⟩ : ∃ l', l = l' + 1 := ⟨l - 1, by omega⟩
        rw [shA_hi (by omega)] at hF
        have hMl := hMb hGd (l' + 1) (by omega)
        apply Ok_Lp1 (fun u x28 => ∃ f M, u = M (l' + 1) ∧ Ar x28 M 300 ∧ Gd T (l' + 1) M ∧ M (l' + 1) ≤ f ∧ shA l' (lev f (l' + 1) M) = shA 299 (mn E 257)) (M (l' + 1)) ⟨300, M, rfl, h14, hGd, by omega, hF⟩ (by omega)
        rintro u x28 ⟨f, M, rfl, h28, hGd, hf, hF⟩ again3 ih3
        have hMl := hMb hGd (l' + 1) (by omega)
        apply Ok_rd (l' + 1)
        rw [h28 _ (by omega)]
        apply Ok_le (M (l' + 1)) 0
        · intro c3
          rw [lev_0 (by omega)] at hF
          exact ih2 l' _ _ (by omega) ⟨l', M, by omega, by omega, rfl, pk_m1 _, h28, Gd_down hGd (by omega), hF⟩
        · intro c3
          obtain ⟨j1, j2, j3, j4, j5, j6⟩ := stp_good hT hGd (by omega) (by omega) c3
          have e2 : nI (l' + 1) - 2 = nI (l' + 1 - 2) := pk_sub (b := 2) (by omega)
          have e1 : nI (l' + 1) - 1 = nI (l' + 1 - 1) := pk_sub (b := 1) (by omega)
          rw [e2, e1]
          apply Ok_Lp1 (fun u x34 => ∃ k, k ≤ l' + 1 - 2 ∧ u = k ∧ x34 = nI k ∧ gl M (l' + 1 - 2) = gl M k) (l' + 1 - 2) ⟨l' + 1 - 2, by omega, rfl, rfl, rfl⟩ (by omega)
          rintro k x34 ⟨_, hk, rfl, rfl, hg⟩ again4 ih4
          have k1 : 1 ≤ k := by
            apply Classical.byContradiction
            intro q
            have : k = 0 := by omega
            subst this
            have : gl M 0 = 0 := rfl
            omega
          obtain ⟨k', rfl⟩ : ∃ k', k = k' + 1 := ⟨k - 1, by omega⟩
          have mb := hMb hGd (k' + 1) (by omega)
          apply Ok_rd (k' + 1)
          rw [h28 _ (by omega)]
          apply Ok_eqI (M (k' + 1)) 0
          · intro c4
            exact ih4 k' _ (by omega) ⟨k', by omega, rfl, pk_m1 _, by rw [hg, gl_s0 c4]⟩
          · intro c4
            have ej : gl M (l' + 1 - 2) = k' + 1 := by rw [hg]; exact gl_s1 (by omega)
            obtain ⟨f', rfl⟩ : ∃ f', f = f' + 1 := ⟨f - 1, by omega⟩
            have hlev : lev (f' + 1) (l' + 1) M = lev f' (l' + 1) (stp (l' + 1) (gl M (l' + 1 - 2)) M) := if_neg (by omega)
            rw [hlev] at hF
            rw [ej] at j1 j2 j3 j5 j6 hF
            generalize hst : stp (l' + 1) (k' + 1) M = M' at *
            generalize k' + 1 = j at *
            have ej1 : nI j + 1 = nI (j + 1) := nI_1 _
            rw [ej1]
            apply Ok_rd (l' + 1)
            apply Ok_wr (l' + 1)
            apply Ok_rd (l' + 1 - 1)
            apply Ok_wr (l' + 1 - 1)
            apply Ok_rd (j + 1)
            apply Ok_wr (j + 1)
            apply Ok_rd j
            apply Ok_wr j
            refine ih3 (M' (l' + 1)) _ (by omega) ⟨f', M', rfl, ?_, j5, by omega, hF⟩
            rw [h28 (l' + 1) (by omega), show nI (M (l' + 1)) - 2 = nI (M (l' + 1) - 2) from pk_sub (b := 2) j4]
            have A1 : Ar (upd x28 (l' + 1) (nI (M (l' + 1) - 2))) (up M (l' + 1) (M (l' + 1) - 2)) 300 := Ar_up h28
            rw [A1 (l' + 1 - 1) (by omega), nI_1]
            have A2 := Ar_up (j := l' + 1 - 1) (v := up M (l' + 1) (M (l' + 1) - 2) (l' + 1 - 1) + 1) A1
            rw [A2 (j + 1) (by omega), show ∀ t, nI t + 2 = nI (t + 2) from fun t => nI_add t 2]
            have A3 := Ar_up (j := j + 1) (v := up (up M (l' + 1) (M (l' + 1) - 2)) (l' + 1 - 1) (up M (l' + 1) (M (l' + 1) - 2) (l' + 1 - 1) + 1) (j + 1) + 2) A2
            rw [A3 j (by omega)]
            have p3 : 1 ≤ up (up (up M (l' + 1) (M (l' + 1) - 2)) (l' + 1 - 1) (up M (l' + 1) (M (l' + 1) - 2) (l' + 1 - 1) + 1)) (j + 1) (up (up M (l' + 1) (M (l' + 1) - 2)) (l' + 1 - 1) (up M (l' + 1) (M (l' + 1) - 2) (l' + 1 - 1) + 1) (j + 1) + 2) j := by
              rw [up_n (by omega), up_n (by omega), up_n (by omega)]; exact j3
            rw [show ∀ t, 1 ≤ t → nI t - 1 = nI (t - 1) from fun t ht => pk_sub (b := 1) ht, ← hst]
            · exact Ar_up A3
            · exact p3
    · intro h1
      have hit : 0 < w0 N j → Ok (fun r => Ar r (drp (shA 299 (mn E 257))) 300) (rd 257 kb (nI j) (fun v55 => rd 300 x9 v55 (fun v57 => wr 300 x9 v55 (v57 + 1) (fun g59 => again1 (nI j + 1) g59)))) := by
        intro hw
        obtain ⟨b1, b2, b3⟩ := hE j (by omega) hw
        apply Ok_rd j
        rw [hB j (by omega), b1]
        apply Ok_rd (E j)
        apply Ok_wr (E j)
        rw [h9 _ (by omega), nI_1 (mn E j (E j))]
        exact ih1 (257 - (j + 1)) _ _ (by omega) ⟨j + 1, by omega, rfl, nI_1 _, Ar_ext (Ar_up h9) (fun l _ => (mn_s1 (by omega) l).symm)⟩
      apply Ok_eqI j 256
      · intro c
        exact hit (by unfold w0; rw [if_pos c]; omega)
      · intro c
        have e1 : w0 N j = N j := by unfold w0; rw [if_neg c]
        have hn := hN j (by omega)
        apply Ok_rd j
        rw [hn.1]
        apply Ok_le (N j) 0 (ha := hn.2)
        · intro c2
          exact ih1 (257 - (j + 1)) _ _ (by omega) ⟨j + 1, by omega, rfl, nI_1 _, Ar_ext h9 (fun l _ => (mn_s0 (hE0 j (by omega) (by omega)) l).symm)⟩
        · intro c2
          exact hit (by omega)
  · intro h
    apply Ok_wr j
    refine ih (300 - (j + 1)) _ _ (by omega) ⟨j + 1, by omega, rfl, nI_1 _, ?_⟩
    intro i hi
    by_cases e : i = j
    · subst e; rw [pk_us]
    · rw [pk_un e]; exact hz i (by omega)
/-! the order of the symbols -/
def oc (E : Nat → Nat) (n c0 : Nat) : Nat → Nat
  | 0 => c0
  | s + 1 => if E s = n then oc E n c0 s + 1 else oc E n c0 s
def oO (E : Nat → Nat) (n c0 : Nat) : Nat → (Nat → Nat) → Nat → Nat
  | 0, O => O
  | s + 1, O => if E s = n then up (oO E n c0 s O) (oc E n c0 s) s else oO E n c0 s O
def aC (E : Nat → Nat) : Nat → Nat
  | 0 => 0
  | n + 1 => oc E (n + 1) (aC E n) 256
def aO (E : Nat → Nat) : Nat → Nat → Nat
  | 0 => fun _ => 0
  | n + 1 => oO E (n + 1) (aC E n) 256 (aO E n)
theorem oc_cn (E : Nat → Nat) (n c0 : Nat) : ∀ s, oc E n c0 s = c0 + cn E n s := by
  intro s
  induction s with
  | zero => rfl
  | succ s ih =>
    show (if E s = n then oc E n c0 s + 1 else oc E n c0 s) = c0 + (cn E n s + (if E s = n then 1 else 0))
    by_cases c : E s = n
    · rw [if_pos c, if_pos c, ih]; omega
    · rw [if_neg c, if_neg c, ih]; omega
theorem aC_ps (E : Nat → Nat) : ∀ n, aC E n = ps (mn E 256) n := by
  intro n
  induction n with
  | zero => rfl
  | succ n ih =>
    show oc E (n + 1) (aC E n) 256 = ps (mn E 256) n + mn E 256 (n + 1)
    rw [oc_cn, ih]
    unfold mn
    rw [if_neg (by omega)]
theorem aC_le (E : Nat → Nat) (hE : ∀ p, p < 256 → E p < 300) : ∀ n, n ≤ 299 → aC E n ≤ kd E 256 := by
  intro n hn
  rw [aC_ps, ← mn_sm (m := 300) 256 hE]
  have a := ps_mono (mn E 256) 299 hn
  have b : sm (mn E 256) 300 = mn E 256 0 + ps (mn E 256) 299 := sm_ps _ 299
  omega
theorem aC_end (E : Nat → Nat) (hE : ∀ p, p < 256 → E p < 300) : aC E 299 = kd E 256 := by
  rw [aC_ps, ← mn_sm (m := 300) 256 hE]
  have b : sm (mn E 256) 300 = mn E 256 0 + ps (mn E 256) 299 := sm_ps _ 299
  have c : mn E 256 0 = 0 := if_pos rfl
  omega
theorem oc_mono (E : Nat → Nat) (n c0 : Nat) {s : Nat} : ∀ t, s ≤ t → oc E n c0 s ≤ oc E n c0 t := by
  intro t h
  rw [oc_cn, oc_cn]
  have := sm_mono (f := fun p => if E p = n then 1 else 0) t h
  unfold cn
  omega
theorem oc_skip {E : Nat → Nat} {n c0 : Nat} : ∀ s, (∀ p, p < s → E p ≠ n) → oc E n c0 s = c0 := by
  intro s
  induction s with
  | zero => intro _; rfl
  | succ s ih =>
    intro h
    show (if E s = n then oc E n c0 s + 1 else oc E n c0 s) = c0
    rw [if_neg (h s (by omega))]; exact ih (fun p hp => h p (by omega))
theorem oO_skip {E : Nat → Nat} {n c0 : Nat} {O : Nat → Nat} : ∀ s, (∀ p, p < s → E p ≠ n) → oO E n c0 s O = O := by
  intro s
  induction s with
  | zero => intro _; rfl
  | succ s ih =>
    intro h
    show (if E s = n then up (oO E n c0 s O) (oc E n c0 s) s else oO E n c0 s O) = O
    rw [if_neg (h s (by omega))]; exact ih (fun p hp => h p (by omega))
theorem ao_skip {E : Nat → Nat} {g : Nat} (h : ∀ p, p < 256 → E p ≤ g) : ∀ n, g ≤ n → aC E n = aC E g ∧ aO E n = aO E g := by
  intro n
  induction n with
  | zero => intro hg; have : g = 0 := by omega
            subst this; exact ⟨rfl, rfl⟩
  | succ n ih =>
    intro hg
    by_cases e : g = n + 1
    · subst e; exact ⟨rfl, rfl⟩
    · obtain ⟨a, b⟩ := ih (by omega)
      have hs : ∀ p, p < 256 → E p ≠ n + 1 := fun p hp => by have := h p hp; omega
      refine ⟨?_, ?_⟩
      · show oc E (n + 1) (aC E n) 256 = _
        rw [oc_skip 256 hs, a]
      · show oO E (n + 1) (aC E n) 256 (aO E n) = _
        rw [oO_skip 256 hs, b]
def OI (E : Nat → Nat) (n s c : Nat) (O : Nat → Nat) : Prop := (∀ i, i < c → O i < 256 ∧ 1 ≤ E (O i) ∧ (E (O i) < n ∨ (E (O i) = n ∧ O i < s))) ∧ ∀ i j, j < i → i < c → O j ≠ O i
theorem OI_s {E : Nat → Nat} {n c0 : Nat} (hn : 1 ≤ n) {O : Nat → Nat} (h : OI E n 0 c0 O) : ∀ s, s ≤ 256 → OI E n s (oc E n c0 s) (oO E n c0 s O) := by
  intro s
  induction s with
  | zero => intro _; exact h
  | succ s ih =>
    intro hs
    obtain ⟨q1, q2⟩ := ih (by omega)
    have e1 : oc E n c0 (s + 1) = if E s = n then oc E n c0 s + 1 else oc E n c0 s := rfl
    have e2 : oO E n c0 (s + 1) O = if E s = n then up (oO E n c0 s O) (oc E n c0 s) s else oO E n c0 s O := rfl
    by_cases c : E s = n
    · rw [e1, e2, if_pos c, if_pos c]
      refine ⟨?_, ?_⟩
      · intro i hi
        by_cases e : i = oc E n c0 s
        · rw [e, up_s]; exact ⟨by omega, by omega, Or.inr ⟨c, by omega⟩⟩
        · rw [up_n e]
          have := q1 i (by omega)
          exact ⟨this.1, this.2.1, by omega⟩
      · intro i j hj hi
        rw [up_n (show j ≠ oc E n c0 s by omega)]
        by_cases e : i = oc E n c0 s
        · rw [e, up_s]
          have := q1 j (by omega)
          intro z
          rw [z] at this
          omega
        · rw [up_n e]; exact q2 i j hj (by omega)
    · rw [e1, e2, if_neg c, if_neg c]
      refine ⟨?_, q2⟩
      intro i hi
      have := q1 i hi
      exact ⟨this.1, this.2.1, by omega⟩
theorem OI_all (E : Nat → Nat) : ∀ n, OI E (n + 1) 0 (aC E n) (aO E n) := by
  intro n
  induction n with
  | zero => exact ⟨fun i hi => absurd hi (Nat.not_lt_zero _), fun i j _ hi => absurd hi (Nat.not_lt_zero _)⟩
  | succ n ih =>
    obtain ⟨q1, q2⟩ := OI_s (by omega) ih 256 (Nat.le_refl _)
    refine ⟨?_, q2⟩
    intro i hi
    have this : aO E (n + 1) i < 256 ∧ 1 ≤ E (aO E (n + 1) i) ∧ (E (aO E (n + 1) i) < n + 1 ∨ (E (aO E (n + 1) i) = n + 1 ∧ aO E (n + 1) i < 256)) := q1 i hi
    exact ⟨this.1, this.2.1, by omega⟩
theorem corder_ok {E M : Nat → Nat} {kc kdp ks : Nat → Int32} (a b : Int32) (hc : Ar kc M 257) (hM : ∀ l, l ≤ 256 → M l < 2 ^ 31) (hE : ∀ p, p < 256 → kdp p = nI (E p) ∧ E p ≤ 256) : Ok (fun r => ∀ i, i < aC E (gl M 256) → r i = nI (aO E (gl M 256) i)) (f_FB_orderSymbols a b kc kdp ks) := by
  have kle := kd_le E 256
  have cle := aC_le E (fun p hp => by have := (hE p hp).2; omega)
  unfold f_FB_orderSymbols
  apply Ok_bd1 _ (gl_ok (n := 257) (f := 256) (c := kc) (C := M) (by omega) (by omega) (fun l h1 h2 => ⟨hc l (by omega), hM l h2⟩))
  rintro r1 rfl
  have g256 := gl_le M 256
  generalize gl M 256 = g at *
  apply Ok_Lp3 (fun u x5 x6 (x7 : Nat → Int32) => ∃ n, n ≤ g ∧ u = g - n ∧ x5 = nI (aC E n) ∧ x6 = nI (n + 1) ∧ ∀ i, i < aC E n → x7 i = nI (aO E n i)) g ⟨0, by omega, rfl, rfl, rfl, fun i hi => absurd hi (Nat.not_lt_zero _)⟩ (by omega)
  rintro u x5 x6 x7 ⟨n, hn, rfl, rfl, rfl, h7⟩ again ih
  apply Ok_lt g (n + 1)
  · intro c
    have : n = g := by omega
    subst this
    exact Ok_ret h7
  · intro c
    have cn1 := cle (n + 1) (by omega)
    have eC : aC E (n + 1) = oc E (n + 1) (aC E n) 256 := rfl
    apply Ok_Lp3 (fun u x11 x12 (x13 : Nat → Int32) => ∃ s, s ≤ 256 ∧ u = 256 - s ∧ x11 = nI (oc E (n + 1) (aC E n) s) ∧ x12 = nI s ∧ ∀ i, i < oc E (n + 1) (aC E n) s → x13 i = nI (oO E (n + 1) (aC E n) s (aO E n) i)) 256 ⟨0, by omega, rfl, rfl, rfl, h7⟩ (by omega)
    rintro u x11 x12 x13 ⟨s, hs, rfl, rfl, rfl, h13⟩ again2 ih2
    apply Ok_le 256 s
    · intro c2
      have : s = 256 := by omega
      subst this
      exact ih (g - (n + 1)) _ _ _ (by omega) ⟨n + 1, by omega, rfl, rfl, nI_1 _, h13⟩
    · intro c2
      have he := hE s c2
      have e1 : oc E (n + 1) (aC E n) (s + 1) = if E s = n + 1 then oc E (n + 1) (aC E n) s + 1 else oc E (n + 1) (aC E n) s := rfl
      have e2 : oO E (n + 1) (aC E n) (s + 1) (aO E n) = if E s = n + 1 then up (oO E (n + 1) (aC E n) s (aO E n)) (oc E (n + 1) (aC E n) s) s else oO E (n + 1) (aC E n) s (aO E n) := rfl
      have mo := oc_mono E (n + 1) (aC E n) (s := s + 1) 256 (by omega)
      apply Ok_rd s
      rw [he.1]
      apply Ok_eqI (E s) (n + 1)
      · intro c3
        rw [if_pos c3] at e1 e2
        apply Ok_wr (oc E (n + 1) (aC E n) s)
        refine ih2 (256 - (s + 1)) _ _ _ (by omega) ⟨s + 1, by omega, rfl, by rw [e1]; exact nI_1 _, nI_1 _, ?_⟩
        rw [e1, e2]
        intro i hi
        by_cases e : i = oc E (n + 1) (aC E n) s
        · rw [e, pk_us, up_s]
        · rw [pk_un e, up_n e]; exact h13 i (by omega)
      · intro c3
        rw [if_neg c3] at e1 e2
        exact ih2 (256 - (s + 1)) _ _ _ (by omega) ⟨s + 1, by omega, rfl, by rw [e1], nI_1 _, by rw [e1, e2]; exact h13⟩
