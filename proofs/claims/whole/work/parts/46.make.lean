theorem ps_bd {C : Nat → Nat} : ∀ l, l ≤ 16 → (∀ m, 1 ≤ m → m ≤ 16 → C m ≤ 255) → ps C l ≤ 255 * l := by
  intro l
  induction l with
  | zero => intro _ _; exact Nat.le_refl _
  | succ l ih =>
    intro hl h
    have a := ih (by omega) h
    have b := h (l + 1) (by omega) hl
    show ps C l + C (l + 1) ≤ 255 * (l + 1)
    omega
theorem sumc_ok {C : Nat → Nat} {dc : Nat → Int32} (ds : Int32) (hC : ∀ l, 1 ≤ l → l ≤ 16 → dc l = nI (C l)) : Ok (fun r => r = nI (ps C 16)) (f_FD_sumOfCounts ds dc) := by
  unfold f_FD_sumOfCounts
  apply Ok_Lp2 (fun u x3 x4 => ∃ l, l ≤ 16 ∧ u = 16 - l ∧ x3 = nI (ps C l) ∧ x4 = nI (l + 1)) 16 ⟨0, by omega, rfl, rfl, rfl⟩ (by omega)
  rintro u x3 x4 ⟨l, hl, rfl, rfl, rfl⟩ again ih
  apply Ok_lt 16 (l + 1)
  · intro h
    have : l = 16 := by omega
    subst this
    exact Ok_ret rfl
  · intro h
    apply Ok_rd (l + 1)
    rw [hC (l + 1) (by omega) (by omega)]
    exact ih (16 - (l + 1)) _ _ (by omega) ⟨l + 1, by omega, rfl, nI_add _ _, nI_1 _⟩
theorem nb0 : vp_nar .boolean 0 = 0 := by decide
theorem nb1 : vp_nar .boolean 1 = 1 := by decide
def dupS (S : Nat → Nat) (n : Nat) : Prop := ∃ i j, j < i ∧ i < n ∧ S i = S j
theorem twice_ok {S : Nat → Nat} {n : Nat} {dy se : Nat → Int32} (hn : n ≤ 256) (hS : ∀ i, i < n → dy i = nI (S i) ∧ S i < 256) : Ok (fun r => (r.1 = 1 ∧ dupS S n) ∨ (r.1 = 0 ∧ ¬ dupS S n)) (f_FD_hasSymbolTwice (nI n) dy se) := by
  unfold f_FD_hasSymbolTwice
  apply Ok_Lp2 (fun u x3 x4 => ∃ j, j ≤ 256 ∧ u = 256 - j ∧ x3 = nI j ∧ ∀ i, i < j → x4 i = 0) 256 ⟨0, by omega, rfl, rfl, fun i hi => by omega⟩ (by omega)
  rintro u x3 x4 ⟨j, hj, rfl, rfl, hz⟩ again ih
  apply Ok_le 256 j
  · intro h
    have : j = 256 := by omega
    subst this
    apply Ok_Lp2 (fun u x8 x9 => ∃ i, i ≤ n ∧ u = n - i ∧ x8 = nI i ∧ ¬ dupS S i ∧ (∀ s, s < 256 → (∀ j, j < i → S j ≠ s) → x9 s = 0) ∧ (∀ j, j < i → x9 (S j) = 1)) n ⟨0, by omega, rfl, rfl, fun q => by obtain ⟨i, j, q1, q2, q3⟩ := q; omega, fun s hs _ => hz s hs, fun j hj => by omega⟩ (by omega)
    rintro u x8 x9 ⟨i, hi, rfl, rfl, hd, hA, hB⟩ again1 ih1
    apply Ok_le n i
    · intro h1
      have : i = n := by omega
      subst this
      exact Ok_ret (Or.inr ⟨rfl, hd⟩)
    · intro h1
      have hs := hS i h1
      apply Ok_rd i
      rw [hs.1]
      apply Ok_rd (S i) (hj := hs.2)
      apply Ok_if
      · intro c
        have hnew : ∀ j, j < i → S j ≠ S i := by
          intro j hj e
          have q := hB j hj
          rw [e, c] at q
          exact absurd q (by decide)
        apply Ok_rd i
        rw [hs.1, nb1]
        apply Ok_wr (S i) (hj := hs.2)
        refine ih1 (n - (i + 1)) _ _ (by omega) ⟨i + 1, by omega, rfl, nI_1 _, ?_, ?_, ?_⟩
        · rintro ⟨a, b, q1, q2, q3⟩
          by_cases e : a = i
          · subst e; exact hnew b q1 q3.symm
          · exact hd ⟨a, b, q1, by omega, q3⟩
        · intro s hs2 hq
          have e : s ≠ S i := fun z => hq i (by omega) z.symm
          rw [pk_un e]
          exact hA s hs2 (fun j hj => hq j (by omega))
        · intro j hj
          by_cases e : j = i
          · subst e; rw [pk_us]
          · rw [pk_un (hnew j (by omega))]; exact hB j (by omega)
      · intro c
        refine Ok_ret (Or.inl ⟨rfl, ?_⟩)
        by_cases q : ∀ j, j < i → S j ≠ S i
        · exact absurd (hA (S i) hs.2 q) c
        · have ⟨j, hj⟩ := Classical.not_forall.1 q
          have ⟨h2, h3⟩ := Classical.not_imp.1 hj
          exact ⟨i, j, h2, h1, (Classical.not_not.1 h3).symm⟩
  · intro h
    rw [nb0]
    apply Ok_wr j
    refine ih (256 - (j + 1)) _ _ (by omega) ⟨j + 1, by omega, rfl, nI_1 _, ?_⟩
    intro i hi
    by_cases e : i = j
    · subst e; rw [pk_us]
    · rw [pk_un e]; exact hz i (by omega)
theorem one_shl : ∀ n, n < 31 → (1 : Int32) <<< (nI n &&& 31) = nI (2 ^ n) := by decide +kernel
theorem pow_le16 {l : Nat} (h : l ≤ 16) : 2 ^ l ≤ 65536 := by
  have : (2 : Nat) ^ 16 = 65536 := by decide
  rw [← this]
  exact Nat.pow_le_pow_right (by omega) h
theorem kr_0 {C : Nat → Nat} {m : Nat} (hm : m ≤ 0) : kr C m < 2 ^ m := by
  have : m = 0 := by omega
  subst this
  exact Nat.one_pos
theorem great_ok {C : Nat → Nat} {dc : Nat → Int32} (ds : Int32) (hC : ∀ l, 1 ≤ l → l ≤ 16 → dc l = nI (C l) ∧ C l ≤ 255) : Ok (fun r => (r = 0 ∧ ∀ l, l ≤ 16 → kr C l < 2 ^ l) ∨ (r = 1 ∧ ∃ l, l ≤ 16 ∧ 2 ^ l ≤ kr C l)) (f_FD_hasWordTooGreat ds dc) := by
  unfold f_FD_hasWordTooGreat
  apply Ok_Lp2 (fun u x3 x4 => ∃ l, l ≤ 16 ∧ u = 16 - l ∧ x3 = nI (kr C l) ∧ x4 = nI (l + 1) ∧ ∀ m, m ≤ l → kr C m < 2 ^ m) 16 ⟨0, by omega, rfl, rfl, rfl, fun m hm => kr_0 hm⟩ (by omega)
  rintro u x3 x4 ⟨l, hl, rfl, rfl, rfl, hk⟩ again ih
  apply Ok_lt 16 (l + 1)
  · intro h
    have : l = 16 := by omega
    subst this
    exact Ok_ret (Or.inl ⟨rfl, hk⟩)
  · intro h
    have hc := hC (l + 1) (by omega) (by omega)
    have a1 := pow_le16 (l := l) (by omega)
    have a2 := hk l (by omega)
    have a3 := pow_le16 (l := l + 1) (by omega)
    apply Ok_rd (l + 1)
    have e : (2 : Int32) * nI (kr C l) + nI (C (l + 1)) = nI (kr C (l + 1)) := by
      show nI 2 * nI (kr C l) + nI (C (l + 1)) = _
      rw [pk_mul, nI_add]; rfl
    have e' : kr C (l + 1) = 2 * kr C l + C (l + 1) := rfl
    rw [hc.1, e, one_shl _ (by omega)]
    apply Ok_lt (kr C (l + 1)) (2 ^ (l + 1))
    · intro c
      refine ih (16 - (l + 1)) _ _ (by omega) ⟨l + 1, by omega, rfl, rfl, nI_1 _, ?_⟩
      intro m hm
      by_cases q : m = l + 1
      · subst q; exact c
      · exact hk m (by omega)
    · intro c
      exact Ok_ret (Or.inr ⟨rfl, l + 1, by omega, c⟩)
/-- what is wrong with a draft -/
def WR (C S : Nat → Nat) (n : Nat) (r : Int32) : Prop := (ps C 16 ≠ n ∧ r = -1) ∨ (ps C 16 = n ∧ dupS S n ∧ r = -2) ∨ (ps C 16 = n ∧ ¬ dupS S n ∧ (∃ l, l ≤ 16 ∧ 2 ^ l ≤ kr C l) ∧ r = -3) ∨ (ps C 16 = n ∧ ¬ dupS S n ∧ (∀ l, l ≤ 16 → kr C l < 2 ^ l) ∧ r = 0)
theorem WR_uniq {C S : Nat → Nat} {n : Nat} {r q : Int32} (h1 : WR C S n r) (h2 : WR C S n q) : r = q := by
  have hx : (∃ l, l ≤ 16 ∧ 2 ^ l ≤ kr C l) → (∀ l, l ≤ 16 → kr C l < 2 ^ l) → False := by
    rintro ⟨l, a, b⟩ h
    have := h l a
    omega
  rcases h1 with ⟨a1, rfl⟩ | ⟨a1, a2, rfl⟩ | ⟨a1, a2, a3, rfl⟩ | ⟨a1, a2, a3, rfl⟩ <;> rcases h2 with ⟨b1, rfl⟩ | ⟨b1, b2, rfl⟩ | ⟨b1, b2, b3, rfl⟩ | ⟨b1, b2, b3, rfl⟩ <;> first | rfl | exact absurd a1 b1 | exact absurd b1 a1 | exact absurd a2 b2 | exact absurd b2 a2 | exact (hx a3 b3).elim | exact (hx b3 a3).elim
theorem fault_ok {C S : Nat → Nat} {n : Nat} {dc dy se : Nat → Int32} (hn : n ≤ 256) (hC : ∀ l, 1 ≤ l → l ≤ 16 → dc l = nI (C l) ∧ C l ≤ 255) (hS : ∀ i, i < n → dy i = nI (S i) ∧ S i < 256) : Ok (fun r => WR C S n r.1) (f_FD_fault (nI n) dc dy se) := by
  unfold f_FD_fault
  apply Ok_bd1 _ (sumc_ok (nI n) (fun l h1 h2 => (hC l h1 h2).1))
  rintro r rfl
  have hb := ps_bd (C := C) 16 (by omega) (fun m h1 h2 => (hC m h1 h2).2)
  apply Ok_eqI (ps C 16) n
  · intro h1
    apply Ok_bd2 _ (twice_ok hn hS)
    rintro r o hr
    rcases hr with ⟨rfl, hr⟩ | ⟨rfl, hr⟩
    · apply Ok_ifF ne10
      exact Ok_ret (Or.inr (Or.inl ⟨h1, hr, rfl⟩))
    · apply Ok_ifT rfl
      apply Ok_bd1 _ (great_ok (nI n) hC)
      rintro r hq
      rcases hq with ⟨rfl, hq⟩ | ⟨rfl, hq⟩
      · apply Ok_ifT rfl
        exact Ok_ret (Or.inr (Or.inr (Or.inr ⟨h1, hr, hq, rfl⟩)))
      · apply Ok_ifF ne10
        exact Ok_ret (Or.inr (Or.inr (Or.inl ⟨h1, hr, hq, rfl⟩)))
  · intro h1
    exact Ok_ret (Or.inl ⟨h1, rfl⟩)
theorem one_shlL : ∀ n, n < 17 → ((1 : Int64) <<< ((nI n).toInt64 &&& 63)) - 1 = lN (2 ^ n - 1) := by decide +kernel
theorem wrong_ok {C S : Nat → Nat} {n : Nat} {md my : Nat → Int32} (t w o z p : Int32) (hn : n ≤ 256) (hC : ∀ l, 1 ≤ l → l ≤ 16 → md l = nI (C l) ∧ C l ≤ 255) (hS : ∀ i, i < n → my i = nI (S i) ∧ S i < 256) : Ok (fun r => WR C S n r) (f_MM_wrong t (nI n) w o z p md my) := by
  have hb := ps_bd (C := C) 16 (by omega) (fun m h1 h2 => (hC m h1 h2).2)
  unfold f_MM_wrong
  apply Ok_Lp2 (fun u x3 x4 => ∃ l, l ≤ 16 ∧ u = 16 - l ∧ x3 = nI (ps C l) ∧ x4 = nI (l + 1)) 16 ⟨0, by omega, rfl, rfl, rfl⟩ (by omega)
  rintro u x3 x4 ⟨l, hl, rfl, rfl, rfl⟩ again ih
  apply Ok_lt 16 (l + 1)
  · intro h
    have : l = 16 := by omega
    subst this
    apply Ok_eqI (ps C 16) n
    · intro hp
      apply Ok_Lp1 (fun u x9 => ∃ i, i ≤ n ∧ u = n - i ∧ x9 = nI i ∧ ¬ dupS S i) n ⟨0, by omega, rfl, rfl, fun q => by obtain ⟨i, j, q1, q2, q3⟩ := q; omega⟩ (by omega)
      rintro u x9 ⟨i, hi, rfl, rfl, hd⟩ again1 ih1
      apply Ok_le n i
      · intro h1
        have : i = n := by omega
        subst this
        apply Ok_Lp2 (fun u x13 x14 => ∃ l, l ≤ 16 ∧ u = 16 - l ∧ x13 = lN (kr C l) ∧ x14 = nI (l + 1) ∧ ∀ m, m ≤ l → kr C m < 2 ^ m) 16 ⟨0, by omega, rfl, rfl, rfl, fun m hm => kr_0 hm⟩ (by omega)
        rintro u x13 x14 ⟨l, hl, rfl, rfl, rfl, hk⟩ again2 ih2
        apply Ok_lt 16 (l + 1)
        · intro h2
          have : l = 16 := by omega
          subst this
          exact Ok_ret (Or.inr (Or.inr (Or.inr ⟨hp, hd, hk, rfl⟩)))
        · intro h2
          have hc := hC (l + 1) (by omega) (by omega)
          have a1 := pow_le16 (l := l) (by omega)
          have a2 := hk l (by omega)
          have a3 := pow_le16 (l := l + 1) (by omega)
          have a4 : 2 ^ (l + 1) = 2 ^ l * 2 := Nat.pow_succ _ _
          have e' : kr C (l + 1) = 2 * kr C l + C (l + 1) := rfl
          have e2 : lN (kr C l) * (2 : Int64) = lN (2 * kr C l) := by
            show lN (kr C l) * lN 2 = _
            rw [lN_mul, Nat.mul_comm]
          rw [e2]
          apply Ok_Lp2 (fun u x18 x19 => ∃ k, k ≤ C (l + 1) ∧ u = C (l + 1) - k ∧ x18 = lN (2 * kr C l + k) ∧ x19 = nI k ∧ 2 * kr C l + k < 2 ^ (l + 1)) (C (l + 1)) ⟨0, by omega, rfl, rfl, rfl, by omega⟩ (by omega)
          rintro u x18 x19 ⟨k, hkk, rfl, rfl, rfl, hlt⟩ again3 ih3
          apply Ok_rd (l + 1)
          rw [hc.1]
          apply Ok_le (C (l + 1)) k
          · intro h3
            have : k = C (l + 1) := by omega
            subst this
            refine ih2 (16 - (l + 1)) _ _ (by omega) ⟨l + 1, by omega, rfl, rfl, nI_1 _, ?_⟩
            intro m hm
            by_cases q : m = l + 1
            · subst q; rw [e']; exact hlt
            · exact hk m (by omega)
          · intro h3
            rw [one_shlL _ (by omega)]
            apply Ok_if
            · intro c
              rw [lg_cmp_lt, pk_lLT (by omega) (by omega)] at c
              exact ih3 (C (l + 1) - (k + 1)) _ _ (by omega) ⟨k + 1, by omega, rfl, lN_1 _, nI_1 _, by omega⟩
            · intro c
              rw [lg_cmp_lt, pk_lLT (by omega) (by omega)] at c
              exact Ok_ret (Or.inr (Or.inr (Or.inl ⟨hp, hd, ⟨l + 1, by omega, by omega⟩, rfl⟩)))
      · intro h1
        apply Ok_Lp1 (fun u x26 => ∃ j, j ≤ i ∧ u = i - j ∧ x26 = nI j ∧ ∀ k, k < j → S i ≠ S k) i ⟨0, by omega, rfl, rfl, fun k hk => by omega⟩ (by omega)
        rintro u x26 ⟨j, hj, rfl, rfl, hq⟩ again2 ih2
        apply Ok_le i j
        · intro h2
          have : j = i := by omega
          subst this
          refine ih1 (n - (j + 1)) _ (by omega) ⟨j + 1, by omega, rfl, nI_1 _, ?_⟩
          rintro ⟨a, b, q1, q2, q3⟩
          by_cases e : a = j
          · subst e; exact hq b q1 q3
          · exact hd ⟨a, b, q1, by omega, q3⟩
        · intro h2
          apply Ok_rd i
          apply Ok_rd j
          have s1 := hS i h1
          have s2 := hS j (by omega)
          rw [s1.1, s2.1]
          apply Ok_eqI (S i) (S j)
          · intro c
            exact Ok_ret (Or.inr (Or.inl ⟨hp, ⟨i, j, h2, h1, c⟩, rfl⟩))
          · intro c
            refine ih2 (i - (j + 1)) _ (by omega) ⟨j + 1, by omega, rfl, nI_1 _, ?_⟩
            intro k hk
            by_cases e : k = j
            · subst e; exact c
            · exact hq k (by omega)
    · intro hp
      exact Ok_ret (Or.inl ⟨hp, rfl⟩)
  · intro h
    apply Ok_rd (l + 1)
    rw [(hC (l + 1) (by omega) (by omega)).1]
    exact ih (16 - (l + 1)) _ _ (by omega) ⟨l + 1, by omega, rfl, nI_add _ _, nI_1 _⟩
theorem p_make {ds : Int32} {dc dy : Nat → Int32} {mn : Int32} {md mdy : Nat → Int32} {tz : Int32} {tc ty tl tk : Nat → Int32} {mw : Int32} {mc my ml mk : Nat → Int32} (se : Nat → Int32) (hD : DI ds dc dy mn md mdy) (hT : TI tz tc ty tl tk mw mc my ml mk) : ∃ r se' tz' tl' tc' ty' tk' mw' mc' my' ml' mk', f_FF_make ds dc dy se tz tl tc ty tk = some (r, se', tz', tl', tc', ty', tk') ∧ (∀ t o z p, f_MM_make t mn mw o z p md mdy mc my ml mk = some (r, 0, mw', mc', my', ml', mk')) ∧ TI tz' tc' ty' tl' tk' mw' mc' my' ml' mk' := by
  obtain ⟨n, C, S, rfl, rfl, hn, hC, hS⟩ := hD
  obtain ⟨⟨r, se'⟩, e1, h1⟩ := fault_ok (se := se) hn (fun l a b => ⟨(hC l a b).1, (hC l a b).2.2⟩) (fun i hi => ⟨(hS i hi).1, (hS i hi).2.2⟩)
  simp only at h1
  have hw : ∀ w o z p, f_MM_wrong 0 (nI n) w o z p md mdy = some r := by
    intro w o z p
    obtain ⟨q, e2, h2⟩ := wrong_ok 0 w o z p hn (fun l a b => ⟨(hC l a b).2.1, (hC l a b).2.2⟩) (fun i hi => ⟨(hS i hi).2.1, (hS i hi).2.2⟩)
    rw [e2, WR_uniq h1 h2]
  by_cases hr : r = 0
  · subst hr
    obtain ⟨hp, hd, hk⟩ : ps C 16 = n ∧ ¬ dupS S n ∧ (∀ l, l ≤ 16 → kr C l < 2 ^ l) := by
      rcases h1 with ⟨_, q⟩ | ⟨_, _, q⟩ | ⟨_, _, _, q⟩ | ⟨a, b, c, _⟩
      · exact absurd q (by decide)
      · exact absurd q (by decide)
      · exact absurd q (by decide)
      · exact ⟨a, b, c⟩
    have hTW : TW n C S (aL C S 16) (aK C S 16) := TW_of hp hn (fun i j hj hi e => hd ⟨i, j, hj, hi, e.symm⟩) (fun i hi => (hS i hi).2.2) (fun l hl => Nat.le_of_lt (hk l hl))
    obtain ⟨⟨b1, b2, b3, b4, b5⟩, e3, c1, c2, c3, c4, c5⟩ := become_ok (n0 := 17) (p0 := dc) (p1 := dy) (tl := tl) (tc := tc) (ty := ty) (tk := tk) tz (by omega) (by omega) hp hn (fun i hi => (hS i hi).2.2) (fun l a b => (hC l a b).1) (fun i hi => (hS i hi).1)
    simp only at c1 c2 c3 c4 c5
    subst c1
    have hm : ∀ (t o z p : Int32), Ok (fun q => q.1 = nI n ∧ q.2.1 = 0 ∧ q.2.2.1 = nI n ∧ (∀ l, 1 ≤ l → l ≤ 16 → q.2.2.2.1 l = nI (C l)) ∧ (∀ i, i < n → q.2.2.2.2.1 i = nI (S i)) ∧ Ar q.2.2.2.2.2.1 (aL C S 16) 256 ∧ Kd q.2.2.2.2.2.2 (aL C S 16) (aK C S 16)) (f_MM_make t (nI n) mw o z p md mdy mc my ml mk) := by
      intro t o z p
      unfold f_MM_make
      rw [bd1_eq (hw mw o z p)]
      apply Ok_ifT (by decide)
      apply Ok_Lp2 (fun u x6 x7 => ∃ j, j ≤ 17 ∧ u = 17 - j ∧ x6 = nI j ∧ ∀ i, i < j → x7 i = md i) 17 ⟨0, by omega, rfl, rfl, fun i hi => by omega⟩ (by omega)
      rintro u x6 x7 ⟨j, hj, rfl, rfl, hz⟩ again ih
      apply Ok_le 17 j
      · intro g
        have : j = 17 := by omega
        subst this
        apply Ok_Lp2 (fun u x11 x12 => ∃ j, j ≤ n ∧ u = n - j ∧ x11 = nI j ∧ ∀ i, i < j → x12 i = mdy i) n ⟨0, by omega, rfl, rfl, fun i hi => by omega⟩ (by omega)
        rintro u x11 x12 ⟨j, hj2, rfl, rfl, hy⟩ again1 ih1
        apply Ok_le n j
        · intro g2
          have : j = n := by omega
          subst this
          apply Ok_bd2 _ (give_ok (C := C) (S := S) 0 (nI j) (nI j) o z p hp hn (fun i hi => (hS i hi).2.2) (fun l a b => by rw [hz l (by omega)]; exact (hC l a b).2.1) (fun i hi => by rw [hy i hi]; exact (hS i hi).2.1))
          rintro o1 o2 ⟨k1, k2⟩
          exact Ok_ret ⟨rfl, rfl, rfl, fun l a b => (hz l (by omega)).trans (hC l a b).2.1, fun i hi => (hy i hi).trans (hS i hi).2.1, k1, k2⟩
        · intro g2
          apply Ok_rd j
          apply Ok_wr j
          refine ih1 (n - (j + 1)) _ _ (by omega) ⟨j + 1, by omega, rfl, nI_1 _, ?_⟩
          intro i hi
          by_cases e : i = j
          · subst e; rw [pk_us]
          · rw [pk_un e]; exact hy i (by omega)
      · intro g
        apply Ok_rd j
        apply Ok_wr j
        refine ih (17 - (j + 1)) _ _ (by omega) ⟨j + 1, by omega, rfl, nI_1 _, ?_⟩
        intro i hi
        by_cases e : i = j
        · subst e; rw [pk_us]
        · rw [pk_un e]; exact hz i (by omega)
    have hm' : ∃ mc' my' ml' mk', (∀ t o z p, f_MM_make t (nI n) mw o z p md mdy mc my ml mk = some (nI n, 0, nI n, mc', my', ml', mk')) ∧ (∀ l, 1 ≤ l → l ≤ 16 → mc' l = nI (C l)) ∧ (∀ i, i < n → my' i = nI (S i)) ∧ Ar ml' (aL C S 16) 256 ∧ Kd mk' (aL C S 16) (aK C S 16) := by
      obtain ⟨⟨q1, q2, q3, mc', my', ml', mk'⟩, e4, k1, k2, k3, k4⟩ := hm 0 0 0 0
      simp only at k1 k2 k3 k4
      subst k1 k2 k3
      refine ⟨mc', my', ml', mk', ?_, k4⟩
      intro t o z p
      rw [← e4]
      unfold f_MM_make
      rw [bd1_eq (hw mw o z p), bd1_eq (hw mw 0 0 0)]
      rfl
    obtain ⟨mc', my', ml', mk', e5, k1, k2, k3, k4⟩ := hm'
    refine ⟨nI n, se', nI n, b2, b3, b4, b5, nI n, mc', my', ml', mk', ?_, e5, ⟨n, C, S, aL C S 16, aK C S 16, rfl, rfl, hn, fun l a b => ⟨c3 l a b, k1 l a b⟩, fun i hi => ⟨c4 i hi, k2 i hi⟩, fun s hs => ⟨c2 s hs, k3 s hs⟩, fun s hs hl => ⟨c5 s hs hl, k4 s hs hl⟩, hTW⟩⟩
    unfold f_FF_make
    rw [bd2_eq e1, if_pos rfl, bd5_eq e3]
  · have hneg : ¬ (0 : Int32) ≤ r := by
      rcases h1 with ⟨_, rfl⟩ | ⟨_, _, rfl⟩ | ⟨_, _, _, rfl⟩ | ⟨_, _, _, rfl⟩
      · decide
      · decide
      · decide
      · exact absurd rfl hr
    refine ⟨r, se', tz, tl, tc, ty, tk, mw, mc, my, ml, mk, ?_, ?_, hT⟩
    · unfold f_FF_make
      rw [bd2_eq e1, if_neg hr]
    · intro t o z p
      unfold f_MM_make
      rw [bd1_eq (hw mw o z p), if_neg hneg]
