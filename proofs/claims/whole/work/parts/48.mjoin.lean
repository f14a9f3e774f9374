/-- a place or none, as the program writes it -/
def nb (n : Nat) : Int32 := if n = 1000 then -1 else nI n
def okp (n : Nat) : Prop := n = 1000 ∨ n < 257
theorem nb_some {n : Nat} (h : n < 257) : nb n = nI n := if_neg (by omega)
theorem nb_none : nb 1000 = -1 := if_pos rfl
theorem nI_nm1 {j : Nat} (h : j < 2 ^ 31) : ¬ nI j = -1 := by
  intro z
  have := nI_pos h
  rw [z] at this
  exact this (by decide)
theorem nb_eq {j b : Nat} (hj : j < 257) (hb : okp b) : nI j = nb b ↔ j = b := by
  rcases hb with rfl | hb
  · rw [nb_none]
    constructor
    · intro z; exact absurd z (nI_nm1 (by omega))
    · intro z; omega
  · rw [nb_some hb, nI_eq (by omega) (by omega)]
theorem nb_neg {r : Nat} (h : okp r) : nb r < 0 ↔ r = 1000 := by
  rcases h with rfl | h
  · rw [nb_none]; exact ⟨fun _ => rfl, fun _ => by decide⟩
  · rw [nb_some h]
    constructor
    · intro z; exact absurd z (nI_pos (by omega))
    · intro z; omega
theorem lfn_okp (W : Nat → Nat) (b : Nat) {n : Nat} (hn : n ≤ 257) : okp (lfn W b n) := by
  rcases lfn_spec W b n hn with ⟨q, _⟩ | ⟨q, _⟩
  · exact Or.inl q
  · exact Or.inr (by omega)
theorem least_ok {W : Nat → Nat} {kn : Nat → Int32} (t d w o z p : Int32) {b : Nat} (hb : okp b) (hA : Ar kn W 257) (hW : ∀ p, p < 257 → W p < 2 ^ 31) : Ok (fun r => r = nb (lfn W b 257)) (f_MM_least t d w o z p kn (nb b)) := by
  unfold f_MM_least
  apply Ok_Lp2 (fun u x3 x4 => ∃ j, j ≤ 257 ∧ u = 257 - j ∧ x4 = nI j ∧ x3 = nb (lfn W b j)) 257 ⟨0, by omega, rfl, rfl, rfl⟩ (by omega)
  rintro u x3 x4 ⟨j, hj, rfl, rfl, rfl⟩ again ih
  have e : lfn W b (j + 1) = if j ≠ b ∧ 0 < W j ∧ (lfn W b j = 1000 ∨ W j ≤ W (lfn W b j)) then j else lfn W b j := rfl
  have hq := lfn_okp W b hj
  apply Ok_lt 256 j
  · intro h
    have : j = 257 := by omega
    subst this
    exact Ok_ret rfl
  · intro h
    have hw := hW j (by omega)
    have same : ¬ (j ≠ b ∧ 0 < W j ∧ (lfn W b j = 1000 ∨ W j ≤ W (lfn W b j))) → Ok (fun r => r = nb (lfn W b 257)) (again (nb (lfn W b j)) (nI j + 1)) := by
      intro c
      exact ih (257 - (j + 1)) _ _ (by omega) ⟨j + 1, by omega, rfl, nI_1 _, by rw [e, if_neg c]⟩
    have new : (j ≠ b ∧ 0 < W j ∧ (lfn W b j = 1000 ∨ W j ≤ W (lfn W b j))) → Ok (fun r => r = nb (lfn W b 257)) (again (nI j) (nI j + 1)) := by
      intro c
      exact ih (257 - (j + 1)) _ _ (by omega) ⟨j + 1, by omega, rfl, nI_1 _, by rw [e, if_pos c, nb_some (by omega)]⟩
    apply Ok_if
    · intro c
      rw [nb_eq (by omega) hb] at c
      exact same (fun z => z.1 c)
    · intro c
      rw [nb_eq (by omega) hb] at c
      apply Ok_rd j
      rw [hA j (by omega)]
      apply Ok_le (W j) 0
      · intro c2
        exact same (fun z => by have := z.2.1; omega)
      · intro c2
        apply Ok_if
        · intro c3
          rw [nb_neg hq] at c3
          exact new ⟨c, c2, Or.inl c3⟩
        · intro c3
          rw [nb_neg hq] at c3
          have hl : lfn W b j < 257 := hq.resolve_left c3
          have hwl := hW _ hl
          apply Ok_rd j
          rw [hA j (by omega), nb_some hl]
          apply Ok_ifT (nI_pos' (by omega))
          apply Ok_rd (lfn W b j)
          rw [hA _ hl]
          apply Ok_lt (W (lfn W b j)) (W j)
          · intro c4
            rw [← nb_some hl]
            exact same (fun z => by have := z.2.2; omega)
          · intro c4
            exact new ⟨c, c2, Or.inr c4⟩
theorem jG_lt (W0 : Nat → Nat) (h0 : 1 ≤ kd W0 257) : ∀ k, k < kd W0 257 → ∀ p, p < 257 → jG W0 k p < 257 := by
  intro k
  induction k with
  | zero => intro _ p hp; exact hp
  | succ k ih =>
    intro hk p hp
    have ha := fa_spec (W := jW W0 k) (by rw [jW_kd W0 h0 k (by omega)]; omega)
    show (if jG W0 k p = fa (jW W0 k) ∨ jG W0 k p = fb (jW W0 k) then fa (jW W0 k) else jG W0 k p) < 257
    by_cases c : jG W0 k p = fa (jW W0 k) ∨ jG W0 k p = fb (jW W0 k)
    · rw [if_pos c]; exact ha.1.1
    · rw [if_neg c]; exact ih (by omega) p hp
def w0 (N : Nat → Nat) (p : Nat) : Nat := if p = 256 then 1 else N p
theorem w0_kd (N : Nat → Nat) : 1 ≤ kd (w0 N) 257 := kd_pos (p := 256) (by omega) (by unfold w0; rw [if_pos rfl]; omega)
theorem w0_sm (N : Nat → Nat) : sm (w0 N) 257 = sm N 256 + 1 := by
  show sm (w0 N) 256 + w0 N 256 = _
  have e : sm (w0 N) 256 = sm N 256 := sm_congr 256 (fun i hi => by unfold w0; rw [if_neg (by omega)])
  rw [e]; unfold w0; rw [if_pos rfl]
theorem Ar_ext {f : Nat → Int32} {g h : Nat → Nat} {n : Nat} (hf : Ar f g n) (e : ∀ i, i < n → g i = h i) : Ar f h n := fun i hi => by rw [hf i hi, e i hi]
theorem mjoin_ok {N : Nat → Nat} {kn kg kb ko : Nat → Int32} {K : Nat} (t d w o z p : Int32) (hN : Ar ko N 256) (hs : sm N 256 ≤ 1000000) (hK : K + 1 = kd (w0 N) 257) : Ok (fun r => Ar r.2.2 (jB (w0 N) K) 257) (f_MM_join t d w o z p kn kg kb ko) := by
  have h0 := w0_kd N
  have hkle := kd_le (w0 N) 257
  have hWb : ∀ k, k < kd (w0 N) 257 → ∀ p, p < 257 → jW (w0 N) k p < 2 ^ 31 := by
    intro k hk p hp
    have a1 := sm_le (f := jW (w0 N) k) 257 hp
    rw [jW_sm (w0 N) h0 k hk, w0_sm] at a1
    omega
  unfold f_MM_join
  apply Ok_Lp4 (fun u x3 x4 x5 x6 => ∃ j, j ≤ 257 ∧ u = 257 - j ∧ x3 = nI j ∧ Ar x4 (fun _ => 0) j ∧ Ar x5 (fun p => p) j ∧ Ar x6 (w0 N) j) 257 ⟨0, by omega, rfl, rfl, fun i hi => by omega, fun i hi => by omega, fun i hi => by omega⟩ (by omega)
  rintro u x3 x4 x5 x6 ⟨j, hj, rfl, rfl, h4, h5, h6⟩ again ih
  apply Ok_lt 256 j
  · intro h
    have : j = 257 := by omega
    subst this
    have q1 := least_ok (W := w0 N) (kn := x6) t d w o z p (b := 1000) (Or.inl rfl) h6 (hWb 0 (by omega))
    rw [nb_none] at q1
    apply Ok_bd1 _ q1
    rintro r8 rfl
    apply Ok_bd1 _ (least_ok (W := w0 N) (kn := x6) t d w o z p (b := lfn (w0 N) 1000 257) (lfn_okp _ _ (Nat.le_refl _)) h6 (hWb 0 (by omega)))
    rintro r10 rfl
    apply Ok_Lp5 (fun u x14 x15 x16 x17 x18 => ∃ k, k ≤ K ∧ u = K - k ∧ x14 = nb (fa (jW (w0 N) k)) ∧ x15 = nb (fb (jW (w0 N) k)) ∧ Ar x16 (jB (w0 N) k) 257 ∧ Ar x17 (jG (w0 N) k) 257 ∧ Ar x18 (jW (w0 N) k) 257) K ⟨0, by omega, rfl, rfl, rfl, h4, h5, h6⟩ (by omega)
    rintro u x14 x15 x16 x17 x18 ⟨k, hk, rfl, rfl, rfl, hB, hG, hW⟩ again1 ih1
    have hkd := jW_kd (w0 N) h0 k (by omega)
    have fbo : okp (fb (jW (w0 N) k)) := lfn_okp _ _ (Nat.le_refl _)
    apply Ok_if
    · intro c
      rw [nb_neg fbo] at c
      have : k = K := by
        apply Classical.byContradiction
        intro z
        have q := (fb_spec (W := jW (w0 N) k) (by omega)).1.1.1
        omega
      subst this
      exact Ok_ret hB
    · intro c
      rw [nb_neg fbo] at c
      have hkK : k < K := by
        apply Classical.byContradiction
        intro z
        exact c (fb_none (by omega))
      have ha := (fa_spec (W := jW (w0 N) k) (by omega)).1.1
      have hb := (fb_spec (W := jW (w0 N) k) (by omega)).1.1.1
      have hne := (fb_spec (W := jW (w0 N) k) (by omega)).1.2
      have eG : ∀ p, jG (w0 N) (k + 1) p = if jG (w0 N) k p = fa (jW (w0 N) k) ∨ jG (w0 N) k p = fb (jW (w0 N) k) then fa (jW (w0 N) k) else jG (w0 N) k p := fun p => rfl
      have eB : ∀ p, jB (w0 N) (k + 1) p = if jG (w0 N) k p = fa (jW (w0 N) k) ∨ jG (w0 N) k p = fb (jW (w0 N) k) then jB (w0 N) k p + 1 else jB (w0 N) k p := fun p => rfl
      have eW : jW (w0 N) (k + 1) = up (up (jW (w0 N) k) (fa (jW (w0 N) k)) (jW (w0 N) k (fa (jW (w0 N) k)) + jW (w0 N) k (fb (jW (w0 N) k)))) (fb (jW (w0 N) k)) 0 := rfl
      have hGl := jG_lt (w0 N) h0 k (by omega)
      rw [nb_some ha, nb_some hb]
      apply Ok_Lp3 (fun u x22 x23 x24 => ∃ j, j ≤ 257 ∧ u = 257 - j ∧ x22 = nI j ∧ Ar x23 (fun p => if p < j then jB (w0 N) (k + 1) p else jB (w0 N) k p) 257 ∧ Ar x24 (fun p => if p < j then jG (w0 N) (k + 1) p else jG (w0 N) k p) 257) 257 ⟨0, by omega, rfl, rfl, fun i hi => hB i hi, fun i hi => hG i hi⟩ (by omega)
      rintro u x22 x23 x24 ⟨j, hj, rfl, rfl, hB2, hG2⟩ again2 ih2
      apply Ok_lt 256 j
      · intro hh
        have : j = 257 := by omega
        subst this
        apply Ok_rd (fa (jW (w0 N) k))
        apply Ok_rd (fb (jW (w0 N) k))
        apply Ok_wr (fa (jW (w0 N) k))
        apply Ok_wr (fb (jW (w0 N) k))
        rw [hW _ ha, hW _ hb, nI_add]
        have hW' : Ar (upd (upd x18 (fa (jW (w0 N) k)) (nI (jW (w0 N) k (fa (jW (w0 N) k)) + jW (w0 N) k (fb (jW (w0 N) k))))) (fb (jW (w0 N) k)) 0) (jW (w0 N) (k + 1)) 257 := by
          rw [eW]; exact Ar_up (Ar_up hW)
        have q2 := least_ok (W := jW (w0 N) (k + 1)) t d w o z p (b := 1000) (Or.inl rfl) hW' (hWb (k + 1) (by omega))
        rw [nb_none] at q2
        apply Ok_bd1 _ q2
        rintro r34 rfl
        apply Ok_bd1 _ (least_ok (W := jW (w0 N) (k + 1)) t d w o z p (b := lfn (jW (w0 N) (k + 1)) 1000 257) (lfn_okp _ _ (Nat.le_refl _)) hW' (hWb (k + 1) (by omega)))
        rintro r36 rfl
        exact ih1 (K - (k + 1)) _ _ _ _ _ (by omega) ⟨k + 1, by omega, rfl, rfl, rfl, Ar_ext hB2 (fun i hi => if_pos hi), Ar_ext hG2 (fun i hi => if_pos hi), hW'⟩
      · intro hh
        have hgj : x24 j = nI (jG (w0 N) k j) := (hG2 j (by omega)).trans (congrArg nI (if_neg (Nat.lt_irrefl _)))
        have hbj : x23 j = nI (jB (w0 N) k j) := (hB2 j (by omega)).trans (congrArg nI (if_neg (Nat.lt_irrefl _)))
        have gl1 := hGl j (by omega)
        have hit : (jG (w0 N) k j = fa (jW (w0 N) k) ∨ jG (w0 N) k j = fb (jW (w0 N) k)) → Ok (fun r => Ar r.2.2 (jB (w0 N) K) 257) (rd 257 x23 (nI j) (fun v41 => wr 257 x23 (nI j) (v41 + 1) (fun g43 => wr 257 x24 (nI j) (nI (fa (jW (w0 N) k))) (fun g45 => again2 (nI j + 1) g43 g45)))) := by
          intro c1
          apply Ok_rd j
          apply Ok_wr j
          apply Ok_wr j
          rw [hbj, nI_1 (jB (w0 N) k j)]
          refine ih2 (257 - (j + 1)) _ _ _ (by omega) ⟨j + 1, by omega, rfl, nI_1 _, ?_, ?_⟩
          · refine Ar_ext (Ar_up hB2) ?_
            intro i hi
            by_cases e : i = j
            · subst e; rw [up_s, if_pos (by omega), eB, if_pos c1]
            · rw [up_n e]
              by_cases e2 : i < j
              · rw [if_pos e2, if_pos (by omega)]
              · rw [if_neg e2, if_neg (by omega)]
          · refine Ar_ext (Ar_up hG2) ?_
            intro i hi
            by_cases e : i = j
            · subst e; rw [up_s, if_pos (by omega), eG, if_pos c1]
            · rw [up_n e]
              by_cases e2 : i < j
              · rw [if_pos e2, if_pos (by omega)]
              · rw [if_neg e2, if_neg (by omega)]
        apply Ok_rd j
        rw [hgj]
        apply Ok_eqI (jG (w0 N) k j) (fa (jW (w0 N) k))
        · intro c1
          exact hit (Or.inl c1)
        · intro c1
          apply Ok_rd j
          rw [hgj]
          apply Ok_eqI (jG (w0 N) k j) (fb (jW (w0 N) k))
          · intro c2
            exact hit (Or.inr c2)
          · intro c2
            have cn : ¬ (jG (w0 N) k j = fa (jW (w0 N) k) ∨ jG (w0 N) k j = fb (jW (w0 N) k)) := fun z => z.elim c1 c2
            refine ih2 (257 - (j + 1)) _ _ _ (by omega) ⟨j + 1, by omega, rfl, nI_1 _, ?_, ?_⟩
            · refine Ar_ext hB2 ?_
              intro i hi
              by_cases e : i = j
              · subst e; rw [if_neg (Nat.lt_irrefl _), if_pos (by omega), eB, if_neg cn]
              · by_cases e2 : i < j
                · rw [if_pos e2, if_pos (by omega)]
                · rw [if_neg e2, if_neg (by omega)]
            · refine Ar_ext hG2 ?_
              intro i hi
              by_cases e : i = j
              · subst e; rw [if_neg (Nat.lt_irrefl _), if_pos (by omega), eG, if_neg cn]
              · by_cases e2 : i < j
                · rw [if_pos e2, if_pos (by omega)]
                · rw [if_neg e2, if_neg (by omega)]
  · intro h
    have fin : ∀ {x : Int32}, x = nI (w0 N j) → Ok (fun r => Ar r.2.2 (jB (w0 N) K) 257) (again (nI j + 1) (upd x4 j 0) (upd x5 j (nI j)) (upd x6 j x)) := by
      intro x hx
      refine ih (257 - (j + 1)) _ _ _ _ (by omega) ⟨j + 1, by omega, rfl, nI_1 _, ?_, ?_, ?_⟩
      · intro i hi
        by_cases e : i = j
        · subst e; rw [pk_us]; rfl
        · rw [pk_un e]; exact h4 i (by omega)
      · intro i hi
        by_cases e : i = j
        · subst e; rw [pk_us]
        · rw [pk_un e]; exact h5 i (by omega)
      · intro i hi
        by_cases e : i = j
        · subst e; rw [pk_us]; exact hx
        · rw [pk_un e]; exact h6 i (by omega)
    apply Ok_eqI j 256
    · intro c
      apply Ok_wr j
      apply Ok_wr j
      apply Ok_wr j
      apply fin
      unfold w0; rw [if_pos c]; rfl
    · intro c
      apply Ok_rd j
      apply Ok_wr j
      apply Ok_wr j
      apply Ok_wr j
      apply fin
      unfold w0; rw [if_neg c]; exact hN j (by omega)
