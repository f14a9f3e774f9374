/-! counting and shortening -/
theorem kr_congr {C D : Nat → Nat} : ∀ L, (∀ l, 1 ≤ l → l ≤ L → C l = D l) → kr C L = kr D L := by
  intro L
  induction L with
  | zero => intro _; rfl
  | succ L ih =>
    intro h
    show 2 * kr C L + C (L + 1) = 2 * kr D L + D (L + 1)
    rw [ih (fun l h1 h2 => h l h1 (by omega)), h (L + 1) (by omega) (by omega)]
theorem kr_up {M : Nat → Nat} {j v : Nat} (hj : 1 ≤ j) : ∀ L, j ≤ L → kr (up M j v) L + M j * 2 ^ (L - j) = kr M L + v * 2 ^ (L - j) := by
  intro L
  induction L with
  | zero => intro h; omega
  | succ L ih =>
    intro h
    show 2 * kr (up M j v) L + up M j v (L + 1) + M j * 2 ^ (L + 1 - j) = 2 * kr M L + M (L + 1) + v * 2 ^ (L + 1 - j)
    by_cases e : j = L + 1
    · subst e
      have e0 : kr (up M (L + 1) v) L = kr M L := kr_congr L (fun l h1 h2 => up_n (show l ≠ L + 1 by omega))
      rw [up_s, e0, Nat.sub_self, Nat.pow_zero]
      omega
    · have q := ih (by omega)
      rw [up_n (show L + 1 ≠ j from fun z => e z.symm), show L + 1 - j = L - j + 1 by omega, Nat.pow_succ, ← Nat.mul_assoc, ← Nat.mul_assoc]
      omega
theorem kr_z {M : Nat → Nat} : ∀ L, (∀ l, 1 ≤ l → l ≤ L → M l = 0) → kr M L = 0 := by
  intro L
  induction L with
  | zero => intro _; rfl
  | succ L ih =>
    intro h
    show 2 * kr M L + M (L + 1) = 0
    rw [ih (fun l h1 h2 => h l h1 (by omega)), h (L + 1) (by omega) (by omega)]
def cn (E : Nat → Nat) (l n : Nat) : Nat := sm (fun p => if E p = l then 1 else 0) n
def mn (E : Nat → Nat) (n l : Nat) : Nat := if l = 0 then 0 else cn E l n
theorem mn_s0 {E : Nat → Nat} {n : Nat} (h : E n = 0) (l : Nat) : mn E (n + 1) l = mn E n l := by
  unfold mn
  by_cases e : l = 0
  · rw [if_pos e, if_pos e]
  · rw [if_neg e, if_neg e]
    show cn E l n + (if E n = l then 1 else 0) = cn E l n
    rw [if_neg (by omega), Nat.add_zero]
theorem mn_s1 {E : Nat → Nat} {n : Nat} (h : 0 < E n) (l : Nat) : mn E (n + 1) l = up (mn E n) (E n) (mn E n (E n) + 1) l := by
  by_cases c : l = E n
  · subst c
    rw [up_s]
    unfold mn
    rw [if_neg (by omega), if_neg (by omega)]
    show cn E (E n) n + (if E n = E n then 1 else 0) = _
    rw [if_pos rfl]
  · rw [up_n c]
    unfold mn
    by_cases e : l = 0
    · rw [if_pos e, if_pos e]
    · rw [if_neg e, if_neg e]
      show cn E l n + (if E n = l then 1 else 0) = cn E l n
      rw [if_neg (fun z => c z.symm), Nat.add_zero]
theorem mn_kr {E : Nat → Nat} {L : Nat} : ∀ n, (∀ p, p < n → E p ≤ L) → kr (mn E n) L = sm (fun p => if 0 < E p then 2 ^ (L - E p) else 0) n := by
  intro n
  induction n with
  | zero => intro _; exact kr_z L (fun l h1 _ => by unfold mn; rw [if_neg (by omega)]; rfl)
  | succ n ih =>
    intro h
    have q := ih (fun p hp => h p (by omega))
    show _ = sm (fun p => if 0 < E p then 2 ^ (L - E p) else 0) n + (if 0 < E n then 2 ^ (L - E n) else 0)
    rw [← q]
    by_cases c : 0 < E n
    · rw [if_pos c, kr_congr L (fun l _ _ => mn_s1 c l)]
      have := kr_up (M := mn E n) (v := mn E n (E n) + 1) c L (h n (by omega))
      rw [Nat.add_mul] at this
      omega
    · rw [if_neg c, kr_congr L (fun l _ _ => mn_s0 (by omega) l), Nat.add_zero]
theorem mn_sm {E : Nat → Nat} {m : Nat} : ∀ n, (∀ p, p < n → E p < m) → sm (mn E n) m = kd E n := by
  intro n
  induction n with
  | zero => intro _; exact sm_0 m (fun l _ => by
                              unfold mn
                              by_cases e : l = 0
                              · rw [if_pos e]
                              · rw [if_neg e]; rfl)
  | succ n ih =>
    intro h
    have q := ih (fun p hp => h p (by omega))
    show _ = kd E n + (if 0 < E n then 1 else 0)
    rw [← q]
    by_cases c : 0 < E n
    · rw [if_pos c, sm_congr m (fun l _ => mn_s1 c l)]
      have := sm_up (g := mn E n) (v := mn E n (E n) + 1) m (h n (by omega))
      omega
    · rw [if_neg c, sm_congr m (fun l _ => mn_s0 (by omega) l), Nat.add_zero]
theorem mn_hi {E : Nat → Nat} {n l : Nat} (h : ∀ p, p < n → E p ≠ l) : mn E n l = 0 := by
  unfold mn
  by_cases e : l = 0
  · rw [if_pos e]
  · rw [if_neg e]; exact sm_0 n (fun p hp => if_neg (h p hp))
theorem mn_le (E : Nat → Nat) (n l : Nat) : mn E n l ≤ n := by
  unfold mn
  by_cases e : l = 0
  · rw [if_pos e]; omega
  · rw [if_neg e]
    induction n with
    | zero => exact Nat.le_refl _
    | succ n ih =>
      show cn E l n + (if E n = l then 1 else 0) ≤ n + 1
      by_cases c : E n = l
      · rw [if_pos c]; omega
      · rw [if_neg c]; omega
theorem countL_ok {E : Nat → Nat} {kdp kc : Nat → Int32} (a b : Int32) (hE : ∀ p, p < 257 → kdp p = nI (E p) ∧ E p ≤ 256) (hz : ∀ i, i < 257 → kc i = 0) : Ok (fun r => Ar r (mn E 257) 257) (f_FB_countLengths a b kdp kc) := by
  unfold f_FB_countLengths
  apply Ok_Lp2 (fun u x3 x4 => ∃ j, j ≤ 257 ∧ u = 257 - j ∧ x3 = nI j ∧ Ar x4 (mn E j) 257) 257 ⟨0, by omega, rfl, rfl, fun i hi => by rw [hz i hi, mn_hi (fun p hp => by omega)]; rfl⟩ (by omega)
  rintro u x3 x4 ⟨j, hj, rfl, rfl, h4⟩ again ih
  apply Ok_le 257 j
  · intro h
    have : j = 257 := by omega
    subst this
    exact Ok_ret h4
  · intro h
    have he := hE j h
    apply Ok_rd j
    rw [he.1]
    apply Ok_le (E j) 0
    · intro c
      exact ih (257 - (j + 1)) _ _ (by omega) ⟨j + 1, by omega, rfl, nI_1 _, Ar_ext h4 (fun l _ => (mn_s0 (by omega) l).symm)⟩
    · intro c
      apply Ok_rd j
      rw [he.1]
      apply Ok_rd (E j)
      apply Ok_wr (E j)
      rw [h4 _ (by omega), nI_1 (mn E j (E j))]
      exact ih (257 - (j + 1)) _ _ (by omega) ⟨j + 1, by omega, rfl, nI_1 _, Ar_ext (Ar_up h4) (fun l _ => (mn_s1 c l).symm)⟩
def stp (l j : Nat) (M : Nat → Nat) : Nat → Nat :=
  up (up (up (up M l (M l - 2)) (l - 1) (up M l (M l - 2) (l - 1) + 1)) (j + 1) (up (up M l (M l - 2)) (l - 1) (up M l (M l - 2) (l - 1) + 1) (j + 1) + 2)) j (up (up (up M l (M l - 2)) (l - 1) (up M l (M l - 2) (l - 1) + 1)) (j + 1) (up (up M l (M l - 2)) (l - 1) (up M l (M l - 2) (l - 1) + 1) (j + 1) + 2) j - 1)
def lev : Nat → Nat → (Nat → Nat) → Nat → Nat
  | 0, _, M => M
  | f + 1, l, M => if M l = 0 then M else lev f l (stp l (gl M (l - 2)) M)
def shA : Nat → (Nat → Nat) → Nat → Nat
  | 0, M => M
  | l + 1, M => if l + 1 ≤ 16 then M else shA l (lev 300 (l + 1) M)
def Gd (T l : Nat) (M : Nat → Nat) : Prop := (∀ k, l < k → M k = 0) ∧ M 0 = 0 ∧ kr M l = 2 ^ l ∧ sm M 300 = T
theorem lev_0 {f l : Nat} {M : Nat → Nat} (h : M l = 0) : lev f l M = M := by
  cases f with
  | zero => rfl
  | succ f => exact if_pos h
theorem stp_good {T l : Nat} {M : Nat → Nat} (hT : T ≤ 257) (h : Gd T l M) (hl : 17 ≤ l) (hl2 : l ≤ 299) (hm : 0 < M l) : 1 ≤ gl M (l - 2) ∧ gl M (l - 2) ≤ l - 2 ∧ 0 < M (gl M (l - 2)) ∧ 2 ≤ M l ∧ Gd T l (stp l (gl M (l - 2)) M) ∧ stp l (gl M (l - 2)) M l = M l - 2 := by
  obtain ⟨h1, h2, h3, h4⟩ := h
  have jl := gl_le M (l - 2)
  have e1 : kr M l = 2 * kr M (l - 1) + M l := by
    obtain ⟨k, rfl⟩ : ∃ k, l = k + 1 := ⟨l - 1, by omega⟩
    rfl
  have e2 : kr M (l - 1) = 2 * kr M (l - 2) + M (l - 1) := by
    obtain ⟨k, rfl⟩ : ∃ k, l = k + 2 := ⟨l - 2, by omega⟩
    rfl
  have e3 : 2 ^ l = 2 * 2 ^ (l - 1) := by
    obtain ⟨k, rfl⟩ : ∃ k, l = k + 1 := ⟨l - 1, by omega⟩
    rw [Nat.pow_succ, Nat.mul_comm]; rfl
  have m2 : 2 ≤ M l := by omega
  have j1 : 1 ≤ gl M (l - 2) := by
    apply Classical.byContradiction
    intro z
    have z0 : kr M (l - 2) = 0 := kr_z (l - 2) (fun k q1 q2 => gl_above M (l - 2) k (by omega) q2)
    have t := sm_two (f := M) (a := l - 1) (b := l) (by omega) 300 (by omega)
    have p : 2 ^ 17 ≤ 2 ^ l := Nat.pow_le_pow_right (by omega) hl
    have p2 : (2 : Nat) ^ 17 = 131072 := by decide
    omega
  have jm := gl_pos M (l - 2) (by omega)
  generalize gl M (l - 2) = j at *
  refine ⟨j1, jl, jm, m2, ?_, ?_⟩
  · have u1 := kr_up (M := M) (j := l) (v := M l - 2) (by omega) l (Nat.le_refl _)
    have s1 := sm_up (g := M) (j := l) (v := M l - 2) 300 (by omega)
    have n1 : ∀ k, k ≠ l → up M l (M l - 2) k = M k := fun k hk => up_n hk
    generalize hM1 : up M l (M l - 2) = M1 at *
    have u2 := kr_up (M := M1) (j := l - 1) (v := M1 (l - 1) + 1) (by omega) l (by omega)
    have s2 := sm_up (g := M1) (j := l - 1) (v := M1 (l - 1) + 1) 300 (by omega)
    have n2 : ∀ k, k ≠ l - 1 → up M1 (l - 1) (M1 (l - 1) + 1) k = M1 k := fun k hk => up_n hk
    have w2 : up M1 (l - 1) (M1 (l - 1) + 1) (l - 1) = M1 (l - 1) + 1 := up_s
    generalize hM2 : up M1 (l - 1) (M1 (l - 1) + 1) = M2 at *
    have u3 := kr_up (M := M2) (j := j + 1) (v := M2 (j + 1) + 2) (by omega) l (by omega)
    have s3 := sm_up (g := M2) (j := j + 1) (v := M2 (j + 1) + 2) 300 (by omega)
    have n3 : ∀ k, k ≠ j + 1 → up M2 (j + 1) (M2 (j + 1) + 2) k = M2 k := fun k hk => up_n hk
    generalize hM3 : up M2 (j + 1) (M2 (j + 1) + 2) = M3 at *
    have u4 := kr_up (M := M3) (j := j) (v := M3 j - 1) (by omega) l (by omega)
    have s4 := sm_up (g := M3) (j := j) (v := M3 j - 1) 300 (by omega)
    have n4 : ∀ k, k ≠ j → up M3 j (M3 j - 1) k = M3 k := fun k hk => up_n hk
    have q3 : M3 j = M j := by rw [n3 j (by omega), n2 j (by omega), n1 j (by omega)]
    have es : stp l j M = up M3 j (M3 j - 1) := by
      unfold stp
      rw [hM1, hM2, hM3]
    rw [es]
    refine ⟨?_, ?_, ?_, ?_⟩
    · intro k hk
      rw [n4 k (by omega), n3 k (by omega), n2 k (by omega), n1 k (by omega)]
      exact h1 k hk
    · rw [n4 0 (by omega), n3 0 (by omega), n2 0 (by omega), n1 0 (by omega)]
      exact h2
    · rw [Nat.sub_self, Nat.pow_zero] at u1
      rw [show l - (l - 1) = 1 by omega, Nat.pow_one] at u2
      have p4 : 2 ^ (l - j) = 2 * 2 ^ (l - (j + 1)) := by
        rw [show l - j = l - (j + 1) + 1 by omega, Nat.pow_succ, Nat.mul_comm]
      rw [Nat.add_mul] at u3
      have p5 : M3 j * 2 ^ (l - j) = (M3 j - 1) * 2 ^ (l - j) + 2 ^ (l - j) := by
        obtain ⟨t, ht⟩ : ∃ t, M3 j = t + 1 := ⟨M3 j - 1, by omega⟩
        rw [ht, Nat.succ_mul]; rfl
      omega
    · omega
  · unfold stp
    rw [up_n (by omega), up_n (by omega), up_n (by omega), up_s]
theorem lev_good {T l : Nat} (hT : T ≤ 257) (hl : 17 ≤ l) (hl2 : l ≤ 299) : ∀ f (M : Nat → Nat), Gd T l M → M l ≤ f → Gd T l (lev f l M) ∧ lev f l M l = 0 := by
  intro f
  induction f with
  | zero => intro M h hf; exact ⟨h, by show M l = 0; omega⟩
  | succ f ih =>
    intro M h hf
    show Gd T l (if M l = 0 then M else lev f l (stp l (gl M (l - 2)) M)) ∧ (if M l = 0 then M else lev f l (stp l (gl M (l - 2)) M)) l = 0
    by_cases c : M l = 0
    · rw [if_pos c]; exact ⟨h, c⟩
    · rw [if_neg c]
      have q := stp_good hT h hl hl2 (by omega)
      exact ih _ q.2.2.2.2.1 (by rw [q.2.2.2.2.2]; omega)
theorem Gd_down {T l : Nat} {M : Nat → Nat} (h : Gd T (l + 1) M) (hz : M (l + 1) = 0) : Gd T l M := by
  obtain ⟨h1, h2, h3, h4⟩ := h
  refine ⟨?_, h2, ?_, h4⟩
  · intro k hk
    by_cases e : k = l + 1
    · subst e; exact hz
    · exact h1 k (by omega)
  · have e : kr M (l + 1) = 2 * kr M l + M (l + 1) := rfl
    rw [Nat.pow_succ] at h3
    omega
theorem Gd_le {T l : Nat} {M : Nat → Nat} : ∀ m, m ≤ l → (∀ k, m < k → k ≤ l → M k = 0) → Gd T l M → Gd T m M := by
  induction l with
  | zero => intro m hm _ h; have : m = 0 := by omega
            subst this; exact h
  | succ l ih =>
    intro m hm hz h
    by_cases e : m = l + 1
    · subst e; exact h
    · exact ih m (by omega) (fun k q1 q2 => hz k q1 (by omega)) (Gd_down h (hz (l + 1) (by omega) (Nat.le_refl _)))
theorem Gd_up {T l : Nat} {M : Nat → Nat} : ∀ m, l ≤ m → Gd T l M → Gd T m M := by
  intro m
  induction m with
  | zero => intro hm h; have : l = 0 := by omega
            subst this; exact h
  | succ m ih =>
    intro hm h
    by_cases e : l = m + 1
    · subst e; exact h
    · obtain ⟨h1, h2, h3, h4⟩ := ih (by omega) h
      refine ⟨fun k hk => h1 k (by omega), h2, ?_, h4⟩
      show 2 * kr M m + M (m + 1) = 2 ^ (m + 1)
      rw [h1 (m + 1) (by omega), h3, Nat.pow_succ]; omega
theorem sm300 {M : Nat → Nat} {l : Nat} (h : l < 300) : M l ≤ sm M 300 := sm_le 300 h
theorem shA_low {l : Nat} {M : Nat → Nat} (h : l ≤ 16) : shA l M = M := by
  cases l with
  | zero => rfl
  | succ l => exact if_pos h
theorem shA_hi {l : Nat} {M : Nat → Nat} (h : 16 ≤ l) : shA (l + 1) M = shA l (lev 300 (l + 1) M) := if_neg (by omega)
theorem shA_good {T : Nat} (hT : T ≤ 257) : ∀ l, l ≤ 299 → ∀ M : Nat → Nat, Gd T l M → Gd T 16 (shA l M) := by
  intro l
  induction l with
  | zero => intro _ M h; exact Gd_up 16 (by omega) h
  | succ l ih =>
    intro hl M h
    by_cases c : l + 1 ≤ 16
    · rw [shA_low c]; exact Gd_up 16 c h
    · rw [shA_hi (by omega)]
      have hs := sm300 (M := M) (l := l + 1) (by omega)
      have q := lev_good hT (by omega) hl 300 M h (by have := h.2.2.2; omega)
      exact ih (by omega) _ (Gd_down q.1 q.2)
theorem shA_skip {M : Nat → Nat} : ∀ l g, g ≤ l → (∀ k, g < k → k ≤ l → M k = 0) → shA l M = shA g M := by
  intro l
  induction l with
  | zero => intro g hg _; have : g = 0 := by omega
            subst this; rfl
  | succ l ih =>
    intro g hg hz
    by_cases e : g = l + 1
    · subst e; rfl
    · have q := ih g (by omega) (fun k a b => hz k a (by omega))
      by_cases c : l + 1 ≤ 16
      · rw [shA_low c, shA_low (by omega)]
      · rw [shA_hi (by omega), lev_0 (hz (l + 1) (by omega) (Nat.le_refl _))]; exact q
theorem cshort_ok {T g : Nat} {M0 : Nat → Nat} {kc : Nat → Int32} (a b : Int32) (hT : T ≤ 257) (hg : g = gl M0 256) (hc : Ar kc M0 257) (hG : Gd T g M0) : Ok (fun r => Ar r (shA g M0) 257) (f_FB_shortenLengths a b kc) := by
  have hMb : ∀ {l : Nat} {M : Nat → Nat}, Gd T l M → ∀ k, k < 300 → M k ≤ 257 := by
    intro l M h k hk
    have := sm300 (M := M) hk
    have := h.2.2.2
    omega
  have g256 : g ≤ 256 := by rw [hg]; exact gl_le _ _
  unfold f_FB_shortenLengths
  have q0 := gl_ok (n := 257) (f := 256) (c := kc) (C := M0) (by omega) (by omega) (fun l h1 h2 => ⟨hc l (by omega), by have := hMb hG l (by omega); omega⟩)
  apply Ok_bd1 _ q0
  rintro r1 rfl
  rw [← hg]
  apply Ok_Lp2 (fun u x5 x6 => ∃ l M, l ≤ 256 ∧ u = l ∧ x5 = nI l ∧ Ar x6 M 257 ∧ Gd T l M ∧ shA l M = shA g M0) g ⟨g, M0, g256, rfl, rfl, hc, hG, rfl⟩ (by omega)
  rintro l x5 x6 ⟨_, M, hl, rfl, rfl, h6, hGd, hF⟩ again ih
  apply Ok_le l 16
  · intro c
    rw [← hF, shA_low c]
    exact Ok_ret h6
  · intro c
    obtain ⟨l', rfl⟩ : ∃ l', l = l' + 1 := ⟨l - 1, by omega⟩
    rw [shA_hi (by omega)] at hF
    have hMl := hMb hGd (l' + 1) (by omega)
    apply Ok_Lp2 (fun u x10 x11 => ∃ s f M, u = M (l' + 1) ∧ x10 = nI s ∧ Ar x11 M 257 ∧ Gd T (l' + 1) M ∧ M (l' + 1) ≤ f ∧ M (l' + 1) + 2 * s ≤ 257 ∧ shA l' (lev f (l' + 1) M) = shA g M0) (M (l' + 1)) ⟨0, 300, M, rfl, rfl, h6, hGd, by omega, by omega, hF⟩ (by omega)
    rintro u x10 x11 ⟨s, f, M, rfl, rfl, h11, hGd, hf, hs, hF⟩ again2 ih2
    have hdone : M (l' + 1) = 0 → Ok (fun r => Ar r (shA g M0) 257) (again (nI (l' + 1) + (-1)) x11) := by
      intro z
      rw [lev_0 z] at hF
      exact ih l' _ _ (by omega) ⟨l', M, by omega, rfl, pk_m1 _, h11, Gd_down hGd z, hF⟩
    apply Ok_le 257 s
    · intro c2; omega
    · intro c2
      have hMl := hMb hGd (l' + 1) (by omega)
      apply Ok_rd (l' + 1)
      rw [h11 _ (by omega)]
      apply Ok_le (M (l' + 1)) 0
      · intro c3; exact hdone (by omega)
      · intro c3
        obtain ⟨j1, j2, j3, j4, j5, j6⟩ := stp_good hT hGd (by omega) (by omega) c3
        have e2 : nI (l' + 1) - 2 = nI (l' + 1 - 2) := pk_sub (b := 2) (by omega)
        have e1 : nI (l' + 1) - 1 = nI (l' + 1 - 1) := pk_sub (b := 1) (by omega)
        rw [e2, e1]
        apply Ok_bd1 _ (gl_ok (n := 257) (f := l' + 1 - 2) (c := x11) (C := M) (by omega) (by omega) (fun l h1 h2 => ⟨h11 l (by omega), by have := hMb hGd l (by omega); omega⟩))
        rintro r16 rfl
        have ej : nI (gl M (l' + 1 - 2)) + 1 = nI (gl M (l' + 1 - 2) + 1) := nI_1 _
        rw [ej]
        have hstep : ∃ f', f = f' + 1 := ⟨f - 1, by omega⟩
        obtain ⟨f', rfl⟩ := hstep
        have hlev : lev (f' + 1) (l' + 1) M = lev f' (l' + 1) (stp (l' + 1) (gl M (l' + 1 - 2)) M) := if_neg (by omega)
        rw [hlev] at hF
        have est : stp (l' + 1) (gl M (l' + 1 - 2)) M = stp (l' + 1) (gl M (l' + 1 - 2)) M := rfl
        generalize hst : stp (l' + 1) (gl M (l' + 1 - 2)) M = M' at *
        generalize gl M (l' + 1 - 2) = j at *
        apply Ok_rd (l' + 1)
        apply Ok_wr (l' + 1)
        apply Ok_rd (l' + 1 - 1)
        apply Ok_wr (l' + 1 - 1)
        apply Ok_rd (j + 1)
        apply Ok_wr (j + 1)
        apply Ok_rd j
        apply Ok_wr j
        refine ih2 (M' (l' + 1)) _ _ (by omega) ⟨s + 1, f', M', rfl, nI_1 _, ?_, j5, by omega, by omega, hF⟩
        rw [h11 (l' + 1) (by omega), show nI (M (l' + 1)) - 2 = nI (M (l' + 1) - 2) from pk_sub (b := 2) j4]
        have A1 : Ar (upd x11 (l' + 1) (nI (M (l' + 1) - 2))) (up M (l' + 1) (M (l' + 1) - 2)) 257 := Ar_up h11
        rw [A1 (l' + 1 - 1) (by omega), nI_1]
        have A2 := Ar_up (j := l' + 1 - 1) (v := up M (l' + 1) (M (l' + 1) - 2) (l' + 1 - 1) + 1) A1
        rw [A2 (j + 1) (by omega), show ∀ t, nI t + 2 = nI (t + 2) from fun t => nI_add t 2]
        have A3 := Ar_up (j := j + 1) (v := up (up M (l' + 1) (M (l' + 1) - 2)) (l' + 1 - 1) (up M (l' + 1) (M (l' + 1) - 2) (l' + 1 - 1) + 1) (j + 1) + 2) A2
        rw [A3 j (by omega)]
        have p3 : 1 ≤ up (up (up M (l' + 1) (M (l' + 1) - 2)) (l' + 1 - 1) (up M (l' + 1) (M (l' + 1) - 2) (l' + 1 - 1) + 1)) (j + 1) (up (up M (l' + 1) (M (l' + 1) - 2)) (l' + 1 - 1) (up M (l' + 1) (M (l' + 1) - 2) (l' + 1 - 1) + 1) (j + 1) + 2) j := by
          rw [up_n (by omega), up_n (by omega), up_n (by omega)]; exact j3
        rw [show ∀ t, 1 ≤ t → nI t - 1 = nI (t - 1) from fun t ht => pk_sub (b := 1) ht, ← hst]
        · exact Ar_up A3
        · exact p3
def drp (M : Nat → Nat) : Nat → Nat := up M (gl M 16) (M (gl M 16) - 1)
theorem Gd_gl {T : Nat} {M : Nat → Nat} (h : Gd T 16 M) : 1 ≤ gl M 16 := by
  apply Classical.byContradiction
  intro z
  have := kr_z (M := M) 16 (fun k q1 q2 => gl_above M 16 k (by omega) q2)
  have e := h.2.2.1
  have p : (2 : Nat) ^ 16 = 65536 := by decide
  omega
theorem cdrop_ok {T : Nat} {M : Nat → Nat} {kc : Nat → Int32} (a b : Int32) (hT : T ≤ 257) (hc : Ar kc M 257) (hG : Gd T 16 M) : Ok (fun r => Ar r (drp M) 257) (f_FB_dropLongestWord a b kc) := by
  have hMb : ∀ k, k < 300 → M k ≤ 257 := by
    intro k hk
    have := sm300 (M := M) hk
    have := hG.2.2.2
    omega
  unfold f_FB_dropLongestWord
  apply Ok_bd1 _ (gl_ok (n := 257) (f := 16) (c := kc) (C := M) (by omega) (by omega) (fun l h1 h2 => ⟨hc l (by omega), by have := hMb l (by omega); omega⟩))
  rintro r rfl
  have g1 := Gd_gl hG
  have g2 := gl_le M 16
  have g3 := gl_pos M 16 (by omega)
  apply Ok_rd (gl M 16)
  apply Ok_wr (gl M 16)
  rw [hc _ (by omega), show nI (M (gl M 16)) - 1 = nI (M (gl M 16) - 1) from pk_sub (b := 1) g3]
  exact Ok_ret (Ar_up hc)
theorem drp_kr {T : Nat} {M : Nat → Nat} (hG : Gd T 16 M) : ∀ l, l ≤ 16 → kr (drp M) l ≤ 2 ^ l := by
  have g1 := Gd_gl hG
  have g2 := gl_le M 16
  have q := kr_up (M := M) (v := M (gl M 16) - 1) g1 16 g2
  have top : kr (drp M) 16 ≤ 2 ^ 16 := by
    rw [← hG.2.2.1]
    have : (M (gl M 16) - 1) * 2 ^ (16 - gl M 16) ≤ M (gl M 16) * 2 ^ (16 - gl M 16) := Nat.mul_le_mul_right _ (Nat.sub_le _ _)
    unfold drp
    omega
  have down : ∀ d, d ≤ 16 → kr (drp M) (16 - d) ≤ 2 ^ (16 - d) := by
    intro d
    induction d with
    | zero => intro _; exact top
    | succ d ih =>
      intro hd
      have a := ih (by omega)
      have e : kr (drp M) (16 - d) = 2 * kr (drp M) (16 - (d + 1)) + drp M (16 - d) := by
        rw [show 16 - d = 16 - (d + 1) + 1 by omega]; rfl
      rw [show 2 ^ (16 - d) = 2 ^ (16 - (d + 1)) * 2 by rw [← Nat.pow_succ]; congr 1; omega] at a
      omega
  intro l hl
  have := down (16 - l) (by omega)
  rw [show 16 - (16 - l) = l by omega] at this
  exact this
theorem sm_ps (M : Nat → Nat) : ∀ l, sm M (l + 1) = M 0 + ps M l := by
  intro l
  induction l with
  | zero => show 0 + M 0 = M 0 + 0; omega
  | succ l ih =>
    show sm M (l + 1) + M (l + 1) = M 0 + (ps M l + M (l + 1))
    omega
theorem sm_tail {M : Nat → Nat} {a : Nat} : ∀ b, a ≤ b → (∀ k, a ≤ k → k < b → M k = 0) → sm M b = sm M a := by
  intro b
  induction b with
  | zero => intro h _; have : a = 0 := by omega
            subst this; rfl
  | succ b ih =>
    intro h hz
    by_cases e : a = b + 1
    · subst e; rfl
    · show sm M b + M b = sm M a
      rw [ih (by omega) (fun k q1 q2 => hz k q1 (by omega)), hz b (by omega) (by omega), Nat.add_zero]
theorem drp_ps {T : Nat} {M : Nat → Nat} (hG : Gd T 16 M) : ps (drp M) 16 + 1 = T := by
  have g1 := Gd_gl hG
  have g2 := gl_le M 16
  have g3 := gl_pos M 16 (by omega)
  have a1 := sm_up (g := M) (j := gl M 16) (v := M (gl M 16) - 1) 17 (by omega)
  have a2 : sm (drp M) 17 = drp M 0 + ps (drp M) 16 := sm_ps (drp M) 16
  have a3 := sm_tail (M := M) (a := 17) 300 (by omega) (fun k q1 q2 => hG.1 k (by omega))
  have a4 := hG.2.2.2
  have a5 : drp M 0 = 0 := by unfold drp; rw [up_n (by omega)]; exact hG.2.1
  have a6 : sm (drp M) 17 = sm (up M (gl M 16) (M (gl M 16) - 1)) 17 := rfl
  omega
