/-! giving words: what counts and symbols make, as pure words -/
def ps (C : Nat → Nat) : Nat → Nat
  | 0 => 0
  | l + 1 => ps C l + C (l + 1)
def kr (C : Nat → Nat) : Nat → Nat
  | 0 => 0
  | l + 1 => 2 * kr C l + C (l + 1)
theorem ps_mono (C : Nat → Nat) {a : Nat} : ∀ b, a ≤ b → ps C a ≤ ps C b := by
  intro b
  induction b with
  | zero => intro h; have : a = 0 := by omega
            subst this; exact Nat.le_refl _
  | succ b ih =>
    intro h
    by_cases e : a = b + 1
    · subst e; exact Nat.le_refl _
    · exact Nat.le_trans (ih (by omega)) (Nat.le_add_right _ _)
def gvL (S : Nat → Nat) (l i0 : Nat) : Nat → (Nat → Nat) → Nat → Nat
  | 0, L => L
  | k + 1, L => up (gvL S l i0 k L) (S (i0 + k)) l
def gvK (S : Nat → Nat) (i0 c0 : Nat) : Nat → (Nat → Nat) → Nat → Nat
  | 0, K => K
  | k + 1, K => up (gvK S i0 c0 k K) (S (i0 + k)) (c0 + k)
def aL (C S : Nat → Nat) : Nat → Nat → Nat
  | 0 => fun _ => 0
  | l + 1 => gvL S (l + 1) (ps C l) (C (l + 1)) (aL C S l)
def aK (C S : Nat → Nat) : Nat → Nat → Nat
  | 0 => fun _ => 0
  | l + 1 => gvK S (ps C l) (2 * kr C l) (C (l + 1)) (aK C S l)
def GP (C S : Nat → Nat) (l k i cur : Nat) (L K : Nat → Nat) : Prop :=
  (∀ j, j < i → 0 < L (S j) ∧ L (S j) ≤ l ∧ (K (S j) + 1) * 2 ^ (l - L (S j)) ≤ cur) ∧
  (∀ s, 0 < L s → K s < 2 ^ L s ∧ 0 < C (L s) ∧ ∃ j, j < i ∧ S j = s) ∧
  (∀ j j', j < j' → j' < i → L (S j) ≤ L (S j') ∧ (K (S j) + 1) * 2 ^ (L (S j') - L (S j)) ≤ K (S j')) ∧
  (∀ m, 1 ≤ m → m ≤ l → (m < l ∨ 0 < k) → 0 < C m → ∃ j, j < i ∧ L (S j) = m)
theorem GP_word {C S : Nat → Nat} {l k i cur : Nat} {L K : Nat → Nat} (h : GP C S l k i cur L K) (hl : 1 ≤ l) (hi : ∀ j, j < i → S j ≠ S i) (hc : cur < 2 ^ l) (hk : 0 < C l) : GP C S l (k + 1) (i + 1) (cur + 1) (up L (S i) l) (up K (S i) cur) := by
  obtain ⟨h1, h2, h3, h4⟩ := h
  refine ⟨?_, ?_, ?_, ?_⟩
  · intro j hj
    by_cases e : j = i
    · subst e; rw [up_s, up_s, Nat.sub_self]; exact ⟨hl, Nat.le_refl _, by omega⟩
    · have q := h1 j (by omega)
      rw [up_n (hi j (by omega)), up_n (hi j (by omega))]
      exact ⟨q.1, q.2.1, by omega⟩
  · intro s hs
    by_cases e : s = S i
    · subst e; rw [up_s, up_s]; exact ⟨hc, hk, i, by omega, rfl⟩
    · rw [up_n e] at hs
      rw [up_n e, up_n e]
      obtain ⟨q1, q2, j, q3, q4⟩ := h2 s hs
      exact ⟨q1, q2, j, by omega, q4⟩
  · intro j j' hj hj'
    rw [up_n (hi j (by omega)), up_n (hi j (by omega))]
    by_cases e : j' = i
    · subst e; rw [up_s, up_s]; exact (h1 j hj).2
    · rw [up_n (hi j' (by omega)), up_n (hi j' (by omega))]
      exact h3 j j' hj (by omega)
  · intro m hm1 hm2 hm3 hm4
    by_cases e : m = l
    · subst e; exact ⟨i, by omega, up_s⟩
    · obtain ⟨j, q1, q2⟩ := h4 m hm1 hm2 (Or.inl (by omega)) hm4
      exact ⟨j, by omega, by rw [up_n (hi j q1)]; exact q2⟩
theorem GP_level {C S : Nat → Nat} {l i cur : Nat} {L K : Nat → Nat} (h : GP C S l (C l) i cur L K) : GP C S (l + 1) 0 i (2 * cur) L K := by
  obtain ⟨h1, h2, h3, h4⟩ := h
  refine ⟨?_, h2, h3, ?_⟩
  · intro j hj
    obtain ⟨q1, q2, q3⟩ := h1 j hj
    refine ⟨q1, by omega, ?_⟩
    rw [show l + 1 - L (S j) = l - L (S j) + 1 by omega, Nat.pow_succ, ← Nat.mul_assoc]
    omega
  · intro m hm1 hm2 hm3 hm4
    refine h4 m hm1 (by omega) ?_ hm4
    by_cases e : m = l
    · subst e; exact Or.inr hm4
    · exact Or.inl (by omega)
theorem GP_k {C S : Nat → Nat} {l w : Nat} (hw : ps C (l + 1) ≤ w) (hS : ∀ i j, j < i → i < w → S j ≠ S i) (hkr : kr C (l + 1) ≤ 2 ^ (l + 1)) {L K : Nat → Nat} (h : GP C S (l + 1) 0 (ps C l) (2 * kr C l) L K) : ∀ k, k ≤ C (l + 1) → GP C S (l + 1) k (ps C l + k) (2 * kr C l + k) (gvL S (l + 1) (ps C l) k L) (gvK S (ps C l) (2 * kr C l) k K) := by
  have e1 : ps C (l + 1) = ps C l + C (l + 1) := rfl
  have e2 : kr C (l + 1) = 2 * kr C l + C (l + 1) := rfl
  intro k
  induction k with
  | zero => intro _; exact h
  | succ k ih =>
    intro hk
    exact GP_word (i := ps C l + k) (cur := 2 * kr C l + k) (ih (by omega)) (by omega) (fun j hj => hS (ps C l + k) j hj (by omega)) (by omega) (by omega)
theorem GP_all {C S : Nat → Nat} {w : Nat} (hw : ps C 16 ≤ w) (hS : ∀ i j, j < i → i < w → S j ≠ S i) (hkr : ∀ l, l ≤ 16 → kr C l ≤ 2 ^ l) : ∀ l, l < 16 → GP C S (l + 1) 0 (ps C l) (2 * kr C l) (aL C S l) (aK C S l) := by
  intro l
  induction l with
  | zero =>
    intro _
    refine ⟨fun j hj => absurd hj (Nat.not_lt_zero _), fun s hs => absurd hs (Nat.lt_irrefl 0), fun j j' _ hj => absurd hj (Nat.not_lt_zero _), ?_⟩
    intro m h1 h2 h3 _
    rcases h3 with h3 | h3 <;> omega
  | succ l ih =>
    intro hl
    have q := GP_k (Nat.le_trans (ps_mono C 16 (by omega)) hw) hS (hkr (l + 1) (by omega)) (ih (by omega)) (C (l + 1)) (Nat.le_refl _)
    exact GP_level q
theorem TW_of {C S : Nat → Nat} {w : Nat} (hw : ps C 16 = w) (hw2 : w ≤ 256) (hS : ∀ i j, j < i → i < w → S j ≠ S i) (hS2 : ∀ i, i < w → S i < 256) (hkr : ∀ l, l ≤ 16 → kr C l ≤ 2 ^ l) : TW w C S (aL C S 16) (aK C S 16) := by
  have q := GP_k (l := 15) (w := w) (Nat.le_of_eq hw) hS (hkr 16 (by omega)) (GP_all (by omega) hS hkr 15 (by omega)) (C 16) (Nat.le_refl _)
  have q' : GP C S 16 (C 16) w (kr C 16) (aL C S 16) (aK C S 16) := by
    rw [← hw]; exact q
  obtain ⟨h1, h2, h3, h4⟩ := q'
  refine ⟨?_, hS2, ?_, fun s _ => h2 s, fun i hi => (h1 i hi).1, h3, ?_⟩
  · intro l hl1 hl2
    have a1 : ps C (l - 1 + 1) ≤ ps C 16 := ps_mono C 16 (by omega)
    have a2 : ps C (l - 1 + 1) = ps C (l - 1) + C (l - 1 + 1) := rfl
    rw [show l - 1 + 1 = l by omega] at a1 a2
    omega
  · intro s _
    by_cases e : 0 < aL C S 16 s
    · obtain ⟨_, _, j, hj, rfl⟩ := h2 s e
      exact (h1 j hj).2.1
    · omega
  · intro l hl1 hl2 hl3
    obtain ⟨j, hj, e⟩ := h4 l hl1 hl2 (by by_cases z : l = 16
                                          · subst z; exact Or.inr hl3
                                          · exact Or.inl (by omega)) hl3
    exact ⟨S j, hS2 j hj, e⟩
/-- codes are told where there is a length -/
def Kd (f : Nat → Int32) (L K : Nat → Nat) : Prop := ∀ s, s < 256 → 0 < L s → f s = nI (K s)
theorem Kd_up {f : Nat → Int32} {L K : Nat → Nat} {s l c : Nat} {x : Int32} (h : Kd f L K) (hx : x = nI c) : Kd (upd f s x) (up L s l) (up K s c) := by
  intro t ht hl
  by_cases e : t = s
  · subst e; rw [pk_us, up_s]; exact hx
  · rw [up_n e] at hl
    rw [pk_un e, up_n e]
    exact h t ht hl
theorem become_ok {C S : Nat → Nat} {w n0 : Nat} {p0 p1 tl tc ty tk : Nat → Int32} (tz : Int32) (hn0 : 16 < n0) (hn1 : n0 < 1000) (hw : ps C 16 = w) (hw2 : w ≤ 256) (hS2 : ∀ i, i < w → S i < 256) (hC : ∀ l, 1 ≤ l → l ≤ 16 → p0 l = nI (C l)) (hp1 : ∀ i, i < w → p1 i = nI (S i)) : Ok (fun r => r.1 = nI w ∧ Ar r.2.1 (aL C S 16) 256 ∧ (∀ l, 1 ≤ l → l ≤ 16 → r.2.2.1 l = nI (C l)) ∧ (∀ i, i < w → r.2.2.2.1 i = nI (S i)) ∧ Kd r.2.2.2.2 (aL C S 16) (aK C S 16)) (f_FT_become tz tl n0 p0 tc 256 p1 ty tk) := by
  unfold f_FT_become
  apply Ok_bd1 _ (fill_ok (n := 256) (by omega) tl 0)
  intro o1 ho1
  apply Ok_Lp7 (fun u x5 x6 x7 x8 x9 x10 x11 => ∃ l, l ≤ 16 ∧ u = 16 - l ∧ x5 = nI (kr C l) ∧ x6 = nI (l + 1) ∧ Kd x7 (aL C S l) (aK C S l) ∧ (∀ m, 1 ≤ m → m ≤ l → x8 m = nI (C m)) ∧ Ar x9 (aL C S l) 256 ∧ x10 = nI (ps C l) ∧ (∀ i, i < ps C l → x11 i = nI (S i))) 16 ⟨0, by omega, rfl, rfl, rfl, fun s _ hs => absurd hs (Nat.lt_irrefl 0), fun m h1 h2 => by omega, ho1, rfl, fun i hi => absurd hi (Nat.not_lt_zero _)⟩ (by omega)
  rintro u x5 x6 x7 x8 x9 x10 x11 ⟨l, hl, rfl, rfl, rfl, hk, hc, hL, rfl, hs⟩ again ih
  apply Ok_lt 16 (l + 1)
  · intro h
    have : l = 16 := by omega
    subst this
    rw [hw] at hs ⊢
    exact Ok_ret ⟨rfl, hL, hc, hs, hk⟩
  · intro h
    have hpl : ps C (l + 1) ≤ ps C 16 := ps_mono C 16 (by omega)
    have hpe : ps C (l + 1) = ps C l + C (l + 1) := rfl
    apply Ok_rd (l + 1)
    rw [hC (l + 1) (by omega) (by omega)]
    apply Ok_wr (l + 1)
    have e2 : (2 : Int32) * nI (kr C l) = nI (2 * kr C l) := pk_mul 2 _
    rw [e2]
    apply Ok_Lp6 (fun u x19 x20 x21 x22 x23 x24 => ∃ k, k ≤ C (l + 1) ∧ u = C (l + 1) - k ∧ x19 = nI (2 * kr C l + k) ∧ x20 = nI k ∧ Kd x21 (gvL S (l + 1) (ps C l) k (aL C S l)) (gvK S (ps C l) (2 * kr C l) k (aK C S l)) ∧ Ar x22 (gvL S (l + 1) (ps C l) k (aL C S l)) 256 ∧ x23 = nI (ps C l + k) ∧ (∀ i, i < ps C l + k → x24 i = nI (S i))) (C (l + 1)) ⟨0, by omega, rfl, rfl, rfl, hk, hL, rfl, hs⟩ (by omega)
    rintro u x19 x20 x21 x22 x23 x24 ⟨k, hkk, rfl, rfl, rfl, hk2, hL2, rfl, hs2⟩ again2 ih2
    apply Ok_rd (l + 1)
    rw [pk_us]
    apply Ok_le (C (l + 1)) k
    · intro h2
      have : k = C (l + 1) := by omega
      subst this
      refine ih (16 - (l + 1)) _ _ _ _ _ _ _ (by omega) ⟨l + 1, by omega, rfl, rfl, nI_1 _, hk2, ?_, hL2, rfl, hs2⟩
      intro m h3 h4
      by_cases e : m = l + 1
      · subst e; rw [pk_us]
      · rw [pk_un e]; exact hc m h3 (by omega)
    · intro h2
      apply Ok_le 256 (ps C l + k)
      · intro h3; omega
      · intro h3
        apply Ok_rd (ps C l + k)
        rw [hp1 _ (by omega)]
        have hS3 := hS2 (ps C l + k) (by omega)
        unfold f_FT_addWord
        rw [wr_nI (by omega) (by omega), wr_nI hS3 (by omega), wr_nI hS3 (by omega), bd4_eq rfl]
        refine ih2 (C (l + 1) - (k + 1)) _ _ _ _ _ _ (by omega) ⟨k + 1, by omega, rfl, nI_1 _, nI_1 _, Kd_up hk2 rfl, Ar_up hL2, nI_1 _, ?_⟩
        intro i hi
        by_cases e : i = ps C l + k
        · subst e; rw [pk_us]
        · rw [pk_un e]; exact hs2 i (by omega)
theorem give_ok {C S : Nat → Nat} {w : Nat} {kc ky ml mk : Nat → Int32} (t d wd o z p : Int32) (hw : ps C 16 = w) (hw2 : w ≤ 256) (hS2 : ∀ i, i < w → S i < 256) (hC : ∀ l, 1 ≤ l → l ≤ 16 → kc l = nI (C l)) (hp1 : ∀ i, i < w → ky i = nI (S i)) : Ok (fun r => Ar r.1 (aL C S 16) 256 ∧ Kd r.2 (aL C S 16) (aK C S 16)) (f_MM_giveWords t d wd o z p kc ky ml mk) := by
  unfold f_MM_giveWords
  apply Ok_Lp3 (fun u x3 x4 x5 => ∃ j, j ≤ 256 ∧ u = 256 - j ∧ x3 = nI j ∧ ∀ i, i < j → x5 i = 0) 256 ⟨0, by omega, rfl, rfl, fun i hi => by omega⟩ (by omega)
  rintro u x3 x4 x5 ⟨j, hj, rfl, rfl, hz⟩ again ih
  apply Ok_le 256 j
  · intro h
    have : j = 256 := by omega
    subst this
    apply Ok_Lp5 (fun u x9 x10 x11 x12 x13 => ∃ l, l ≤ 16 ∧ u = 16 - l ∧ x9 = nI (kr C l) ∧ x10 = nI (ps C l) ∧ x11 = nI (l + 1) ∧ Kd x12 (aL C S l) (aK C S l) ∧ Ar x13 (aL C S l) 256) 16 ⟨0, by omega, rfl, rfl, rfl, rfl, fun s _ hs => absurd hs (Nat.lt_irrefl 0), hz⟩ (by omega)
    rintro u x9 x10 x11 x12 x13 ⟨l, hl, rfl, rfl, rfl, rfl, hk, hL⟩ again1 ih1
    apply Ok_lt 16 (l + 1)
    · intro h
      have : l = 16 := by omega
      subst this
      exact Ok_ret ⟨hL, hk⟩
    · intro h
      have hpl : ps C (l + 1) ≤ ps C 16 := ps_mono C 16 (by omega)
      have hpe : ps C (l + 1) = ps C l + C (l + 1) := rfl
      have e2 : nI (kr C l) * (2 : Int32) = nI (2 * kr C l) := by
        show nI (kr C l) * nI 2 = _
        rw [pk_mul, Nat.mul_comm]
      rw [e2]
      apply Ok_Lp5 (fun u x17 x18 x19 x20 x21 => ∃ k, k ≤ C (l + 1) ∧ u = C (l + 1) - k ∧ x17 = nI (2 * kr C l + k) ∧ x18 = nI (ps C l + k) ∧ x19 = nI k ∧ Kd x20 (gvL S (l + 1) (ps C l) k (aL C S l)) (gvK S (ps C l) (2 * kr C l) k (aK C S l)) ∧ Ar x21 (gvL S (l + 1) (ps C l) k (aL C S l)) 256) (C (l + 1)) ⟨0, by omega, rfl, rfl, rfl, rfl, hk, hL⟩ (by omega)
      rintro u x17 x18 x19 x20 x21 ⟨k, hkk, rfl, rfl, rfl, rfl, hk2, hL2⟩ again2 ih2
      apply Ok_rd (l + 1)
      rw [hC (l + 1) (by omega) (by omega)]
      apply Ok_le (C (l + 1)) k
      · intro h2
        have : k = C (l + 1) := by omega
        subst this
        exact ih1 (16 - (l + 1)) _ _ _ _ _ (by omega) ⟨l + 1, by omega, rfl, rfl, rfl, nI_1 _, hk2, hL2⟩
      · intro h2
        have hS3 := hS2 (ps C l + k) (by omega)
        apply Ok_rd (ps C l + k)
        rw [hp1 _ (by omega)]
        apply Ok_wr (S (ps C l + k))
        apply Ok_rd (ps C l + k)
        rw [hp1 _ (by omega)]
        apply Ok_wr (S (ps C l + k))
        exact ih2 (C (l + 1) - (k + 1)) _ _ _ _ _ (by omega) ⟨k + 1, by omega, rfl, nI_1 _, nI_1 _, nI_1 _, Kd_up hk2 rfl, Ar_up hL2⟩
  · intro h
    apply Ok_wr j
    apply Ok_wr j
    refine ih (256 - (j + 1)) _ _ _ (by omega) ⟨j + 1, by omega, rfl, nI_1 _, ?_⟩
    intro i hi
    by_cases e : i = j
    · subst e; rw [pk_us]
    · rw [pk_un e]; exact hz i (by omega)
