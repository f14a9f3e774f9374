theorem p_raw {rz rp : Int32} {rc : Nat → Int32} {mz mp : Int32} {mr : Nat → Int32} (o : Nat → Int64) (a b : Int32) (h : RI rz rp rc mz mp mr) : ∃ r rz' rc' o' v mz' mr', f_LL_raw rz rp rc 1 o a b = some (r, rz', rc', o') ∧ (∀ t d w x, f_MM_raw t d w x mz mp mr a b = some (v, r, mz', mr')) ∧ RI rz' rp rc' mz' mp mr' ∧ (r = 0 → o' 0 = v.toInt64) := by
  have d1 : ¬ (1 : Int32) ≤ 0 := by decide
  have d2 : ¬ (2 : Int32) ≤ 0 := by decide
  have d3 : (0 : Int32) ≤ 0 := by decide
  obtain ⟨z, p, B, rfl, rfl, rfl, rfl, hp, hz, h1, h2⟩ := h
  by_cases h3 : b < 0
  · refine ⟨1, nI z, rc, o, 0, nI z, mr, ?_, fun t d w x => by unfold f_MM_raw; rw [if_pos h3, if_neg d1], ⟨z, p, B, rfl, rfl, rfl, rfl, hp, hz, h1, h2⟩, fun z => absurd z (by decide)⟩
    have ec : f_FF_raw (nI z) (nI p) rc a b = some (.inl 1) := by unfold f_FF_raw f_FF_isBitNumber; simp only [if_pos h3]; rfl
    unfold f_LL_raw
    rw [bx3_thr ec, if_pos rfl]
  by_cases h4 : (16 : Int32) < b
  · have h4' : ¬ b ≤ 16 := by rw [Int32.le_iff_toInt_le]; rw [Int32.lt_iff_toInt_lt] at h4; omega
    refine ⟨1, nI z, rc, o, 0, nI z, mr, ?_, fun t d w x => by unfold f_MM_raw; rw [if_neg h3, if_neg h4', if_neg d1], ⟨z, p, B, rfl, rfl, rfl, rfl, hp, hz, h1, h2⟩, fun z => absurd z (by decide)⟩
    have ec : f_FF_raw (nI z) (nI p) rc a b = some (.inl 1) := by unfold f_FF_raw f_FF_isBitNumber; simp only [if_neg h3, if_pos h4]; rfl
    unfold f_LL_raw
    rw [bx3_thr ec, if_pos rfl]
  obtain ⟨n, _, hn, rfl⟩ := ix_of (lo := 0) (hi := 16) h3 h4 (by omega) (by omega)
  have h4' : nI n ≤ 16 := nI_le (b := 16) hn (by omega)
  have es : (65536 : Int32) - nI z = nI (65536 - z) := pk_sub (a := 65536) hz
  have eb : f_FF_isBitNumber (nI n) = some 1 := by unfold f_FF_isBitNumber; rw [if_neg h3, if_neg h4]
  by_cases h5 : z + n ≤ 65536
  · have h6 : ¬ (65536 : Int32) - nI z < nI n := by rw [es, nI_ltI (by omega) (by omega)]; omega
    have h7 : nI z + nI n ≤ 65536 := by rw [nI_add]; exact nI_le (b := 65536) h5 (by omega)
    obtain ⟨⟨r1, r2⟩, e1, g1, g2⟩ := append_ok (v := a) (nI p) hn h5 h1
    simp only at g1 g2
    subst g1
    have hm : ∀ t d w x, ∃ mr', f_MM_lay t d w x (nI z) (nI p) mr a (nI n) = some (nI (z + n), mr') ∧ ∀ i, i < z + n → mr' i = nI (BB B z n a i).toNat := by
      intro t d w x
      obtain ⟨⟨s1, s2⟩, e2, k1, k2⟩ := lay_ok (v := a) t d w x (nI p) hn h5 h2
      simp only at k1 k2
      subst k1
      exact ⟨s2, e2, k2⟩
    obtain ⟨mr', e2, k2⟩ := hm 0 0 0 0
    refine ⟨0, nI (z + n), r2, vp_updL o 0 (nI (z + n)).toInt64, nI (z + n), nI (z + n), mr', ?_, ?_, ⟨z + n, p, BB B z n a, rfl, rfl, rfl, rfl, by omega, h5, g2, k2⟩, fun _ => pk_uLs⟩
    · have ec : f_FF_raw (nI z) (nI p) rc a (nI n) = some (.inr (nI (z + n), nI (z + n), r2)) := by
        unfold f_FF_raw f_FR_hasRoom
        rw [bd1_eq eb, if_neg ne10, if_neg h6, bd1_eq rfl, if_neg ne10, bd2_eq e1]
      unfold f_LL_raw
      rw [bx3_eq ec]
      exact wrL_nI (j := 0) (by omega) (by omega)
    · intro t d w x
      unfold f_MM_raw
      rw [if_neg h3, if_pos h4', if_pos h7, if_pos d3]
      exact bd2_eq e2
  · have h6 : (65536 : Int32) - nI z < nI n := by rw [es, nI_ltI (by omega) (by omega)]; omega
    have h7 : ¬ nI z + nI n ≤ 65536 := by rw [nI_add]; exact nI_ge (a := 65536) (by omega) (by omega)
    refine ⟨2, nI z, rc, o, 0, nI z, mr, ?_, fun t d w x => by unfold f_MM_raw; rw [if_neg h3, if_pos h4', if_neg h7, if_neg d2], ⟨z, p, B, rfl, rfl, rfl, rfl, hp, hz, h1, h2⟩, fun z => absurd z (by decide)⟩
    have ec : f_FF_raw (nI z) (nI p) rc a (nI n) = some (.inl 2) := by
      unfold f_FF_raw f_FR_hasRoom
      rw [bd1_eq eb, if_neg ne10, if_pos h6, bd1_eq rfl, if_pos rfl]
    unfold f_LL_raw
    rw [bx3_thr ec, if_neg (by omega)]
theorem p_put {rz rp : Int32} {rc : Nat → Int32} {mz mp : Int32} {mr : Nat → Int32} {tz : Int32} {tc ty tl tk : Nat → Int32} {mw : Int32} {mc my ml mk : Nat → Int32} (o : Nat → Int64) (a : Int32) (h : RI rz rp rc mz mp mr) (hT : TI tz tc ty tl tk mw mc my ml mk) : ∃ r rz' rc' o' v mz' mr', f_LL_put tz tl rz rp tk rc 1 o a = some (r, rz', rc', o') ∧ (∀ t d x, f_MM_put t d mw x mz mp ml mk mr a = some (v, r, mz', mr')) ∧ RI rz' rp rc' mz' mp mr' ∧ (r = 0 → o' 0 = v.toInt64) := by
  have d1 : ¬ (1 : Int32) ≤ 0 := by decide
  have d2 : ¬ (2 : Int32) ≤ 0 := by decide
  have d3 : (0 : Int32) ≤ 0 := by decide
  have hh := h
  obtain ⟨z, p, B, rfl, rfl, rfl, rfl, hp, hz, h1, h2⟩ := h
  obtain ⟨w, C, S, L, K, rfl, rfl, hw, hC, hS, hL, hK, hW⟩ := hT
  rcases sym_F a with ⟨e1, e2, _⟩ | ⟨j, hj, rfl, e1, e2⟩
  · refine ⟨1, nI z, rc, o, 0, nI z, mr, ?_, fun t d x => by unfold f_MM_put; rw [bd1_eq e2, if_pos rfl, if_pos rfl, if_neg d1], hh, fun z => absurd z (by decide)⟩
    have ec : f_FF_put (nI w) tl (nI z) (nI p) tk rc a = some (.inl 1) := by unfold f_FF_put f_FT_hasWord; rw [bd1_eq e1, if_pos rfl, bd1_eq rfl, if_pos rfl]
    unfold f_LL_put
    rw [bx3_thr ec, if_pos rfl]
  have hn := hW.2.2.1 j hj
  by_cases zl : L j = 0
  · have zl' : nI (L j) ≤ 0 := by rw [zl]; decide
    refine ⟨1, nI z, rc, o, 0, nI z, mr, ?_, fun t d x => by unfold f_MM_put; rw [bd1_eq e2, if_neg ne10, bd1_eq e2, if_neg ne10, rd_nI hj (by omega), (hL j hj).2, if_pos zl', if_pos rfl, if_neg d1], hh, fun z => absurd z (by decide)⟩
    have ec : f_FF_put (nI w) tl (nI z) (nI p) tk rc (nI j) = some (.inl 1) := by unfold f_FF_put f_FT_hasWord; rw [bd1_eq e1, if_neg ne10, rd_nI hj (by omega), (hL j hj).1, if_pos zl', bd1_eq rfl, if_pos rfl]
    unfold f_LL_put
    rw [bx3_thr ec, if_pos rfl]
  have zl' : ¬ nI (L j) ≤ 0 := nI_nle (by omega) (by omega)
  have es : (65536 : Int32) - nI z = nI (65536 - z) := pk_sub (a := 65536) hz
  by_cases h5 : z + L j ≤ 65536
  · have h6 : ¬ (65536 : Int32) - nI z < nI (L j) := by rw [es, nI_ltI (by omega) (by omega)]; omega
    have h7 : nI z + nI (L j) ≤ 65536 := by rw [nI_add]; exact nI_le (b := 65536) h5 (by omega)
    obtain ⟨⟨r1, r2⟩, q1, g1, g2⟩ := append_ok (v := nI (K j)) (nI p) hn h5 h1
    simp only at g1 g2
    subst g1
    obtain ⟨⟨s1, mr'⟩, q2, k1, k2⟩ := lay_ok (v := nI (K j)) 0 0 0 0 (nI p) hn h5 h2
    simp only at k1 k2
    subst k1
    refine ⟨0, nI (z + L j), r2, vp_updL o 0 (nI (z + L j)).toInt64, nI (z + L j), nI (z + L j), mr', ?_, ?_, ⟨z + L j, p, BB B z (L j) (nI (K j)), rfl, rfl, rfl, rfl, by omega, h5, g2, k2⟩, fun _ => pk_uLs⟩
    · have ec : f_FF_put (nI w) tl (nI z) (nI p) tk rc (nI j) = some (.inr (nI (z + L j), nI (z + L j), r2)) := by
        unfold f_FF_put f_FR_hasRoom f_FT_hasWord
        rw [bd1_eq e1, if_neg ne10, rd_nI hj (by omega), (hL j hj).1, if_neg zl', bd1_eq rfl, if_neg ne10, rd_nI hj (by omega), (hL j hj).1, if_neg h6, bd1_eq rfl, if_neg ne10, rd_nI hj (by omega), rd_nI hj (by omega), (hL j hj).1, (hK j hj (by omega)).1, bd2_eq q1]
      unfold f_LL_put
      rw [bx3_eq ec]
      exact wrL_nI (j := 0) (by omega) (by omega)
    · intro t d x
      unfold f_MM_put
      rw [bd1_eq e2, if_neg ne10, bd1_eq e2, if_neg ne10, rd_nI hj (by omega), (hL j hj).2, if_neg zl', if_neg ne10, rd_nI hj (by omega), (hL j hj).2, if_pos h7, if_pos d3, rd_nI hj (by omega), rd_nI hj (by omega), (hL j hj).2, (hK j hj (by omega)).2]
      exact bd2_eq q2
  · have h6 : (65536 : Int32) - nI z < nI (L j) := by rw [es, nI_ltI (by omega) (by omega)]; omega
    have h7 : ¬ nI z + nI (L j) ≤ 65536 := by rw [nI_add]; exact nI_ge (a := 65536) (by omega) (by omega)
    refine ⟨2, nI z, rc, o, 0, nI z, mr, ?_, fun t d x => by unfold f_MM_put; rw [bd1_eq e2, if_neg ne10, bd1_eq e2, if_neg ne10, rd_nI hj (by omega), (hL j hj).2, if_neg zl', if_neg ne10, rd_nI hj (by omega), (hL j hj).2, if_neg h7, if_neg d2], hh, fun z => absurd z (by decide)⟩
    have ec : f_FF_put (nI w) tl (nI z) (nI p) tk rc (nI j) = some (.inl 2) := by
      unfold f_FF_put f_FR_hasRoom f_FT_hasWord
      rw [bd1_eq e1, if_neg ne10, rd_nI hj (by omega), (hL j hj).1, if_neg zl', bd1_eq rfl, if_neg ne10, rd_nI hj (by omega), (hL j hj).1, if_pos h6, bd1_eq rfl, if_pos rfl]
    unfold f_LL_put
    rw [bx3_thr ec, if_neg (by omega)]
/-! look -/
def gl (m : Nat → Nat) : Nat → Nat
  | 0 => 0
  | k + 1 => if 0 < m (k + 1) then k + 1 else gl m k
theorem gl_le (m : Nat → Nat) : ∀ k, gl m k ≤ k := by
  intro k
  induction k with
  | zero => exact Nat.le_refl _
  | succ k ih =>
    show (if 0 < m (k + 1) then k + 1 else gl m k) ≤ k + 1
    by_cases h : 0 < m (k + 1)
    · rw [if_pos h]; omega
    · rw [if_neg h]; omega
theorem gl_above (m : Nat → Nat) : ∀ k j, gl m k < j → j ≤ k → m j = 0 := by
  intro k
  induction k with
  | zero => intro j h1 h2; omega
  | succ k ih =>
    intro j h1 h2
    have e : gl m (k + 1) = if 0 < m (k + 1) then k + 1 else gl m k := rfl
    by_cases h : 0 < m (k + 1)
    · rw [e, if_pos h] at h1; omega
    · rw [e, if_neg h] at h1
      by_cases g : j = k + 1
      · subst g; omega
      · exact ih j h1 (by omega)
theorem gl_pos (m : Nat → Nat) : ∀ k, 0 < gl m k → 0 < m (gl m k) := by
  intro k
  induction k with
  | zero => intro h; exact absurd h (Nat.lt_irrefl 0)
  | succ k ih =>
    intro h1
    have e : gl m (k + 1) = if 0 < m (k + 1) then k + 1 else gl m k := rfl
    by_cases h : 0 < m (k + 1)
    · rw [e, if_pos h]; exact h
    · rw [e, if_neg h] at h1 ⊢
      exact ih h1
theorem gl_ok {n f : Nat} {c : Nat → Int32} {C : Nat → Nat} (hn : n < 1000) (hf : f < n) (hC : ∀ l, 1 ≤ l → l ≤ f → c l = nI (C l) ∧ C l < 2 ^ 31) : Ok (fun r => r = nI (gl C f)) (f_FF_greatestLength n c (nI f)) := by
  unfold f_FF_greatestLength
  have e0 : (if ((Int32.ofNat n) - 1) < nI f then ((Int32.ofNat n) - 1) else nI f) = nI f := by
    obtain ⟨m, rfl⟩ : ∃ m, n = m + 1 := ⟨n - 1, by omega⟩
    have e1 : Int32.ofNat (m + 1) - 1 = nI m := nI_pred m
    rw [e1, if_neg (nI_nlt (by omega) (by omega))]
  rw [e0]
  apply Ok_Lp1 (fun u x => ∃ j, x = nI j ∧ u = j ∧ j ≤ f ∧ gl C f = gl C j) f ⟨f, rfl, rfl, by omega, rfl⟩ (by omega)
  rintro j x ⟨_, rfl, rfl, hj, hg⟩ again ih
  apply Ok_le j 0
  · intro h
    have : j = 0 := by omega
    subst this
    rw [hg]
    exact Ok_ret rfl
  · intro h
    obtain ⟨k, rfl⟩ : ∃ k, j = k + 1 := ⟨j - 1, by omega⟩
    have hc := hC (k + 1) (by omega) hj
    apply Ok_rd (k + 1)
    rw [hc.1]
    have e : gl C (k + 1) = if 0 < C (k + 1) then k + 1 else gl C k := rfl
    apply Ok_le (C (k + 1)) 0 (ha := hc.2)
    · intro h1
      refine ih k _ (by omega) ⟨k, pk_m1 k, rfl, by omega, ?_⟩
      rw [hg, e, if_neg (by omega)]
    · intro h1
      rw [hg, e, if_pos h1]
      exact Ok_ret rfl
def kd (N : Nat → Nat) (n : Nat) : Nat := sm (fun s => if 0 < N s then 1 else 0) n
theorem kd_le (N : Nat → Nat) : ∀ n, kd N n ≤ n := by
  intro n
  induction n with
  | zero => exact Nat.le_refl _
  | succ n ih =>
    show kd N n + (if 0 < N n then 1 else 0) ≤ n + 1
    by_cases h : 0 < N n
    · rw [if_pos h]; omega
    · rw [if_neg h]; omega
theorem kinds_ok {tn : Nat → Int32} {N : Nat → Nat} (tt : Int32) (hN : ∀ s, s < 256 → tn s = nI (N s) ∧ N s < 2 ^ 31) : Ok (fun r => r = nI (kd N 256)) (f_FY_kinds tt tn) := by
  unfold f_FY_kinds
  apply Ok_Lp2 (fun u x3 x4 => ∃ j, x4 = nI j ∧ u = 256 - j ∧ j ≤ 256 ∧ x3 = nI (kd N j)) 256 ⟨0, rfl, rfl, by omega, rfl⟩ (by omega)
  rintro u x3 x4 ⟨j, rfl, rfl, hj, rfl⟩ again ih
  apply Ok_le 256 j
  · intro h
    have : j = 256 := by omega
    subst this
    exact Ok_ret rfl
  · intro h
    apply Ok_rd j
    have hc := hN j h
    rw [hc.1]
    have e : kd N (j + 1) = kd N j + (if 0 < N j then 1 else 0) := rfl
    apply Ok_le (N j) 0 (ha := hc.2)
    · intro h1
      exact ih (256 - (j + 1)) _ _ (by omega) ⟨j + 1, nI_1 j, rfl, by omega, by rw [e, if_neg (by omega)]; rfl⟩
    · intro h1
      exact ih (256 - (j + 1)) _ _ (by omega) ⟨j + 1, nI_1 j, rfl, by omega, by rw [e, if_pos h1]; exact nI_1 _⟩
def mx (L : Nat → Nat) : Nat → Nat
  | 0 => 0
  | n + 1 => if L n ≤ mx L n then mx L n else L n
theorem mx_ge (L : Nat → Nat) : ∀ n s, s < n → L s ≤ mx L n := by
  intro n
  induction n with
  | zero => intro s h; omega
  | succ n ih =>
    intro s h
    have e : mx L (n + 1) = if L n ≤ mx L n then mx L n else L n := rfl
    by_cases g : L n ≤ mx L n
    · rw [e, if_pos g]
      by_cases k : s = n
      · subst k; exact g
      · exact ih s (by omega)
    · rw [e, if_neg g]
      by_cases k : s = n
      · subst k; exact Nat.le_refl _
      · have := ih s (by omega); omega
theorem mx_of (L : Nat → Nat) : ∀ n, mx L n = 0 ∨ ∃ s, s < n ∧ mx L n = L s := by
  intro n
  induction n with
  | zero => exact Or.inl rfl
  | succ n ih =>
    have e : mx L (n + 1) = if L n ≤ mx L n then mx L n else L n := rfl
    by_cases g : L n ≤ mx L n
    · rw [e, if_pos g]
      rcases ih with h | ⟨s, h1, h2⟩
      · exact Or.inl h
      · exact Or.inr ⟨s, by omega, h2⟩
    · rw [e, if_neg g]; exact Or.inr ⟨n, by omega, rfl⟩
theorem p_look {ds : Int32} {dc dy : Nat → Int32} {mn : Int32} {md mdy : Nat → Int32} {tt : Int32} {tn : Nat → Int32} {mt : Int32} {mo : Nat → Int32} {rz rp : Int32} {rc : Nat → Int32} {mz mp : Int32} {mr : Nat → Int32} {tz : Int32} {tc ty tl tk : Nat → Int32} {mw : Int32} {mc my ml mk : Nat → Int32} (a : Int32) (hD : DI ds dc dy mn md mdy) (hY : YI tt tn mt mo) (hR : RI rz rp rc mz mp mr) (hT : TI tz tc ty tl tk mw mc my ml mk) : ∃ r, f_FF_look tz ds rz rp tt tn tc a = some r ∧ (∀ t, f_MM_look t mn mw mt mz mp mo ml a = some (r, 0)) := by
  obtain ⟨n, CD, SD, rfl, rfl, q3, q4, q5⟩ := hD
  obtain ⟨T, N, rfl, rfl, hTT, hN, hs⟩ := hY
  obtain ⟨z, p, B, rfl, rfl, rfl, rfl, hp, hz, h1, h2⟩ := hR
  obtain ⟨w, C, S, L, K, rfl, rfl, hw, hC, hS, hL, hK, hW⟩ := hT
  have hNb : ∀ s, s < 256 → N s < 2 ^ 31 := fun s hs' => by
    have := sm_le (f := N) 256 hs'
    omega
  obtain ⟨r5, e5, rfl⟩ := kinds_ok (nI T) (fun s hs' => ⟨(hN s hs').1, hNb s hs'⟩)
  obtain ⟨r6, e6, rfl⟩ := gl_ok (n := 17) (f := 16) (c := tc) (C := C) (by omega) (by omega) (fun l hl1 hl2 => ⟨(hC l hl1 hl2).1, by have := hW.1 l hl1 hl2; omega⟩)
  have hm : gl C 16 = mx L 256 := by
    have a1 := gl_le C 16
    apply Nat.le_antisymm
    · by_cases g : gl C 16 = 0
      · omega
      · obtain ⟨s, hs', e⟩ := hW.2.2.2.2.2.2 (gl C 16) (by omega) a1 (gl_pos C 16 (by omega))
        rw [← e]; exact mx_ge L 256 s hs'
    · rcases mx_of L 256 with g | ⟨s, hs', e⟩
      · omega
      · rw [e]
        apply Nat.le_of_not_lt
        intro g
        have b1 := gl_above C 16 (L s) g (hW.2.2.1 s hs')
        have b2 := (hW.2.2.2.1 s hs' (by omega)).2.1
        omega
  have loop : ∀ t, Ok (fun r => r = (if a = 0 then (nI w, (0 : Int32)) else if a = 1 then (nI n, 0) else if a = 2 then (nI z, 0) else if a = 3 then (nI p, 0) else if a = 4 then (nI T, 0) else if a = 5 then (nI (kd N 256), 0) else if a = 6 then (nI (mx L 256), 0) else (-1, 0))) (f_MM_look t (nI n) (nI w) (nI T) (nI z) (nI p) mo ml a) := by
    intro t
    unfold f_MM_look
    apply Ok_Lp3 (fun u x3 x4 x5 => ∃ j, x5 = nI j ∧ u = 256 - j ∧ j ≤ 256 ∧ x3 = nI (kd N j) ∧ x4 = nI (mx L j) ∧ mx L j ≤ 16) 256 ⟨0, rfl, rfl, by omega, rfl, rfl, Nat.zero_le _⟩ (by omega)
    rintro u x3 x4 x5 ⟨j, rfl, rfl, hj, rfl, rfl, hx⟩ again ih
    apply Ok_le 256 j
    · intro h
      have : j = 256 := by omega
      subst this
      refine ⟨_, ?_, rfl⟩
      by_cases c0 : a = 0
      · rw [if_pos c0, if_pos c0]
      by_cases c1 : a = 1
      · rw [if_neg c0, if_pos c1, if_neg c0, if_pos c1]
      by_cases c2 : a = 2
      · rw [if_neg c0, if_neg c1, if_pos c2, if_neg c0, if_neg c1, if_pos c2]
      by_cases c3 : a = 3
      · rw [if_neg c0, if_neg c1, if_neg c2, if_pos c3, if_neg c0, if_neg c1, if_neg c2, if_pos c3]
      by_cases c4 : a = 4
      · rw [if_neg c0, if_neg c1, if_neg c2, if_neg c3, if_pos c4, if_neg c0, if_neg c1, if_neg c2, if_neg c3, if_pos c4]
      by_cases c5 : a = 5
      · rw [if_neg c0, if_neg c1, if_neg c2, if_neg c3, if_neg c4, if_pos c5, if_neg c0, if_neg c1, if_neg c2, if_neg c3, if_neg c4, if_pos c5]
      by_cases c6 : a = 6
      · rw [if_neg c0, if_neg c1, if_neg c2, if_neg c3, if_neg c4, if_neg c5, if_pos c6, if_neg c0, if_neg c1, if_neg c2, if_neg c3, if_neg c4, if_neg c5, if_pos c6]
      · rw [if_neg c0, if_neg c1, if_neg c2, if_neg c3, if_neg c4, if_neg c5, if_neg c6, if_neg c0, if_neg c1, if_neg c2, if_neg c3, if_neg c4, if_neg c5, if_neg c6]
    · intro h
      apply Ok_rd j
      rw [(hN j h).2]
      have e : kd N (j + 1) = kd N j + (if 0 < N j then 1 else 0) := rfl
      have e' : mx L (j + 1) = if L j ≤ mx L j then mx L j else L j := rfl
      have hLj := hW.2.2.1 j h
      have hnb := hNb j h
      have e3 : nI (kd N j) + 0 = nI (kd N j) := Int32.add_zero _
      apply Ok_le (N j) 0
      · intro c1
        apply Ok_rd j
        rw [(hL j h).2, e3]
        apply Ok_le (L j) (mx L j)
        · intro c2
          exact ih (256 - (j + 1)) _ _ _ (by omega) ⟨j + 1, nI_1 j, rfl, by omega, by rw [e, if_neg (by omega)]; rfl, by rw [e', if_pos c2], by rw [e', if_pos c2]; exact hx⟩
        · intro c2
          apply Ok_rd j
          rw [(hL j h).2]
          exact ih (256 - (j + 1)) _ _ _ (by omega) ⟨j + 1, nI_1 j, rfl, by omega, by rw [e, if_neg (by omega)]; rfl, by rw [e', if_neg (by omega)], by rw [e', if_neg (by omega)]; exact hLj⟩
      · intro c1
        apply Ok_rd j
        rw [(hL j h).2]
        apply Ok_le (L j) (mx L j)
        · intro c2
          exact ih (256 - (j + 1)) _ _ _ (by omega) ⟨j + 1, nI_1 j, rfl, by omega, by rw [e, if_pos c1]; exact nI_1 _, by rw [e', if_pos c2], by rw [e', if_pos c2]; exact hx⟩
        · intro c2
          apply Ok_rd j
          rw [(hL j h).2]
          exact ih (256 - (j + 1)) _ _ _ (by omega) ⟨j + 1, nI_1 j, rfl, by omega, by rw [e, if_pos c1]; exact nI_1 _, by rw [e', if_neg (by omega)], by rw [e', if_neg (by omega)]; exact hLj⟩
  refine ⟨if a = 0 then nI w else if a = 1 then nI n else if a = 2 then nI z else if a = 3 then nI p else if a = 4 then nI T else if a = 5 then nI (kd N 256) else if a = 6 then nI (mx L 256) else -1, ?_, ?_⟩
  · unfold f_FF_look
    rw [bd1_eq e5, bd1_eq (show f_FF_greatestLength 17 tc 16 = _ from e6), hm]
    repeat' split
    all_goals rfl
  · intro t
    obtain ⟨r, e, rfl⟩ := loop t
    rw [e]
    congr 1
    repeat' split
    all_goals rfl
