def s64 (f g : Nat → Int32) : Nat → Int64
  | 0 => 0
  | n + 1 => s64 f g n + (f n).toInt64 * (g n).toInt64
theorem s64_congr {f g f' g' : Nat → Int32} : ∀ n, (∀ i, i < n → f i = f' i ∧ g i = g' i) → s64 f g n = s64 f' g' n := by
  intro n
  induction n with
  | zero => intro _; rfl
  | succ n ih =>
    intro h
    show s64 f g n + (f n).toInt64 * (g n).toInt64 = s64 f' g' n + (f' n).toInt64 * (g' n).toInt64
    rw [ih (fun i hi => h i (by omega)), (h n (by omega)).1, (h n (by omega)).2]
theorem s64_0 {f g : Nat → Int32} : ∀ n, (∀ i, i < n → f i = 0) → s64 f g n = 0 := by
  intro n
  induction n with
  | zero => intro _; rfl
  | succ n ih =>
    intro h
    show s64 f g n + (f n).toInt64 * (g n).toInt64 = 0
    rw [ih (fun i hi => h i (by omega)), h n (by omega), show (0 : Int32).toInt64 = 0 by decide, Int64.zero_mul, Int64.add_zero]
theorem bitsAll_ok (kp kl : Nat → Int32) (sz : Int32) : Ok (fun r => r = s64 kp kl 256) (f_FT_bitsOfAll 256 kp sz kl) := by
  unfold f_FT_bitsOfAll
  apply Ok_Lp2 (fun u x3 x4 => ∃ j, j ≤ 256 ∧ u = 256 - j ∧ x3 = s64 kp kl j ∧ x4 = nI j) 256 ⟨0, by omega, rfl, rfl, rfl⟩ (by omega)
  rintro u x3 x4 ⟨j, hj, rfl, rfl, rfl⟩ again ih
  apply Ok_le 256 j
  · intro h
    have : j = 256 := by omega
    subst this
    exact Ok_ret rfl
  · intro h
    apply Ok_rd j
    apply Ok_rd j
    exact ih (256 - (j + 1)) _ _ (by omega) ⟨j + 1, by omega, rfl, rfl, nI_1 _⟩
def dE (N : Nat → Nat) (K p : Nat) : Nat := if 0 < w0 N p then jB (w0 N) K p else 0
/-- what stands when something has come: the depths, and the counts that they make -/
theorem dE_facts {N : Nat → Nat} {K : Nat} (h2 : 2 ≤ kd (w0 N) 257) (hK : K + 1 = kd (w0 N) 257) : (∀ p, p < 257 → 0 < w0 N p → jB (w0 N) K p = dE N K p ∧ 1 ≤ dE N K p ∧ dE N K p ≤ 256) ∧ (∀ p, p < 257 → w0 N p = 0 → dE N K p = 0) ∧ (∀ p, p < 257 → dE N K p ≤ 256) ∧ Gd (kd (w0 N) 257) 299 (mn (dE N K) 257) := by
  have hkle := kd_le (w0 N) 257
  have t7 := (TF_all (w0 N) (by omega) K (by omega)).2.2.2.2.2.2
  have f1 : ∀ p, p < 257 → 0 < w0 N p → jB (w0 N) K p = dE N K p ∧ 1 ≤ dE N K p ∧ dE N K p ≤ 256 := by
    intro p hp hw
    have e : dE N K p = jB (w0 N) K p := if_pos hw
    rw [e]
    have := t7 p
    exact ⟨rfl, jB_pos (w0 N) h2 hK hp hw, by omega⟩
  have f2 : ∀ p, p < 257 → w0 N p = 0 → dE N K p = 0 := fun p _ hw => if_neg (by omega)
  have f3 : ∀ p, p < 257 → dE N K p ≤ 256 := by
    intro p hp
    by_cases c : 0 < w0 N p
    · exact (f1 p hp c).2.2
    · rw [f2 p hp (by omega)]; omega
  refine ⟨f1, f2, f3, ?_, if_pos rfl, ?_, ?_⟩
  · intro k hk
    exact mn_hi (fun p hp => by have := f3 p hp; omega)
  · rw [mn_kr 257 (fun p hp => by have := f3 p hp; omega), ← (join_end (w0 N) h2 hK).2.2]
    apply sm_congr
    intro p hp
    by_cases c : 0 < w0 N p
    · have q := f1 p hp c
      rw [if_pos (show 0 < dE N K p by omega), if_pos c, ← q.1]
    · rw [if_neg (show ¬ 0 < dE N K p by rw [f2 p hp (by omega)]; omega), if_neg c]
  · rw [mn_sm 257 (fun p hp => by have := f3 p hp; omega)]
    apply sm_congr
    intro p hp
    by_cases c : 0 < w0 N p
    · have q := f1 p hp c
      rw [if_pos (show 0 < dE N K p by omega), if_pos c]
    · rw [if_neg (show ¬ 0 < dE N K p by rw [f2 p hp (by omega)]; omega), if_neg c]
theorem mn_pos {E : Nat → Nat} {n p : Nat} (hp : p < n) (h : 0 < E p) : 0 < mn E n (E p) := by
  unfold mn
  rw [if_neg (by omega)]
  have := sm_le (f := fun q => if E q = E p then 1 else 0) n hp
  simp only [if_true] at this
  exact this
def bC (N : Nat → Nat) (K : Nat) : Nat → Nat := drp (shA 299 (mn (dE N K) 257))
theorem find_ok {N : Nat → Nat} {K : Nat} {tn fc fw fno fdp fg fp fsy : Nat → Int32} (fgl fnd : Int32) (h2 : 2 ≤ kd (w0 N) 257) (hK : K + 1 = kd (w0 N) 257) (hN : Ar tn N 256) (hs : sm N 256 ≤ 1000000) : Ok (fun r => Ar r.2.2.1 (bC N K) 257 ∧ ∀ i, i < aC (dE N K) 299 → r.2.2.2.2.2.2.2.2 i = nI (aO (dE N K) 299 i)) (f_FB_find fgl fnd fc 256 tn fw fno fdp fg fp fsy) := by
  have hkle := kd_le (w0 N) 257
  have hsm : sm (w0 N) 257 < 2 ^ 31 := by rw [w0_sm]; omega
  obtain ⟨f1, f2, f3, fG⟩ := dE_facts h2 hK
  have hMb : ∀ k, k < 300 → mn (dE N K) 257 k ≤ 257 := fun k _ => mn_le _ _ _
  have gle := gl_le (mn (dE N K) 257) 256
  have gab := gl_above (mn (dE N K) 257) 256
  have Eg : ∀ p, p < 257 → dE N K p ≤ gl (mn (dE N K) 257) 256 := by
    intro p hp
    by_cases c : 0 < dE N K p
    · apply Nat.le_of_not_lt
      intro z
      have a1 := gab _ z (f3 p hp)
      have a2 := mn_pos hp c
      omega
    · omega
  have gz : ∀ k, gl (mn (dE N K) 257) 256 < k → k ≤ 299 → mn (dE N K) 257 k = 0 := fun k hk _ => mn_hi (fun p hp => by have := Eg p hp; omega)
  have Gg := Gd_le _ (by omega) gz fG
  have eS := shA_skip (M := mn (dE N K) 257) 299 (gl (mn (dE N K) 257) 256) (by omega) gz
  have eO := ao_skip (E := dE N K) (fun p hp => Eg p (by omega)) 299 (by omega)
  unfold f_FB_find
  apply Ok_bd1 _ (fill_ok (n := 257) (by omega) fc 0)
  intro o1 ho1
  apply Ok_bd6 _ (start_ok (N := N) (kw := fw) (kno := fno) (kd0 := fdp) (kg := fg) fgl fnd hN (fun s hs' => by have := sm_le (f := N) 256 hs'; omega))
  rintro o3 o4 o5 o6 o7 o8 ⟨e3, e4, h5, h6, h7, G, hG, hGS⟩
  simp only at e3 e4 h5 h6 h7 hG
  subst e3 e4
  apply Ok_le 2 (kd (w0 N) 257)
  · intro _
    apply Ok_bd6 _ (cjoin_ok (W0 := w0 N) (kp := fp) hK hsm hG hGS h5 h6)
    rintro o11 o12 o13 o14 o15 o16 ⟨e12, h14, h16⟩
    simp only at e12 h14 h16
    subst e12
    obtain ⟨j1, j2, _⟩ := join_end (w0 N) h2 hK
    obtain ⟨v1, v2, v3⟩ := jV_ok (w0 N) (by omega) K (by omega)
    have t3 := (TF_all (w0 N) (by omega) K (by omega)).2.2.1
    apply Ok_bd1 _ (depth_ok (W0 := w0 N) (V := jV (w0 N) K) (P := jP (w0 N) K) (K := K) (kdp := o7) (kp := o16) (kw := o14) o11 (by omega) (by omega) h7 h14 (fun p hp => by have := v2 p hp; omega) v3 (fun x hx hw => ⟨h16 x (j1 x hx hw), (t3 x (j1 x hx hw)).1, (t3 x (j1 x hx hw)).2.1, by have := (t3 x (j1 x hx hw)).2.2; omega⟩))
    rintro o18 ⟨⟨D, d0, d1, d2⟩, d3⟩
    have hD : ∀ p, p < 257 → o18 p = nI (dE N K p) ∧ dE N K p ≤ 256 := by
      intro p hp
      refine ⟨?_, f3 p hp⟩
      by_cases c : 0 < w0 N p
      · rw [d2 p (by omega) (fun _ => c), j2 D d0 d1 p hp c, (f1 p hp c).1]
      · rw [d3 p hp (by omega), f2 p hp (by omega)]; rfl
    apply Ok_bd1 _ (countL_ok (E := dE N K) (kc := o1) o11 (nI (257 + K)) hD ho1)
    intro o20 h20
    apply Ok_bd1 _ (corder_ok (E := dE N K) (M := mn (dE N K) 257) (ks := fsy) o11 (nI (257 + K)) h20 (fun l hl => by have := hMb l (by omega); omega) (fun p hp => hD p (by omega)))
    intro o22 h22
    apply Ok_bd1 _ (cshort_ok (T := kd (w0 N) 257) (M0 := mn (dE N K) 257) o11 (nI (257 + K)) hkle rfl h20 Gg)
    intro o24 h24
    apply Ok_bd1 _ (cdrop_ok (T := kd (w0 N) 257) o11 (nI (257 + K)) hkle h24 (shA_good hkle _ (by omega) _ Gg))
    intro o26 h26
    refine Ok_ret ⟨?_, ?_⟩
    · unfold bC; rw [eS]; exact h26
    · rw [eO.1, eO.2]; exact h22
  · intro c; omega
theorem bC_facts {N : Nat → Nat} {K : Nat} (h2 : 2 ≤ kd (w0 N) 257) (hK : K + 1 = kd (w0 N) 257) : ps (bC N K) 16 = aC (dE N K) 299 ∧ aC (dE N K) 299 ≤ 256 ∧ TW (aC (dE N K) 299) (bC N K) (aO (dE N K) 299) (aL (bC N K) (aO (dE N K) 299) 16) (aK (bC N K) (aO (dE N K) 299) 16) ∧ (∀ i, i < aC (dE N K) 299 → aO (dE N K) 299 i < 256) := by
  have hkle := kd_le (w0 N) 257
  obtain ⟨f1, f2, f3, fG⟩ := dE_facts h2 hK
  have G16 := shA_good hkle 299 (by omega) _ fG
  have a1 : ps (bC N K) 16 + 1 = kd (w0 N) 257 := drp_ps G16
  have a2 : aC (dE N K) 299 = kd (dE N K) 256 := aC_end _ (fun p hp => by have := f3 p (by omega); omega)
  have a3 : kd (w0 N) 257 = kd (w0 N) 256 + (if 0 < w0 N 256 then 1 else 0) := rfl
  have a4 : 0 < w0 N 256 := by unfold w0; rw [if_pos rfl]; omega
  have a5 : kd (dE N K) 256 = kd (w0 N) 256 := by
    apply sm_congr
    intro p hp
    by_cases c : 0 < w0 N p
    · have q := f1 p (by omega) c
      rw [if_pos (show 0 < dE N K p by omega), if_pos c]
    · rw [if_neg (show ¬ 0 < dE N K p by rw [f2 p (by omega) (by omega)]; omega), if_neg c]
  rw [if_pos a4] at a3
  have b1 : ps (bC N K) 16 = aC (dE N K) 299 := by omega
  have b2 : aC (dE N K) 299 ≤ 256 := by have := kd_le (dE N K) 256; omega
  obtain ⟨o1, o2⟩ := OI_all (dE N K) 299
  exact ⟨b1, b2, TW_of b1 b2 o2 (fun i hi => (o1 i hi).1) (drp_kr G16), fun i hi => (o1 i hi).1⟩
theorem mbest_ok {N : Nat → Nat} {K T : Nat} {mo kn kg kb km mc my ml mk : Nat → Int32} (t d w z p : Int32) (h2 : 2 ≤ kd (w0 N) 257) (hK : K + 1 = kd (w0 N) 257) (hN : Ar mo N 256) (hT0 : 0 < T) (hT : T ≤ 1000000) (hs : sm N 256 = T) : Ok (fun r => r.1 = s64 mo r.2.2.2.2.2.2.2.2.2.1 256 ∧ r.2.1 = 0 ∧ r.2.2.1 = nI (aC (dE N K) 299) ∧ (∀ l, 1 ≤ l → l ≤ 16 → r.2.2.2.2.2.2.2.1 l = nI (bC N K l)) ∧ (∀ i, i < aC (dE N K) 299 → r.2.2.2.2.2.2.2.2.1 i = nI (aO (dE N K) 299 i)) ∧ Ar r.2.2.2.2.2.2.2.2.2.1 (aL (bC N K) (aO (dE N K) 299) 16) 256 ∧ Kd r.2.2.2.2.2.2.2.2.2.2 (aL (bC N K) (aO (dE N K) 299) 16) (aK (bC N K) (aO (dE N K) 299) 16)) (f_MM_best t d w (nI T) z p kn kg kb mo km mc my ml mk) := by
  have hkle := kd_le (w0 N) 257
  obtain ⟨f1, f2, f3, fG⟩ := dE_facts h2 hK
  obtain ⟨b1, b2, b3, b4⟩ := bC_facts h2 hK
  have hNb : ∀ s, s < 256 → N s < 2 ^ 31 := fun s hs' => by have := sm_le (f := N) 256 hs'; omega
  have cle := aC_le (dE N K) (fun p hp => by have := f3 p (by omega); omega)
  have kle := kd_le (dE N K) 256
  unfold f_MM_best
  apply Ok_Lp2 (fun u x3 (x4 : Nat → Int32) => ∃ j, j ≤ 17 ∧ u = 17 - j ∧ x3 = nI j) 17 ⟨0, by omega, rfl, rfl⟩ (by omega)
  rintro u x3 x4 ⟨j, hj, rfl, rfl⟩ again ih
  apply Ok_le 17 j
  · intro _
    apply Ok_ifF (nI_ne0 hT0 (by omega))
    apply Ok_bd3 _ (mjoin_ok (N := N) (K := K) (kn := kn) (kg := kg) (kb := kb) 0 d 0 (nI T) z p hN (by omega) hK)
    intro o7 o8 o9 h9
    simp only at h9
    apply Ok_bd1 _ (mshort_ok (T := kd (w0 N) 257) (N := N) (B := jB (w0 N) K) (E := dE N K) (km := km) 0 d 0 (nI T) z p hkle (fun s hs' => ⟨hN s hs', hNb s hs'⟩) h9 f1 f2 fG)
    intro o11 h11
    apply Ok_Lp2 (fun u x15 (x16 : Nat → Int32) => ∃ j, j ≤ 16 ∧ u = 16 - j ∧ x15 = nI (j + 1) ∧ ∀ l, 1 ≤ l → l ≤ j → x16 l = nI (bC N K l)) 16 ⟨0, by omega, rfl, rfl, fun l q1 q2 => by omega⟩ (by omega)
    rintro u x15 x16 ⟨j, hj, rfl, rfl, h16⟩ again1 ih1
    apply Ok_lt 16 (j + 1)
    · intro c
      have : j = 16 := by omega
      subst this
      apply Ok_Lp3 (fun u x20 (x21 : Nat → Int32) x22 => ∃ n, n ≤ 299 ∧ u = 299 - n ∧ x20 = nI (n + 1) ∧ x22 = nI (aC (dE N K) n) ∧ ∀ i, i < aC (dE N K) n → x21 i = nI (aO (dE N K) n i)) 299 ⟨0, by omega, rfl, rfl, rfl, fun i hi => absurd hi (Nat.not_lt_zero _)⟩ (by omega)
      rintro u x20 x21 x22 ⟨n, hn, rfl, rfl, rfl, h21⟩ again2 ih2
      apply Ok_le 300 (n + 1)
      · intro c2
        have : n = 299 := by omega
        subst this
        apply Ok_bd2 _ (give_ok (C := bC N K) (S := aO (dE N K) 299) (ml := ml) (mk := mk) 0 d (nI (aC (dE N K) 299)) (nI T) z p b1 b2 b4 h16 h21)
        rintro o24 o25 ⟨k1, k2⟩
        simp only at k1 k2
        apply Ok_Lp2 (fun u x29 x30 => ∃ j, j ≤ 256 ∧ u = 256 - j ∧ x29 = s64 mo o24 j ∧ x30 = nI j) 256 ⟨0, by omega, rfl, rfl, rfl⟩ (by omega)
        rintro u x29 x30 ⟨j, hj, rfl, rfl, rfl⟩ again3 ih3
        apply Ok_le 256 j
        · intro c3
          have : j = 256 := by omega
          subst this
          exact Ok_ret ⟨rfl, rfl, rfl, h16, h21, k1, k2⟩
        · intro c3
          apply Ok_rd j
          apply Ok_rd j
          exact ih3 (256 - (j + 1)) _ _ (by omega) ⟨j + 1, by omega, rfl, rfl, nI_1 _⟩
      · intro c2
        have cn1 := cle (n + 1) (by omega)
        have eC : aC (dE N K) (n + 1) = oc (dE N K) (n + 1) (aC (dE N K) n) 256 := rfl
        apply Ok_Lp3 (fun u x38 (x39 : Nat → Int32) x40 => ∃ s, s ≤ 256 ∧ u = 256 - s ∧ x38 = nI s ∧ x40 = nI (oc (dE N K) (n + 1) (aC (dE N K) n) s) ∧ ∀ i, i < oc (dE N K) (n + 1) (aC (dE N K) n) s → x39 i = nI (oO (dE N K) (n + 1) (aC (dE N K) n) s (aO (dE N K) n) i)) 256 ⟨0, by omega, rfl, rfl, rfl, h21⟩ (by omega)
        rintro u x38 x39 x40 ⟨s, hs', rfl, rfl, rfl, h39⟩ again3 ih3
        apply Ok_le 256 s
        · intro c3
          have : s = 256 := by omega
          subst this
          exact ih2 (299 - (n + 1)) _ _ _ (by omega) ⟨n + 1, by omega, rfl, nI_1 _, rfl, h39⟩
        · intro c3
          have e1 : oc (dE N K) (n + 1) (aC (dE N K) n) (s + 1) = if dE N K s = n + 1 then oc (dE N K) (n + 1) (aC (dE N K) n) s + 1 else oc (dE N K) (n + 1) (aC (dE N K) n) s := rfl
          have e2 : oO (dE N K) (n + 1) (aC (dE N K) n) (s + 1) (aO (dE N K) n) = if dE N K s = n + 1 then up (oO (dE N K) (n + 1) (aC (dE N K) n) s (aO (dE N K) n)) (oc (dE N K) (n + 1) (aC (dE N K) n) s) s else oO (dE N K) (n + 1) (aC (dE N K) n) s (aO (dE N K) n) := rfl
          have mo' := oc_mono (dE N K) (n + 1) (aC (dE N K) n) (s := s + 1) 256 (by omega)
          have hw : w0 N s = N s := by unfold w0; rw [if_neg (by omega)]
          have hnb := hNb s c3
          have hnot : dE N K s ≠ n + 1 → Ok (fun r => r.1 = s64 mo r.2.2.2.2.2.2.2.2.2.1 256 ∧ r.2.1 = 0 ∧ r.2.2.1 = nI (aC (dE N K) 299) ∧ (∀ l, 1 ≤ l → l ≤ 16 → r.2.2.2.2.2.2.2.1 l = nI (bC N K l)) ∧ (∀ i, i < aC (dE N K) 299 → r.2.2.2.2.2.2.2.2.1 i = nI (aO (dE N K) 299 i)) ∧ Ar r.2.2.2.2.2.2.2.2.2.1 (aL (bC N K) (aO (dE N K) 299) 16) 256 ∧ Kd r.2.2.2.2.2.2.2.2.2.2 (aL (bC N K) (aO (dE N K) 299) 16) (aK (bC N K) (aO (dE N K) 299) 16)) (again3 (nI s + 1) x39 (nI (oc (dE N K) (n + 1) (aC (dE N K) n) s))) := by
            intro q
            rw [if_neg q] at e1 e2
            exact ih3 (256 - (s + 1)) _ _ _ (by omega) ⟨s + 1, by omega, rfl, nI_1 _, by rw [e1], by rw [e1, e2]; exact h39⟩
          apply Ok_rd s
          rw [hN s c3]
          apply Ok_le (N s) 0
          · intro c4
            apply hnot
            rw [f2 s (by omega) (by omega)]; omega
          · intro c4
            have q := f1 s (by omega) (by omega)
            apply Ok_rd s
            rw [h9 s (by omega), q.1]
            apply Ok_eqI (dE N K s) (n + 1)
            · intro c5
              rw [if_pos c5] at e1 e2
              apply Ok_wr (oc (dE N K) (n + 1) (aC (dE N K) n) s)
              refine ih3 (256 - (s + 1)) _ _ _ (by omega) ⟨s + 1, by omega, rfl, nI_1 _, by rw [e1]; exact nI_1 _, ?_⟩
              rw [e1, e2]
              intro i hi
              by_cases e : i = oc (dE N K) (n + 1) (aC (dE N K) n) s
              · rw [e, pk_us, up_s]
              · rw [pk_un e, up_n e]; exact h39 i (by omega)
            · intro c5
              exact hnot c5
    · intro c
      apply Ok_rd (j + 1)
      apply Ok_wr (j + 1)
      rw [h11 _ (by omega)]
      refine ih1 (16 - (j + 1)) _ _ (by omega) ⟨j + 1, by omega, rfl, nI_1 _, ?_⟩
      intro l q1 q2
      by_cases e : l = j + 1
      · rw [e, pk_us]; rfl
      · rw [pk_un e]; exact h16 l q1 (by omega)
  · intro _
    apply Ok_wr j
    exact ih (17 - (j + 1)) _ _ (by omega) ⟨j + 1, by omega, rfl, nI_1 _⟩
theorem ps_z (l : Nat) : ps (fun _ => 0) l = 0 := by
  induction l with
  | zero => rfl
  | succ l ih => show ps (fun _ => 0) l + 0 = 0; rw [ih]
theorem kr_zz (l : Nat) : kr (fun _ => 0) l = 0 := kr_z l (fun _ _ _ => rfl)
theorem mbest0_ok {mo kn kg kb km mc my ml mk : Nat → Int32} (t d w z p : Int32) : Ok (fun r => r.1 = 0 ∧ r.2.1 = 0 ∧ r.2.2.1 = 0 ∧ (∀ l, 1 ≤ l → l ≤ 16 → r.2.2.2.2.2.2.2.1 l = nI ((fun _ => 0) l)) ∧ Ar r.2.2.2.2.2.2.2.2.2.1 (aL (fun _ => 0) (fun _ => 0) 16) 256 ∧ Kd r.2.2.2.2.2.2.2.2.2.2 (aL (fun _ => 0) (fun _ => 0) 16) (aK (fun _ => 0) (fun _ => 0) 16)) (f_MM_best t d w (nI 0) z p kn kg kb mo km mc my ml mk) := by
  unfold f_MM_best
  apply Ok_Lp2 (fun u x3 (x4 : Nat → Int32) => ∃ j, j ≤ 17 ∧ u = 17 - j ∧ x3 = nI j ∧ ∀ i, i < j → x4 i = 0) 17 ⟨0, by omega, rfl, rfl, fun i hi => by omega⟩ (by omega)
  rintro u x3 x4 ⟨j, hj, rfl, rfl, hz⟩ again ih
  apply Ok_le 17 j
  · intro h
    apply Ok_ifT rfl
    apply Ok_bd2 _ (give_ok (C := fun _ => 0) (S := fun _ => 0) (w := 0) (kc := x4) (ky := my) (ml := ml) (mk := mk) 0 d 0 (nI 0) z p (ps_z 16) (by omega) (fun i hi => by omega) (fun l q1 q2 => hz l (by omega)) (fun i hi => by omega))
    rintro o24 o25 ⟨k1, k2⟩
    exact Ok_ret ⟨rfl, rfl, rfl, fun l q1 q2 => hz l (by omega), k1, k2⟩
  · intro h
    apply Ok_wr j
    refine ih (17 - (j + 1)) _ _ (by omega) ⟨j + 1, by omega, rfl, nI_1 _, ?_⟩
    intro i hi
    by_cases e : i = j
    · subst e; rw [pk_us]
    · rw [pk_un e]; exact hz i (by omega)
theorem find0_ok {N : Nat → Nat} {tn fc fw fno fdp fg fp fsy : Nat → Int32} (fgl fnd : Int32) (h1 : kd (w0 N) 257 = 1) (hN : Ar tn N 256) (hs : sm N 256 ≤ 1000000) : Ok (fun r => ∀ i, i < 257 → r.2.2.1 i = 0) (f_FB_find fgl fnd fc 256 tn fw fno fdp fg fp fsy) := by
  unfold f_FB_find
  apply Ok_bd1 _ (fill_ok (n := 257) (by omega) fc 0)
  intro o1 ho1
  apply Ok_bd6 _ (start_ok (N := N) (kw := fw) (kno := fno) (kd0 := fdp) (kg := fg) fgl fnd hN (fun s hs' => by have := sm_le (f := N) 256 hs'; omega))
  rintro o3 o4 o5 o6 o7 o8 ⟨e3, e4, _⟩
  simp only at e3 e4
  subst e3 e4
  apply Ok_le 2 (kd (w0 N) 257)
  · intro c; omega
  · intro c
    exact Ok_ret ho1
theorem p_best (t d w z p tz fgl fnd : Int32) (fc fw fno fdp fg fp fsy tl tc ty tk kn kg kb km mc my ml mk : Nat → Int32) {tt : Int32} {tn : Nat → Int32} {mt : Int32} {mo : Nat → Int32} (h : YI tt tn mt mo) : ∃ r a1 a2 a3 a4 a5 a6 a7 a8 a9 tz' tl' tc' ty' tk' mw' q1 q2 q3 q4 mc' my' ml' mk', f_FF_best tt fgl fnd fc tn fw fno fdp fg fp fsy tz tl tc ty tk = some (r, a1, a2, a3, a4, a5, a6, a7, a8, a9, tz', tl', tc', ty', tk') ∧ f_MM_best t d w mt z p kn kg kb mo km mc my ml mk = some (r, 0, mw', q1, q2, q3, q4, mc', my', ml', mk') ∧ TI tz' tc' ty' tl' tk' mw' mc' my' ml' mk' := by
  obtain ⟨T, N, rfl, rfl, hT, hN, hs⟩ := h
  have hNt : Ar tn N 256 := fun s hs' => (hN s hs').1
  have hNm : Ar mo N 256 := fun s hs' => (hN s hs').2
  have k1 := w0_kd N
  by_cases hT0 : T = 0
  · subst hT0
    have N0 : ∀ s, s < 256 → N s = 0 := fun s hs' => by have := sm_le (f := N) 256 hs'; omega
    have kd1 : kd (w0 N) 257 = 1 := by
      have := kd_one (W := w0 N) (n := 257) (a := 256) (fun q hq hne => by unfold w0; rw [if_neg hne]; exact N0 q (by omega))
      omega
    obtain ⟨⟨a1, a2, a3, a4, a5, a6, a7, a8, a9⟩, e1, g1⟩ := find0_ok (fc := fc) (fw := fw) (fno := fno) (fdp := fdp) (fg := fg) (fp := fp) (fsy := fsy) fgl fnd kd1 hNt (by omega)
    simp only at g1
    obtain ⟨⟨b1, b2, b3, b4, b5⟩, e2, c1, c2, c3, c4, c5⟩ := become_ok (C := fun _ => 0) (S := fun _ => 0) (w := 0) (n0 := 257) (p0 := a3) (p1 := a9) (tl := tl) (tc := tc) (ty := ty) (tk := tk) tz (by omega) (by omega) (ps_z 16) (by omega) (fun i hi => by omega) (fun l q1 q2 => g1 l (by omega)) (fun i hi => by omega)
    simp only at c1 c2 c3 c4 c5
    subst c1
    obtain ⟨r, e3, hr⟩ := bitsAll_ok tn b2 (nI 0)
    have hr0 : r = 0 := by rw [hr]; exact s64_0 256 (fun i hi => by rw [hNt i hi, N0 i hi]; rfl)
    subst hr0
    obtain ⟨⟨r1, r2, r3, q1, q2, q3, q4, mc', my', ml', mk'⟩, e4, m1, m2, m3, m4, m5, m6⟩ := mbest0_ok (mo := mo) (kn := kn) (kg := kg) (kb := kb) (km := km) (mc := mc) (my := my) (ml := ml) (mk := mk) t d w z p
    simp only at m1 m2 m3 m4 m5 m6
    subst m1 m2 m3
    refine ⟨0, a1, a2, a3, a4, a5, a6, a7, a8, a9, nI 0, b2, b3, b4, b5, 0, q1, q2, q3, q4, mc', my', ml', mk', ?_, e4, ⟨0, fun _ => 0, fun _ => 0, aL (fun _ => 0) (fun _ => 0) 16, aK (fun _ => 0) (fun _ => 0) 16, rfl, rfl, by omega, fun l x y => ⟨c3 l x y, m4 l x y⟩, fun i hi => absurd hi (Nat.not_lt_zero _), fun s hs' => ⟨c2 s hs', m5 s hs'⟩, fun s hs' hl => ⟨c5 s hs' hl, m6 s hs' hl⟩, TW_of (ps_z 16) (by omega) (fun i j _ hi => by omega) (fun i hi => by omega) (fun l _ => by rw [kr_zz]; exact Nat.zero_le _)⟩⟩
    unfold f_FF_best
    rw [bd9_eq e1, bd5_eq e2, bd1_eq e3]
  · have h2 : 2 ≤ kd (w0 N) 257 := by
      have ex : ∃ s, s < 256 ∧ 0 < N s := by
        apply Classical.byContradiction
        intro z
        have := sm_0 256 (f := N) (fun i hi => by
          apply Nat.eq_zero_of_not_pos
          intro q
          exact z ⟨i, hi, q⟩)
        omega
      obtain ⟨s, hs', hp⟩ := ex
      exact kd_two (W := w0 N) (p := s) (q := 256) (by omega) (by omega) (by omega) (by unfold w0; rw [if_neg (by omega)]; exact hp) (by unfold w0; rw [if_pos rfl]; omega)
    obtain ⟨K, hK⟩ : ∃ K, K + 1 = kd (w0 N) 257 := ⟨kd (w0 N) 257 - 1, by omega⟩
    obtain ⟨f1, f2, f3, f4⟩ := bC_facts h2 hK
    obtain ⟨⟨a1, a2, a3, a4, a5, a6, a7, a8, a9⟩, e1, g1, g2⟩ := find_ok (fc := fc) (fw := fw) (fno := fno) (fdp := fdp) (fg := fg) (fp := fp) (fsy := fsy) fgl fnd h2 hK hNt (by omega)
    simp only at g1 g2
    obtain ⟨⟨b1, b2, b3, b4, b5⟩, e2, c1, c2, c3, c4, c5⟩ := become_ok (C := bC N K) (S := aO (dE N K) 299) (w := aC (dE N K) 299) (n0 := 257) (p0 := a3) (p1 := a9) (tl := tl) (tc := tc) (ty := ty) (tk := tk) tz (by omega) (by omega) f1 f2 f4 (fun l q1 q2 => g1 l (by omega)) g2
    simp only at c1 c2 c3 c4 c5
    subst c1
    obtain ⟨r, e3, hr⟩ := bitsAll_ok tn b2 (nI (aC (dE N K) 299))
    obtain ⟨⟨r1, r2, r3, q1, q2, q3, q4, mc', my', ml', mk'⟩, e4, m1, m2, m3, m4, m5, m6, m7⟩ := mbest_ok (mo := mo) (kn := kn) (kg := kg) (kb := kb) (km := km) (mc := mc) (my := my) (ml := ml) (mk := mk) t d w z p h2 hK hNm (by omega) hT hs
    simp only at m1 m2 m3 m4 m5 m6 m7
    have hrr : r = r1 := by
      rw [hr, m1]
      exact s64_congr 256 (fun i hi => ⟨by rw [hNt i hi, hNm i hi], by rw [c2 i hi, m6 i hi]⟩)
    subst hrr m2 m3
    refine ⟨r, a1, a2, a3, a4, a5, a6, a7, a8, a9, nI (aC (dE N K) 299), b2, b3, b4, b5, nI (aC (dE N K) 299), q1, q2, q3, q4, mc', my', ml', mk', ?_, e4, ⟨aC (dE N K) 299, bC N K, aO (dE N K) 299, aL (bC N K) (aO (dE N K) 299) 16, aK (bC N K) (aO (dE N K) 299) 16, rfl, rfl, f2, fun l x y => ⟨c3 l x y, m4 l x y⟩, fun i hi => ⟨c4 i hi, m5 i hi⟩, fun s hs' => ⟨c2 s hs', m6 s hs'⟩, fun s hs' hl => ⟨c5 s hs' hl, m7 s hs' hl⟩, f3⟩⟩
    unfold f_FF_best
    rw [bd9_eq e1, bd5_eq e2, bd1_eq e3]
