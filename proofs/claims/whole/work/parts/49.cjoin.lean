def GS (G : Nat → Nat) (g : Nat) (A : Nat → Prop) : Prop := (∀ i j, i < j → j < g → G i ≠ G j) ∧ (∀ p, A p ↔ ∃ i, i < g ∧ G i = p)
theorem GS_push {G : Nat → Nat} {g a : Nat} {A B : Nat → Prop} (h : GS G g A) (ha : ¬ A a) (hB : ∀ p, B p ↔ A p ∨ p = a) : GS (up G g a) (g + 1) B := by
  obtain ⟨h1, h2⟩ := h
  refine ⟨?_, ?_⟩
  · intro i j hij hj
    rw [up_n (show i ≠ g by omega)]
    by_cases e : j = g
    · subst e; rw [up_s]
      intro z
      exact ha ((h2 a).2 ⟨i, hij, z⟩)
    · rw [up_n e]; exact h1 i j hij (by omega)
  · intro p
    rw [hB, h2]
    constructor
    · rintro (⟨i, hi, e⟩ | e)
      · exact ⟨i, by omega, by rw [up_n (show i ≠ g by omega)]; exact e⟩
      · exact ⟨g, by omega, by rw [up_s]; exact e.symm⟩
    · rintro ⟨i, hi, e⟩
      by_cases c : i = g
      · subst c; rw [up_s] at e; exact Or.inr e.symm
      · rw [up_n c] at e; exact Or.inl ⟨i, by omega, e⟩
theorem GS_take {G : Nat → Nat} {g m : Nat} {A B : Nat → Prop} (h : GS G g A) (hm : m < g) (hB : ∀ p, B p ↔ A p ∧ p ≠ G m) : GS (up G m (G (g - 1))) (g - 1) B := by
  obtain ⟨h1, h2⟩ := h
  have inj : ∀ i j, i < g → j < g → G i = G j → i = j := by
    intro i j hi hj e
    rcases Nat.lt_trichotomy i j with c | c | c
    · exact absurd e (h1 i j c hj)
    · exact c
    · exact absurd e.symm (h1 j i c hi)
  refine ⟨?_, ?_⟩
  · intro i j hij hj
    by_cases c : i = m
    · subst c
      rw [up_s, up_n (show j ≠ i by omega)]
      intro z
      have := inj _ _ (by omega) (by omega) z
      omega
    · rw [up_n c]
      by_cases c2 : j = m
      · subst c2
        rw [up_s]
        intro z
        have := inj _ _ (by omega) (by omega) z
        omega
      · rw [up_n c2]; exact h1 i j hij (by omega)
  · intro p
    rw [hB, h2]
    constructor
    · rintro ⟨⟨i, hi, e⟩, hne⟩
      by_cases c : i = g - 1
      · subst c
        refine ⟨m, ?_, by rw [up_s]; exact e⟩
        apply Classical.byContradiction
        intro z
        have : m = g - 1 := by omega
        subst this
        exact hne e.symm
      · refine ⟨i, by omega, ?_⟩
        rw [up_n]
        · exact e
        · intro z; subst z; exact hne e.symm
    · rintro ⟨i, hi, e⟩
      by_cases c : i = m
      · subst c
        rw [up_s] at e
        refine ⟨⟨g - 1, by omega, e⟩, ?_⟩
        intro z
        have := inj (g - 1) i (by omega) (by omega) (by rw [e, z])
        omega
      · rw [up_n c] at e
        refine ⟨⟨i, by omega, e⟩, ?_⟩
        intro z
        exact c (inj i m (by omega) hm (by rw [e, z]))
theorem start_ok {N : Nat → Nat} {tn kw kno kd0 kg : Nat → Int32} (gl0 nd0 : Int32) (hN : Ar tn N 256) (hb : ∀ s, s < 256 → N s < 2 ^ 31) : Ok (fun r => r.1 = nI (kd (w0 N) 257) ∧ r.2.1 = 257 ∧ Ar r.2.2.1 (w0 N) 257 ∧ Ar r.2.2.2.1 (fun p => p) 257 ∧ (∀ i, i < 257 → r.2.2.2.2.1 i = 0) ∧ ∃ G, Ar r.2.2.2.2.2 G (kd (w0 N) 257) ∧ GS G (kd (w0 N) 257) (Act (w0 N))) (f_FB_startGroups gl0 nd0 256 tn kw kno kd0 kg) := by
  unfold f_FB_startGroups
  apply Ok_Lp6 (fun u x3 x4 x5 x6 x7 x8 => ∃ j, j ≤ 257 ∧ u = 257 - j ∧ x3 = nI j ∧ (∀ i, i < j → x4 i = (0 : Int32)) ∧ x6 = nI (kd (w0 N) j) ∧ Ar x7 (fun p => p) j ∧ Ar x8 (w0 N) j ∧ ∃ G, Ar x5 G (kd (w0 N) j) ∧ GS G (kd (w0 N) j) (fun p => p < j ∧ 0 < w0 N p)) 257 ⟨0, by omega, rfl, rfl, fun i hi => by omega, rfl, fun i hi => by omega, fun i hi => by omega, fun _ => 0, fun i hi => absurd hi (Nat.not_lt_zero _), ⟨fun i j _ hj => absurd hj (Nat.not_lt_zero _), fun p => ⟨fun q => by omega, fun ⟨i, hi, _⟩ => absurd hi (Nat.not_lt_zero _)⟩⟩⟩ (by omega)
  rintro u x3 x4 x5 x6 x7 x8 ⟨j, hj, rfl, rfl, h4, rfl, h7, h8, G, hG, hGS⟩ again ih
  apply Ok_le 257 j
  · intro h
    have : j = 257 := by omega
    subst this
    exact Ok_ret ⟨rfl, rfl, h8, h7, h4, G, hG, hGS⟩
  · intro h
    have hkl := kd_le (w0 N) j
    have ek : kd (w0 N) (j + 1) = kd (w0 N) j + (if 0 < w0 N j then 1 else 0) := rfl
    have h4' : ∀ i, i < j + 1 → upd x4 j 0 i = 0 := by
      intro i hi
      by_cases e : i = j
      · subst e; rw [pk_us]
      · rw [pk_un e]; exact h4 i (by omega)
    have h7' : Ar (upd x7 j (nI j)) (fun p => p) (j + 1) := by
      intro i hi
      by_cases e : i = j
      · subst e; rw [pk_us]
      · rw [pk_un e]; exact h7 i (by omega)
    have h8' : ∀ {x : Int32}, x = nI (w0 N j) → Ar (upd x8 j x) (w0 N) (j + 1) := by
      intro x hx i hi
      by_cases e : i = j
      · subst e; rw [pk_us]; exact hx
      · rw [pk_un e]; exact h8 i (by omega)
    have fin : ∀ {x : Int32}, x = nI (w0 N j) → w0 N j < 2 ^ 31 → Ok (fun r => r.1 = nI (kd (w0 N) 257) ∧ r.2.1 = 257 ∧ Ar r.2.2.1 (w0 N) 257 ∧ Ar r.2.2.2.1 (fun p => p) 257 ∧ (∀ i, i < 257 → r.2.2.2.2.1 i = 0) ∧ ∃ G, Ar r.2.2.2.2.2 G (kd (w0 N) 257) ∧ GS G (kd (w0 N) 257) (Act (w0 N))) (if x ≤ 0 then (again (nI j + 1) (upd x4 j 0) x5 (nI (kd (w0 N) j)) (upd x7 j (nI j)) (upd x8 j x)) else (wr 257 x5 (nI (kd (w0 N) j)) (nI j) (fun g33 => again (nI j + 1) (upd x4 j 0) g33 (nI (kd (w0 N) j) + 1) (upd x7 j (nI j)) (upd x8 j x)))) := by
      intro x hx hlt
      apply Ok_le (w0 N j) 0 (hx := hx)
      · intro c
        refine ih (257 - (j + 1)) _ _ _ _ _ _ (by omega) ⟨j + 1, by omega, rfl, nI_1 _, h4', ?_, h7', h8' hx, G, ?_, ?_⟩
        · rw [ek, if_neg (by omega)]; rfl
        · rw [ek, if_neg (by omega)]; exact hG
        · rw [ek, if_neg (by omega), Nat.add_zero]
          refine ⟨hGS.1, fun p => ?_⟩
          rw [← hGS.2 p]
          constructor
          · rintro ⟨q1, q2⟩
            refine ⟨?_, q2⟩
            apply Classical.byContradiction
            intro z
            have : p = j := by omega
            subst this
            omega
          · rintro ⟨q1, q2⟩; exact ⟨by omega, q2⟩
      · intro c
        apply Ok_wr (kd (w0 N) j)
        refine ih (257 - (j + 1)) _ _ _ _ _ _ (by omega) ⟨j + 1, by omega, rfl, nI_1 _, h4', ?_, h7', h8' hx, up G (kd (w0 N) j) j, ?_, ?_⟩
        · rw [ek, if_pos c]; exact nI_1 _
        · rw [ek, if_pos c]
          intro i hi
          by_cases e : i = kd (w0 N) j
          · rw [e, pk_us, up_s]
          · rw [pk_un e, up_n e]; exact hG i (by omega)
        · rw [ek, if_pos c]
          apply GS_push hGS
          · rintro ⟨q1, _⟩; omega
          · intro p
            constructor
            · rintro ⟨q1, q2⟩
              by_cases e : p = j
              · exact Or.inr e
              · exact Or.inl ⟨by omega, q2⟩
            · rintro (⟨q1, q2⟩ | e)
              · exact ⟨by omega, q2⟩
              · subst e; exact ⟨by omega, c⟩
    apply Ok_eqI j 256
    · intro c
      apply Ok_wr j
      apply Ok_wr j
      apply Ok_wr j
      apply Ok_rd j
      rw [pk_us]
      have e1 : w0 N j = 1 := by unfold w0; rw [if_pos c]
      exact fin (by rw [e1]; rfl) (by omega)
    · intro c
      apply Ok_rd j
      apply Ok_wr j
      apply Ok_wr j
      apply Ok_wr j
      apply Ok_rd j
      rw [pk_us]
      have e1 : w0 N j = N j := by unfold w0; rw [if_neg c]
      exact fin (by rw [e1]; exact hN j (by omega)) (by rw [e1]; exact hb j (by omega))
theorem before_ok {V : Nat → Nat} {kw : Nat → Int32} {p q : Nat} (a b : Int32) (hV : Ar kw V 257) (hb : ∀ p, p < 257 → V p < 2 ^ 31) (hp : p < 257) (hq : q < 257) : Ok (fun r => (r = 1 ∧ (V p < V q ∨ (V p = V q ∧ q < p))) ∨ (r = 0 ∧ (V q < V p ∨ (V p = V q ∧ p ≤ q)))) (f_FB_comesBefore a b kw (nI p) (nI q)) := by
  unfold f_FB_comesBefore
  have b1 := hb p hp
  have b2 := hb q hq
  apply Ok_rd p
  apply Ok_rd q
  rw [hV p hp, hV q hq]
  apply Ok_lt (V p) (V q)
  · intro c; exact Ok_ret (Or.inl ⟨rfl, Or.inl c⟩)
  · intro c
    apply Ok_rd p
    apply Ok_rd q
    rw [hV p hp, hV q hq]
    apply Ok_eqI (V p) (V q)
    · intro c2
      apply Ok_le p q
      · intro c3; exact Ok_ret (Or.inr ⟨rfl, Or.inr ⟨c2, c3⟩⟩)
      · intro c3; exact Ok_ret (Or.inl ⟨rfl, Or.inr ⟨c2, c3⟩⟩)
    · intro c2; exact Ok_ret (Or.inr ⟨rfl, Or.inl (by omega)⟩)
theorem take_ok {V G : Nat → Nat} {g : Nat} {A : Nat → Prop} {kg kw : Nat → Int32} (nd : Int32) (hg : 1 ≤ g) (hg2 : g ≤ 257) (hG : Ar kg G g) (hS : GS G g A) (hA : ∀ p, A p → p < 257) (hV : Ar kw V 257) (hb : ∀ p, p < 257 → V p < 2 ^ 31) : Ok (fun r => ∃ a G', r.1 = nI a ∧ Lst A V a ∧ r.2.1 = nI (g - 1) ∧ Ar r.2.2 G' (g - 1) ∧ GS G' (g - 1) (fun p => A p ∧ p ≠ a)) (f_FB_takeLeastGroup (nI g) nd kg kw) := by
  have hGl : ∀ i, i < g → A (G i) := fun i hi => (hS.2 _).2 ⟨i, hi, rfl⟩
  unfold f_FB_takeLeastGroup
  apply Ok_Lp2 (fun u x3 x4 => ∃ m i, m < i ∧ i ≤ g ∧ u = g - i ∧ x3 = nI m ∧ x4 = nI i ∧ ∀ t, t < i → V (G m) < V (G t) ∨ (V (G m) = V (G t) ∧ G t ≤ G m)) (g - 1) ⟨0, 1, by omega, by omega, rfl, rfl, rfl, fun t ht => by rw [show t = 0 by omega]; exact Or.inr ⟨rfl, Nat.le_refl _⟩⟩ (by omega)
  rintro u x3 x4 ⟨m, i, hm, hi, rfl, rfl, rfl, hq⟩ again ih
  apply Ok_le g i
  · intro h
    have : i = g := by omega
    subst this
    have hm2 := hA _ (hGl m hm)
    apply Ok_rd m
    have e1 : nI i - 1 = nI (i - 1) := pk_sub (b := 1) hg
    rw [e1]
    apply Ok_rd (i - 1)
    apply Ok_wr m
    rw [hG m hm, hG (i - 1) (by omega)]
    refine Ok_ret ⟨G m, up G m (G (i - 1)), rfl, ⟨hGl m hm, ?_⟩, rfl, ?_, GS_take hS hm (fun p => Iff.rfl)⟩
    · intro p hp
      obtain ⟨t, ht, rfl⟩ := (hS.2 p).1 hp
      exact hq t ht
    · intro t ht
      exact Ar_up hG rfl t (by omega)
  · intro h
    apply Ok_rd i
    apply Ok_rd m
    rw [hG i h, hG m (by omega)]
    apply Ok_bd1 _ (before_ok (nI g) nd hV hb (hA _ (hGl i h)) (hA _ (hGl m (by omega))))
    rintro r (⟨rfl, c⟩ | ⟨rfl, c⟩)
    · apply Ok_ifF ne10
      refine ih (g - (i + 1)) _ _ (by omega) ⟨i, i + 1, by omega, by omega, rfl, rfl, nI_1 _, ?_⟩
      intro t ht
      by_cases e : t = i
      · subst e; exact Or.inr ⟨rfl, Nat.le_refl _⟩
      · have := hq t (by omega)
        omega
    · apply Ok_ifT rfl
      refine ih (g - (i + 1)) _ _ (by omega) ⟨m, i + 1, by omega, by omega, rfl, rfl, nI_1 _, ?_⟩
      intro t ht
      by_cases e : t = i
      · subst e; omega
      · exact hq t (by omega)
theorem NR_down {W0 : Nat → Nat} {k x : Nat} (h2 : 2 ≤ kd (jW W0 k) 257) (hx : NR W0 (k + 1) x) (c1 : x ≠ jN W0 k (fa (jW W0 k))) (c2 : x ≠ jN W0 k (fb (jW W0 k))) : NR W0 k x := by
  have hact := jn_act h2
  have ha := fa_spec (W := jW W0 k) (by omega)
  have hb := fb_spec h2
  have eN : jN W0 (k + 1) = up (jN W0 k) (fa (jW W0 k)) (257 + k) := rfl
  obtain ⟨x1, x2, x3⟩ := hx
  have aA' : Act (jW W0 (k + 1)) (fa (jW W0 k)) := (hact _).2 ⟨ha.1, fun z => hb.1.2 z.symm⟩
  refine ⟨?_, x2, ?_⟩
  · have := x3 _ aA'
    rw [eN, up_s] at this
    omega
  · intro q hq
    by_cases d1 : q = fa (jW W0 k)
    · rw [d1]; exact fun z => c1 z.symm
    · by_cases d2 : q = fb (jW W0 k)
      · rw [d2]; exact fun z => c2 z.symm
      · have := x3 q ((hact q).2 ⟨hq, d2⟩)
        rw [eN, up_n d1] at this
        exact this
theorem cjoin_ok {W0 G0 : Nat → Nat} {K : Nat} {kg kw kno kp : Nat → Int32} (hK : K + 1 = kd W0 257) (hsm : sm W0 257 < 2 ^ 31) (hG : Ar kg G0 (kd W0 257)) (hS : GS G0 (kd W0 257) (Act W0)) (hw : Ar kw W0 257) (hn : Ar kno (fun p => p) 257) : Ok (fun r => r.2.1 = nI (257 + K) ∧ Ar r.2.2.2.1 (jV W0 K) 257 ∧ ∀ x, NR W0 K x → r.2.2.2.2.2 x = nI (jP W0 K x)) (f_FB_joinGroups (nI (kd W0 257)) 257 kg kw kno kp) := by
  have h0 : 1 ≤ kd W0 257 := by omega
  have hkle := kd_le W0 257
  unfold f_FB_joinGroups
  apply Ok_Lp7 (fun u x3 x4 x5 x6 x7 x8 x9 => ∃ k, k ≤ K ∧ u = K - k ∧ x3 = nI k ∧ x5 = nI (kd W0 257 - k) ∧ Ar x6 (jN W0 k) 257 ∧ x7 = nI (257 + k) ∧ (∀ x, NR W0 k x → x8 x = nI (jP W0 k x)) ∧ Ar x9 (jV W0 k) 257 ∧ ∃ G, Ar x4 G (kd W0 257 - k) ∧ GS G (kd W0 257 - k) (Act (jW W0 k))) K ⟨0, by omega, rfl, rfl, rfl, hn, rfl, fun x hx => absurd rfl (hx.2.2 x ⟨by have := hx.1; omega, hx.2.1 (by have := hx.1; omega)⟩), hw, G0, hG, hS⟩ (by omega)
  rintro u x3 x4 x5 x6 x7 x8 x9 ⟨k, hk, rfl, rfl, rfl, h6, rfl, h8, h9, G, hG, hGS⟩ again ih
  have hkd := jW_kd W0 h0 k (by omega)
  apply Ok_le 256 k
  · intro c
    have : k = K := by omega
    subst this
    exact Ok_ret ⟨rfl, h9, h8⟩
  · intro c
    apply Ok_le (kd W0 257 - k) 1
    · intro c2
      have : k = K := by omega
      subst this
      exact Ok_ret ⟨rfl, h9, h8⟩
    · intro c2
      obtain ⟨v1, v2, v3⟩ := jV_ok W0 h0 k (by omega)
      have vb : ∀ p, p < 257 → jV W0 k p < 2 ^ 31 := fun p hp => by have := v2 p hp; omega
      have TFk := TF_all W0 h0 k (by omega)
      apply Ok_bd3 _ (take_ok (V := jV W0 k) (nI (257 + k)) (by omega) (by omega) hG hGS (fun p hp => hp.1) h9 vb)
      rintro r12 o13 o14 ⟨a, G1, e1, l1, e2, hG1, hS1⟩
      simp only at e1 e2 hG1
      subst e1 e2
      have l1' : Lst (Act (jW W0 k)) (jW W0 k) a := ⟨l1.1, fun p hp => by have := l1.2 p hp; rw [v1 p hp, v1 a l1.1] at this; exact this⟩
      have ea : a = fa (jW W0 k) := Lst_uniq l1' (fa_spec (by omega))
      apply Ok_bd3 _ (take_ok (V := jV W0 k) (nI (257 + k)) (by omega) (by omega) hG1 hS1 (fun p hp => hp.1.1) h9 vb)
      rintro r16 o17 o18 ⟨b, G2, e1, l2, e2, hG2, hS2⟩
      simp only at e1 e2 hG2
      subst e1 e2
      subst ea
      have l2' : Lst (fun p => Act (jW W0 k) p ∧ p ≠ fa (jW W0 k)) (jW W0 k) b := ⟨l2.1, fun p hp => by have := l2.2 p hp; rw [v1 p hp.1, v1 b l2.1.1] at this; exact this⟩
      have eb : b = fb (jW W0 k) := Lst_uniq l2' (fb_spec (by omega))
      subst eb
      have aA := l1.1
      have bA := l2.1.1
      have na := (TFk.1 _ aA).1
      have nb' := (TFk.1 _ bA).1
      have a257 := aA.1
      have b257 := bA.1
      apply Ok_rd (fa (jW W0 k))
      rw [h6 _ a257]
      apply Ok_wr (jN W0 k (fa (jW W0 k)))
      apply Ok_rd (fb (jW W0 k))
      rw [h6 _ b257]
      apply Ok_wr (jN W0 k (fb (jW W0 k)))
      apply Ok_wr (fa (jW W0 k))
      apply Ok_rd (fa (jW W0 k))
      apply Ok_rd (fb (jW W0 k))
      apply Ok_wr (fa (jW W0 k))
      apply Ok_wr (kd W0 257 - k - 1 - 1)
      rw [h9 _ a257, h9 _ b257, nI_add]
      refine ih (K - (k + 1)) _ _ _ _ _ _ _ (by omega) ⟨k + 1, by omega, rfl, nI_1 _, ?_, Ar_up h6, nI_1 _, ?_, Ar_up h9, up G2 (kd W0 257 - k - 1 - 1) (fa (jW W0 k)), ?_, ?_⟩
      · rw [nI_1]; congr 1; omega
      · intro x hx
        have eP : jP W0 (k + 1) = up (up (jP W0 k) (jN W0 k (fa (jW W0 k))) (257 + k)) (jN W0 k (fb (jW W0 k))) (257 + k) := rfl
        rw [eP]
        by_cases d2 : x = jN W0 k (fb (jW W0 k))
        · rw [d2, pk_us, up_s]
        · rw [pk_un d2, up_n d2]
          by_cases d1 : x = jN W0 k (fa (jW W0 k))
          · rw [d1, pk_us, up_s]
          · rw [pk_un d1, up_n d1]
            exact h8 x (NR_down (by omega) hx d1 d2)
      · intro i hi
        by_cases e : i = kd W0 257 - k - 1 - 1
        · rw [e, pk_us, up_s]
        · rw [pk_un e, up_n e]; exact hG2 i (by omega)
      · have := GS_push (B := Act (jW W0 (k + 1))) hS2 (a := fa (jW W0 k)) (fun z => z.1.2 rfl) (fun p => by
          rw [show jW W0 (k + 1) = jnW (jW W0 k) from rfl, jn_act (by omega)]
          constructor
          · rintro ⟨q1, q2⟩
            by_cases e : p = fa (jW W0 k)
            · exact Or.inr e
            · exact Or.inl ⟨⟨q1, e⟩, q2⟩
          · rintro (⟨⟨q1, _⟩, q2⟩ | e)
            · exact ⟨q1, q2⟩
            · rw [e]; exact ⟨aA, fun z => l2.1.2 z.symm⟩)
        rw [show kd W0 257 - (k + 1) = kd W0 257 - k - 1 - 1 + 1 by omega]
        exact this
def dn (g : Nat → Int32) (x : Nat) : Nat := (g x).toNatClampNeg
theorem dn_eq {g : Nat → Int32} {x d : Nat} (h : g x = nI d) (hd : d < 2 ^ 31) : dn g x = d := by unfold dn; rw [h, nI_clamp hd]
theorem depth_ok {W0 V P : Nat → Nat} {K : Nat} {kdp kp kw : Nat → Int32} (gl0 : Int32) (hK1 : 1 ≤ K) (hK : K ≤ 256) (hz : ∀ i, i < 257 → kdp i = 0) (hV : Ar kw V 257) (hV2 : ∀ p, p < 257 → V p < 2 ^ 31) (hVW : ∀ p, p < 257 → (0 < V p ↔ 0 < W0 p)) (hP : ∀ x, x < 256 + K → (x < 257 → 0 < W0 x) → kp x = nI (P x) ∧ x < P x ∧ 257 ≤ P x ∧ P x ≤ 256 + K) : Ok (fun r => (∃ D : Nat → Nat, D (256 + K) = 0 ∧ (∀ x, x < 256 + K → (x < 257 → 0 < W0 x) → D x = D (P x) + 1) ∧ ∀ x, x ≤ 256 + K → (x < 257 → 0 < W0 x) → r x = nI (D x)) ∧ ∀ x, x < 257 → W0 x = 0 → r x = 0) (f_FB_measureDepths gl0 (nI (257 + K)) kdp kp kw) := by
  unfold f_FB_measureDepths
  have e1 : nI (257 + K) - 1 = nI (256 + K) := pk_sub (a := 257 + K) (b := 1) (by omega) |>.trans (by congr 1; omega)
  have e2 : nI (257 + K) - 2 = nI (256 + K) - 1 := by
    have a1 : nI (257 + K) - 2 = nI (255 + K) := pk_sub (a := 257 + K) (b := 2) (by omega) |>.trans (by congr 1; omega)
    have a2 : nI (256 + K) - 1 = nI (255 + K) := pk_sub (a := 256 + K) (b := 1) (by omega) |>.trans (by congr 1; omega)
    rw [a1, a2]
  rw [e1, e2]
  apply Ok_wr (256 + K)
  apply Ok_Lp2 (fun u x5 x6 => ∃ j, j ≤ 256 + K ∧ u = j ∧ x5 = nI j - 1 ∧ (∀ x, j ≤ x → x ≤ 256 + K → (x < 257 → 0 < W0 x) → x6 x = nI (dn x6 x) ∧ dn x6 x ≤ 256 + K - x ∧ (x = 256 + K → dn x6 x = 0) ∧ (x < 256 + K → dn x6 x = dn x6 (P x) + 1)) ∧ (∀ x, x < 257 → W0 x = 0 → x6 x = 0)) (256 + K) ⟨256 + K, by omega, rfl, rfl, ?_, ?_⟩ (by omega)
  · rintro j x5 x6 ⟨_, hj, rfl, rfl, hA, hB⟩ again ih
    cases j with
    | zero =>
      apply Ok_ifT (by decide)
      refine Ok_ret ⟨⟨dn x6, ?_, ?_, ?_⟩, hB⟩
      · exact (hA (256 + K) (by omega) (by omega) (fun z => by omega)).2.2.1 rfl
      · intro x hx hw
        exact (hA x (by omega) (by omega) hw).2.2.2 hx
      · intro x hx hw
        exact (hA x (by omega) hx hw).1
    | succ y =>
      rw [nI_pred]
      apply Ok_ifF (nI_pos (by omega))
      rw [nI_s1]
      have go : (y < 257 → 0 < W0 y) → Ok (fun r => (∃ D : Nat → Nat, D (256 + K) = 0 ∧ (∀ x, x < 256 + K → (x < 257 → 0 < W0 x) → D x = D (P x) + 1) ∧ ∀ x, x ≤ 256 + K → (x < 257 → 0 < W0 x) → r x = nI (D x)) ∧ ∀ x, x < 257 → W0 x = 0 → r x = 0) (rd 513 kp (nI y) (fun v9 => rd 513 x6 v9 (fun v11 => wr 513 x6 (nI y) (v11 + 1) (fun g13 => again (nI y - 1) g13)))) := by
        intro hw
        obtain ⟨p1, p2, p3, p4⟩ := hP y (by omega) hw
        obtain ⟨q1, q2, q3, q4⟩ := hA (P y) (by omega) (by omega) (fun z => by omega)
        apply Ok_rd y
        rw [p1]
        apply Ok_rd (P y)
        apply Ok_wr y
        rw [q1, nI_1]
        have hy : dn (upd x6 y (nI (dn x6 (P y) + 1))) y = dn x6 (P y) + 1 := dn_eq pk_us (by omega)
        have hn : ∀ x, x ≠ y → dn (upd x6 y (nI (dn x6 (P y) + 1))) x = dn x6 x := by
          intro x hx
          unfold dn
          rw [pk_un hx]
        refine ih y _ _ (by omega) ⟨y, by omega, rfl, rfl, ?_, ?_⟩
        · intro x h1 h2 h3
          by_cases e : x = y
          · subst e
            rw [hy, hn (P x) (by omega), pk_us]
            exact ⟨rfl, by omega, fun z => by omega, fun _ => rfl⟩
          · have hx := hA x (by omega) h2 h3
            rw [pk_un e, hn x e]
            refine ⟨hx.1, hx.2.1, hx.2.2.1, ?_⟩
            intro z
            have := hP x z h3
            rw [hn (P x) (by omega)]
            exact hx.2.2.2 z
        · intro x h1 h2
          have e : x ≠ y := by
            intro z
            subst z
            have := hw h1
            omega
          rw [pk_un e]; exact hB x h1 h2
      apply Ok_le 257 y
      · intro c
        exact go (fun z => by omega)
      · intro c
        apply Ok_rd y
        rw [hV y c]
        have vb := hV2 y c
        have vw := hVW y c
        apply Ok_le (V y) 0
        · intro c2
          refine ih y _ _ (by omega) ⟨y, by omega, rfl, rfl, ?_, hB⟩
          intro x h1 h2 h3
          by_cases e : x = y
          · subst e
            have := vw.2 (h3 c)
            omega
          · exact hA x (by omega) h2 h3
        · intro c2
          exact go (fun _ => vw.1 c2)
  · intro x h1 h2 _
    have : x = 256 + K := by omega
    subst this
    have e : dn (upd kdp (256 + K) 0) (256 + K) = 0 := dn_eq (d := 0) pk_us (by omega)
    rw [e, pk_us]
    exact ⟨rfl, by omega, fun _ => rfl, fun z => by omega⟩
  · intro x h1 _
    rw [pk_un (by omega)]; exact hz x h1
theorem jB_0 (W0 : Nat → Nat) : ∀ k p, jB W0 k p = 0 → jG W0 k p = p ∧ jN W0 k p = p := by
  intro k
  induction k with
  | zero => intro p _; exact ⟨rfl, rfl⟩
  | succ k ih =>
    intro p h
    have eB : jB W0 (k + 1) p = if jG W0 k p = fa (jW W0 k) ∨ jG W0 k p = fb (jW W0 k) then jB W0 k p + 1 else jB W0 k p := rfl
    have eG : jG W0 (k + 1) p = if jG W0 k p = fa (jW W0 k) ∨ jG W0 k p = fb (jW W0 k) then fa (jW W0 k) else jG W0 k p := rfl
    have eN : jN W0 (k + 1) = up (jN W0 k) (fa (jW W0 k)) (257 + k) := rfl
    by_cases c : jG W0 k p = fa (jW W0 k) ∨ jG W0 k p = fb (jW W0 k)
    · rw [eB, if_pos c] at h; omega
    · rw [eB, if_neg c] at h
      obtain ⟨g, n⟩ := ih p h
      rw [eG, if_neg c, eN, up_n (fun z => c (Or.inl (g.trans z)))]
      exact ⟨g, n⟩
theorem jB_pos (W0 : Nat → Nat) (h2 : 2 ≤ kd W0 257) {K : Nat} (hK : K + 1 = kd W0 257) {p : Nat} (hp : p < 257) (hw : 0 < W0 p) : 1 ≤ jB W0 K p := by
  apply Classical.byContradiction
  intro z
  have h0 : 1 ≤ kd W0 257 := by omega
  have hkd := jW_kd W0 h0 K (by omega)
  obtain ⟨t1, t2, t3, t4, t5, t6, t7⟩ := TF_all W0 h0 K (by omega)
  obtain ⟨q, qA, qN⟩ := t6 (by omega)
  clear t6
  obtain ⟨g, n⟩ := jB_0 W0 K p (by omega)
  have pA := t5 p hp hw
  rw [g] at pA
  have : p = q := by
    apply Classical.byContradiction
    intro c
    have := kd_two c pA.1 qA.1 pA.2 qA.2
    omega
  subst this
  omega
