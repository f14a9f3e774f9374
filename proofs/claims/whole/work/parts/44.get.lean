theorem bt_nI {K i : Nat} (hi : i < 32) : bt (nI K) i = K.testBit i := by
  show (BitVec.ofNat 32 K).getLsbD i = _
  rw [BitVec.getLsbD_ofNat, decide_eq_true hi, Bool.true_and]
theorem div_pow2 (K a b : Nat) : K / 2 ^ (a + b) = K / 2 ^ a / 2 ^ b := by rw [Nat.pow_add, Nat.div_div_eq_div_mul]
theorem tb_vl {K L : Nat} {B : Nat → Bool} {p : Nat} (hK : K < 2 ^ L) : ∀ t, t ≤ L → ((∀ k, k < t → K.testBit (L - 1 - k) = B (p + k)) ↔ K / 2 ^ (L - t) = vl B p t) := by
  intro t
  induction t with
  | zero =>
    intro _
    constructor
    · intro _; exact Nat.div_eq_of_lt hK
    · intro _ k hk; omega
  | succ t ih =>
    intro ht
    have ih' := ih (by omega)
    have e1 : L - t = L - (t + 1) + 1 := by omega
    have e2 : L - 1 - t = L - (t + 1) := by omega
    rw [e1, div_pow2, Nat.pow_one] at ih'
    have e3 : K.testBit (L - 1 - t) = decide (K / 2 ^ (L - (t + 1)) % 2 = 1) := by rw [e2, Nat.testBit_eq_decide_div_mod_eq]
    have e4 : vl B p (t + 1) = 2 * vl B p t + (B (p + t)).toNat := rfl
    rw [e4]
    generalize K / 2 ^ (L - (t + 1)) = q at ih' e3 ⊢
    constructor
    · intro h
      have h1 := ih'.1 (fun k hk => h k (by omega))
      have h2 := h t (by omega)
      rw [e3] at h2
      rw [← h1, ← h2]
      by_cases g : q % 2 = 1
      · rw [decide_eq_true g]; show q = 2 * (q / 2) + 1; omega
      · rw [decide_eq_false g]; show q = 2 * (q / 2) + 0; omega
    · intro h k hk
      have hb := tN (B (p + t))
      have h1 : q / 2 = vl B p t := by omega
      by_cases g : k = t
      · subst g
        rw [e3]
        cases hh : B (p + k) with
        | true => rw [hh] at h; apply decide_eq_true; have : (true).toNat = 1 := rfl; omega
        | false => rw [hh] at h; apply decide_eq_false; have : (false).toNat = 0 := rfl; omega
      · exact ih'.2 h1 k (by omega)
theorem vl_div (B : Nat → Bool) (p L : Nat) : ∀ d, vl B p (L + d) / 2 ^ d = vl B p L := by
  intro d
  induction d with
  | zero => rw [Nat.pow_zero, Nat.div_one]; rfl
  | succ d ih =>
    have e : vl B p (L + (d + 1)) = 2 * vl B p (L + d) + (B (p + (L + d))).toNat := rfl
    have hb := tN (B (p + (L + d)))
    rw [show d + 1 = 1 + d by omega, div_pow2, show 1 + d = d + 1 by omega, e, Nat.pow_one, show (2 * vl B p (L + d) + (B (p + (L + d))).toNat) / 2 = vl B p (L + d) by omega, ih]
def fulW (L K : Nat → Nat) (V th s : Nat) : Prop := L s ≤ th ∧ V / 2 ^ (th - L s) = K s
def begW (L K : Nat → Nat) (V th s : Nat) : Prop := th < L s ∧ K s / 2 ^ (L s - th) = V
theorem sub_le0 {a b : Nat} (ha : a < 1000) (hb : b < 1000) : nI a - nI b ≤ 0 ↔ a ≤ b := by
  rw [Int32.le_iff_toInt_le, pk_sub_toInt (by omega) (by omega)]
  have z : (0 : Int32).toInt = 0 := by decide
  omega
theorem symAhead_ok {w V th : Nat} {ty tl tk : Nat → Int32} {S L K : Nat → Nat} (hw : w ≤ 256) (hV : V < 2 ^ 31) (hth : th ≤ 16) (hS : ∀ i, i < w → ty i = nI (S i) ∧ S i < 256) (hL : ∀ s, s < 256 → tl s = nI (L s) ∧ L s ≤ 16) (hK : ∀ i, i < w → tk (S i) = nI (K (S i)) ∧ K (S i) < 2 ^ 31) : Ok (fun r => (∃ i, i < w ∧ fulW L K V th (S i) ∧ r = nI (S i)) ∨ ((∀ i, i < w → ¬ fulW L K V th (S i)) ∧ ((r = -1 ∧ ∃ i, i < w ∧ begW L K V th (S i)) ∨ (r = -2 ∧ ∀ i, i < w → ¬ begW L K V th (S i))))) (f_FT_symbolAhead (nI w) ty tl tk (nI V) (nI th)) := by
  unfold f_FT_symbolAhead
  apply Ok_Lp2 (fun u x3 x4 => ∃ i, i ≤ w ∧ u = w - i ∧ x4 = nI i ∧ (∀ j, j < i → ¬ fulW L K V th (S j)) ∧ ((x3 = 0 ∧ ∀ j, j < i → ¬ begW L K V th (S j)) ∨ (x3 = 1 ∧ ∃ j, j < i ∧ begW L K V th (S j)))) w ⟨0, by omega, rfl, rfl, fun j hj => by omega, Or.inl ⟨rfl, fun j hj => by omega⟩⟩ (by omega)
  rintro u x3 x4 ⟨i, hi, rfl, rfl, hF, hG⟩ again ih
  apply Ok_le w i
  · intro h
    have : i = w := by omega
    subst this
    rcases hG with ⟨rfl, hG⟩ | ⟨rfl, hG⟩
    · apply Ok_ifT rfl
      exact Ok_ret (Or.inr ⟨hF, Or.inr ⟨rfl, hG⟩⟩)
    · apply Ok_ifF ne10
      exact Ok_ret (Or.inr ⟨hF, Or.inl ⟨rfl, hG⟩⟩)
  · intro h
    apply Ok_rd i
    rw [(hS i h).1]
    have hs := (hS i h).2
    apply Ok_rd (S i)
    rw [(hL _ hs).1]
    have hl := (hL _ hs).2
    have hk := hK i h
    apply Ok_if
    · intro c
      have c' : L (S i) ≤ th := (sub_le0 (by omega) (by omega)).1 c
      apply Ok_rd (S i)
      rw [hk.1, Int32.neg_sub, pk_sub c', pk_shrN hV (nI (th - L (S i)) &&& 31) (th - L (S i)) (s_l _ (by omega))]
      have hd : V / 2 ^ (th - L (S i)) < 2 ^ 31 := Nat.lt_of_le_of_lt (Nat.div_le_self _ _) hV
      apply Ok_eqI (V / 2 ^ (th - L (S i))) (K (S i)) (ha := hd) (hb := hk.2)
      · intro g
        exact Ok_ret (Or.inl ⟨i, h, ⟨c', g⟩, rfl⟩)
      · intro g
        refine ih (w - (i + 1)) _ _ (by omega) ⟨i + 1, by omega, rfl, nI_1 i, ?_, ?_⟩
        · intro j hj
          by_cases e : j = i
          · subst e; exact fun z => g z.2
          · exact hF j (by omega)
        · rcases hG with ⟨a1, a2⟩ | ⟨a1, j, a2, a3⟩
          · refine Or.inl ⟨a1, fun j hj => ?_⟩
            by_cases e : j = i
            · subst e; exact fun z => by have := z.1; omega
            · exact a2 j (by omega)
          · exact Or.inr ⟨a1, j, by omega, a3⟩
    · intro c
      have c' : th < L (S i) := by
        apply Nat.lt_of_not_le
        intro z
        exact c ((sub_le0 (by omega) (by omega)).2 z)
      have hF' : ∀ j, j < i + 1 → ¬ fulW L K V th (S j) := by
        intro j hj
        by_cases e : j = i
        · subst e; exact fun z => by have := z.1; omega
        · exact hF j (by omega)
      rcases hG with ⟨rfl, a2⟩ | ⟨rfl, j, a2, a3⟩
      · apply Ok_ifT rfl
        apply Ok_rd (S i)
        rw [hk.1, pk_sub (by omega), pk_shrN hk.2 (nI (L (S i) - th) &&& 31) (L (S i) - th) (s_l _ (by omega))]
        have hd : K (S i) / 2 ^ (L (S i) - th) < 2 ^ 31 := Nat.lt_of_le_of_lt (Nat.div_le_self _ _) hk.2
        apply Ok_eqI (K (S i) / 2 ^ (L (S i) - th)) V (ha := hd) (hb := hV)
        · intro g
          exact ih (w - (i + 1)) _ _ (by omega) ⟨i + 1, by omega, rfl, nI_1 i, hF', Or.inr ⟨rfl, i, by omega, c', g⟩⟩
        · intro g
          refine ih (w - (i + 1)) _ _ (by omega) ⟨i + 1, by omega, rfl, nI_1 i, hF', Or.inl ⟨rfl, fun j hj => ?_⟩⟩
          by_cases e : j = i
          · subst e; exact fun z => g z.2
          · exact a2 j (by omega)
      · apply Ok_ifF ne10
        exact ih (w - (i + 1)) _ _ (by omega) ⟨i + 1, by omega, rfl, nI_1 i, hF', Or.inr ⟨rfl, j, by omega, a3⟩⟩
theorem stands_ok {s p z Ls Ks rest : Nat} {ml mk mr : Nat → Int32} {B : Nat → Bool} (t d w o : Int32) (hs : s < 256) (hL : ml s = nI Ls) (hLs : Ls ≤ 16) (hL0 : 0 < Ls) (hK : mk s = nI Ks) (hr : p + rest = z) (hz : z ≤ 65536) (hB : ∀ i, i < z → mr i = nI (B i).toNat) : Ok (fun r => (r = 1 ∧ ∀ k, k < Ls → k < rest → Ks.testBit (Ls - 1 - k) = B (p + k)) ∨ (r = 0 ∧ ∃ k, k < Ls ∧ k < rest ∧ ¬ Ks.testBit (Ls - 1 - k) = B (p + k))) (f_MM_stands t d w o (nI z) (nI p) ml mk mr (nI s) (nI rest)) := by
  unfold f_MM_stands
  apply Ok_Lp2 (fun u x3 x4 => ∃ k, k ≤ Ls ∧ u = Ls - k ∧ x4 = nI k ∧ ((x3 = 1 ∧ ∀ j, j < k → Ks.testBit (Ls - 1 - j) = B (p + j)) ∨ (x3 = 0 ∧ ∃ j, j < Ls ∧ j < rest ∧ ¬ Ks.testBit (Ls - 1 - j) = B (p + j)))) Ls ⟨0, by omega, rfl, rfl, Or.inl ⟨rfl, fun j hj => by omega⟩⟩ (by omega)
  rintro u x3 x4 ⟨k, hk, rfl, rfl, hG⟩ again ih
  apply Ok_rd s
  rw [hL]
  have hx : x3 = 0 ∨ x3 = 1 := by
    rcases hG with ⟨e, _⟩ | ⟨e, _⟩
    · exact Or.inr e
    · exact Or.inl e
  have fin : (∀ j, j < Ls → j < rest → j < k) → Ok (fun r => (r = 1 ∧ ∀ k, k < Ls → k < rest → Ks.testBit (Ls - 1 - k) = B (p + k)) ∨ (r = 0 ∧ ∃ k, k < Ls ∧ k < rest ∧ ¬ Ks.testBit (Ls - 1 - k) = B (p + k))) (if x3 = 0 ∨ x3 = 1 then (some x3) else none) := by
    intro hj
    apply Ok_ifT hx
    rcases hG with ⟨e, g⟩ | ⟨e, g⟩
    · exact Ok_ret (Or.inl ⟨e, fun j h1 h2 => g j (hj j h1 h2)⟩)
    · exact Ok_ret (Or.inr ⟨e, g⟩)
  apply Ok_le Ls k
  · intro h
    exact fin (fun j h1 h2 => by omega)
  · intro h
    apply Ok_le rest k
    · intro h'
      exact fin (fun j h1 h2 => by omega)
    · intro h'
      rcases hG with ⟨rfl, g⟩ | ⟨rfl, g⟩
      · apply Ok_ifF ne10
        apply Ok_rd s
        apply Ok_rd s
        rw [hK, hL, nI_add]
        apply Ok_rd (p + k)
        have e1 : nI Ls - 1 - nI k = nI (Ls - 1 - k) := by
          rw [show nI Ls - 1 = nI (Ls - 1) from pk_sub (b := 1) (by omega), pk_sub (by omega)]
        rw [e1, b_shb _ _ (by omega), bt_nI (by omega), hB _ (by omega)]
        have hb1 := tN (Ks.testBit (Ls - 1 - k))
        have hb2 := tN (B (p + k))
        apply Ok_eqI (Ks.testBit (Ls - 1 - k)).toNat (B (p + k)).toNat
        · intro c
          refine ih (Ls - (k + 1)) _ _ (by omega) ⟨k + 1, by omega, rfl, nI_1 k, Or.inl ⟨rfl, ?_⟩⟩
          intro j hj
          by_cases e : j = k
          · subst e
            revert c
            cases Ks.testBit (Ls - 1 - j) <;> cases B (p + j) <;> intro c <;> first | rfl | exact absurd c (by decide)
          · exact g j (by omega)
        · intro c
          refine ih (Ls - (k + 1)) _ _ (by omega) ⟨k + 1, by omega, rfl, nI_1 k, Or.inr ⟨rfl, k, by omega, h', fun z => c (by rw [z])⟩⟩
      · apply Ok_ifT rfl
        exact ih (Ls - (k + 1)) _ _ (by omega) ⟨k + 1, by omega, rfl, nI_1 k, Or.inr ⟨rfl, g⟩⟩
theorem p_get {rz rp : Int32} {rc : Nat → Int32} {mz mp : Int32} {mr : Nat → Int32} {tz : Int32} {tc ty tl tk : Nat → Int32} {mw : Int32} {mc my ml mk : Nat → Int32} (h : RI rz rp rc mz mp mr) (hT : TI tz tc ty tl tk mw mc my ml mk) : ∃ r rp' mp', f_FF_get rz rp rc tz ty tl tk = some (r, rp') ∧ (∀ t d x, f_MM_get t d mw x mz mp ml mk mr = some (r, 0, mp')) ∧ RI rz rp' rc mz mp' mr := by
  have hh := h
  obtain ⟨z, p, B, rfl, rfl, rfl, rfl, hp, hz, h1, h2⟩ := h
  obtain ⟨w, C, S, L, K, rfl, rfl, hw, hC, hS, hL, hK, hW⟩ := hT
  obtain ⟨_, hW2, hW3, hW4, hW5, hW6, _⟩ := hW
  have es : nI z - nI p = nI (z - p) := pk_sub hp
  by_cases hr : z - p = 0
  · refine ⟨-1, nI p, nI p, ?_, ?_, hh⟩
    · unfold f_FF_get f_FR_left
      rw [bd1_eq rfl, es, hr]; rfl
    · intro t d x
      unfold f_MM_get
      rw [es, hr]; rfl
  obtain ⟨th, hth, hth1, hth2, hth3, hth4⟩ : ∃ th, (if (16 : Int32) < nI (z - p) then 16 else nI (z - p)) = nI th ∧ th ≤ 16 ∧ th ≤ z - p ∧ (th = 16 ∨ th = z - p) ∧ 0 < th := by
    by_cases c : 16 < z - p
    · exact ⟨16, by rw [if_pos (show (16 : Int32) < nI (z - p) from nI_lt (a := 16) c (by omega))]; rfl, by omega, by omega, by omega, by omega⟩
    · exact ⟨z - p, by rw [if_neg (show ¬ (16 : Int32) < nI (z - p) from nI_nlt (b := z - p) (a := 16) (by omega) (by omega))], by omega, by omega, by omega, by omega⟩
  have hKb : ∀ s, s < 256 → 0 < L s → K s < 65536 := by
    intro s hs hl
    have a1 := (hW4 s hs hl).1
    have a2 : 2 ^ L s ≤ 2 ^ 16 := Nat.pow_le_pow_right (by omega) (hW3 s hs)
    have a3 : (2 : Nat) ^ 16 = 65536 := by decide
    omega
  obtain ⟨r1, e1, rfl⟩ := ahead_ok (z := z) (p := p) (n := th) hth1 (by omega) hz h1
  have hV : vl B p th < 2 ^ 31 := Nat.lt_of_lt_of_le (vl_lt B p th) (Nat.pow_le_pow_right (by omega) (by omega))
  have key : ∀ s, s < 256 → 0 < L s → ((∀ k, k < L s → k < z - p → (K s).testBit (L s - 1 - k) = B (p + k)) ↔ ((L s ≤ z - p ∧ fulW L K (vl B p th) th s) ∨ (z - p < L s ∧ begW L K (vl B p th) th s))) := by
    intro s hs hl
    have a1 := (hW4 s hs hl).1
    have a3 := hW3 s hs
    by_cases c : L s ≤ z - p
    · have t1 := tb_vl (B := B) (p := p) a1 (L s) (Nat.le_refl _)
      rw [Nat.sub_self, Nat.pow_zero, Nat.div_one] at t1
      have cth : L s ≤ th := by omega
      have e3 : vl B p th / 2 ^ (th - L s) = vl B p (L s) := by
        have := vl_div B p (L s) (th - L s)
        rw [show L s + (th - L s) = th by omega] at this
        exact this
      constructor
      · intro h
        refine Or.inl ⟨c, cth, ?_⟩
        rw [e3]
        exact (t1.1 (fun k hk => h k hk (by omega))).symm
      · intro h k hk _
        rcases h with ⟨_, _, q⟩ | ⟨q, _⟩
        · rw [e3] at q
          exact t1.2 q.symm k hk
        · omega
    · have t1 := tb_vl (B := B) (p := p) a1 (z - p) (by omega)
      have cth : th = z - p := by omega
      constructor
      · intro h
        refine Or.inr ⟨by omega, by omega, ?_⟩
        rw [cth]
        exact t1.1 (fun k hk => h k (by omega) hk)
      · intro h k _ hk
        rcases h with ⟨q, _⟩ | ⟨_, _, q⟩
        · omega
        · rw [cth] at q
          exact t1.2 q k hk
  have uniq : ∀ i j, i < w → j < w → fulW L K (vl B p th) th (S i) → fulW L K (vl B p th) th (S j) → ¬ i < j := by
    intro i j hi hj f1 f2 hij
    obtain ⟨q1, q2⟩ := hW6 i j hij hj
    have b1 : vl B p th / 2 ^ (th - L (S i)) = vl B p th / 2 ^ (th - L (S j)) / 2 ^ (L (S j) - L (S i)) := by
      rw [← div_pow2]; congr 2; have := f2.1; omega
    rw [f1.2, f2.2] at b1
    have b2 : K (S i) + 1 ≤ K (S j) / 2 ^ (L (S j) - L (S i)) := (Nat.le_div_iff_mul_le (Nat.two_pow_pos _)).2 q2
    omega
  have mloop : ∀ t d x, Ok (fun q => (∃ s, s < 256 ∧ 0 < L s ∧ fulW L K (vl B p th) th s ∧ q = (nI s, (0 : Int32), nI p + nI (L s))) ∨ ((∀ s, s < 256 → 0 < L s → ¬ fulW L K (vl B p th) th s) ∧ ((q = (-1, 0, nI p) ∧ ∃ s, s < 256 ∧ 0 < L s ∧ begW L K (vl B p th) th s) ∨ (q = (-2, 0, nI p) ∧ ∀ s, s < 256 → 0 < L s → ¬ begW L K (vl B p th) th s)))) (f_MM_get t d (nI w) x (nI z) (nI p) ml mk mr) := by
    intro t d x
    unfold f_MM_get
    rw [es]
    apply Ok_ifF (nI_ne0 (by omega) (by omega))
    apply Ok_Lp2 (fun u x4 x5 => ∃ i, i ≤ 256 ∧ u = 256 - i ∧ x5 = nI i ∧ (∀ j, j < i → 0 < L j → ¬ fulW L K (vl B p th) th j) ∧ ((x4 = 0 ∧ ∀ j, j < i → 0 < L j → ¬ begW L K (vl B p th) th j) ∨ (x4 = 1 ∧ ∃ j, j < i ∧ 0 < L j ∧ begW L K (vl B p th) th j))) 256 ⟨0, by omega, rfl, rfl, fun j hj => by omega, Or.inl ⟨rfl, fun j hj => by omega⟩⟩ (by omega)
    rintro u x4 x5 ⟨i, hi, rfl, rfl, hF, hG⟩ again ih
    apply Ok_le 256 i
    · intro c
      have : i = 256 := by omega
      subst this
      rcases hG with ⟨rfl, hG⟩ | ⟨rfl, hG⟩
      · apply Ok_ifT rfl
        exact Ok_ret (Or.inr ⟨hF, Or.inr ⟨rfl, hG⟩⟩)
      · apply Ok_ifF ne10
        exact Ok_ret (Or.inr ⟨hF, Or.inl ⟨rfl, hG⟩⟩)
    · intro c
      have hl16 := hW3 i c
      apply Ok_rd i
      rw [(hL i c).2]
      apply Ok_le (L i) 0
      · intro l0
        refine ih (256 - (i + 1)) _ _ (by omega) ⟨i + 1, by omega, rfl, nI_1 i, ?_, ?_⟩
        · intro j hj
          by_cases e : j = i
          · subst e; intro q; omega
          · exact hF j (by omega)
        · rcases hG with ⟨a1, a2⟩ | ⟨a1, j, a2, a3⟩
          · refine Or.inl ⟨a1, fun j hj => ?_⟩
            by_cases e : j = i
            · subst e; intro q; omega
            · exact a2 j (by omega)
          · exact Or.inr ⟨a1, j, by omega, a3⟩
      · intro l0
        apply Ok_bd1 _ (stands_ok (s := i) (p := p) (z := z) (Ls := L i) (Ks := K i) (rest := z - p) 0 d (nI w) x c (hL i c).2 hl16 l0 (hK i c l0).2 (by omega) hz h2)
        intro v hv
        have kk := key i c l0
        rcases hv with ⟨rfl, hv⟩ | ⟨rfl, k, k1, k2, k3⟩
        · apply Ok_ifF ne10
          apply Ok_rd i
          rw [(hL i c).2]
          apply Ok_lt (z - p) (L i)
          · intro c2
            have kb : begW L K (vl B p th) th i := by
              rcases kk.1 hv with ⟨q, _⟩ | ⟨_, q⟩
              · omega
              · exact q
            refine ih (256 - (i + 1)) _ _ (by omega) ⟨i + 1, by omega, rfl, nI_1 i, ?_, Or.inr ⟨rfl, i, by omega, l0, kb⟩⟩
            intro j hj
            by_cases e : j = i
            · subst e; intro _ q; have := q.1; have := kb.1; omega
            · exact hF j (by omega)
          · intro c2
            have kb : fulW L K (vl B p th) th i := by
              rcases kk.1 hv with ⟨_, q⟩ | ⟨q, _⟩
              · exact q
              · omega
            apply Ok_rd i
            rw [(hL i c).2]
            exact Ok_ret (Or.inl ⟨i, c, l0, kb, rfl⟩)
        · have kn : ¬ ((L i ≤ z - p ∧ fulW L K (vl B p th) th i) ∨ (z - p < L i ∧ begW L K (vl B p th) th i)) := fun q => k3 (kk.2 q k k1 k2)
          have nf : ¬ fulW L K (vl B p th) th i := fun q => kn (Or.inl ⟨by have := q.1; omega, q⟩)
          have nb : ¬ begW L K (vl B p th) th i := fun q => kn (Or.inr ⟨by have := q.1; omega, q⟩)
          apply Ok_ifT rfl
          refine ih (256 - (i + 1)) _ _ (by omega) ⟨i + 1, by omega, rfl, nI_1 i, ?_, ?_⟩
          · intro j hj
            by_cases e : j = i
            · subst e; intro _; exact nf
            · exact hF j (by omega)
          · rcases hG with ⟨a1, a2⟩ | ⟨a1, j, a2, a3⟩
            · refine Or.inl ⟨a1, fun j hj => ?_⟩
              by_cases e : j = i
              · subst e; intro _; exact nb
              · exact a2 j (by omega)
            · exact Or.inr ⟨a1, j, by omega, a3⟩
  have cget : ∀ r', f_FT_symbolAhead (nI w) ty tl tk (nI (vl B p th)) (nI th) = some r' → f_FF_get (nI z) (nI p) rc (nI w) ty tl tk = (if r' < 0 then (some (r', nI p)) else (rd 256 tl r' (fun v9 => some (r', (nI p + v9))))) := by
    intro r' e
    unfold f_FF_get f_FR_left
    rw [bd1_eq rfl, es, hth, if_neg (nI_ne0 hth4 (by omega)), bd1_eq e1, bd1_eq e]
  obtain ⟨r, e2, g⟩ := symAhead_ok (w := w) (V := vl B p th) (th := th) (ty := ty) (tl := tl) (tk := tk) (S := S) (L := L) (K := K) hw hV hth1 (fun i hi => ⟨(hS i hi).1, hW2 i hi⟩) (fun s hs => ⟨(hL s hs).1, hW3 s hs⟩) (fun i hi => ⟨(hK _ (hW2 i hi) (hW5 i hi)).1, by have := hKb _ (hW2 i hi) (hW5 i hi); omega⟩)
  rcases g with ⟨i, hi, fi, rfl⟩ | ⟨nf, g⟩
  · refine ⟨nI (S i), nI p + nI (L (S i)), nI p + nI (L (S i)), ?_, ?_, ⟨z, p + L (S i), B, rfl, nI_add _ _, rfl, nI_add _ _, by have := fi.1; omega, hz, h1, h2⟩⟩
    · rw [cget _ e2, if_neg (nI_pos (by have := hW2 i hi; omega)), rd_nI (hW2 i hi) (by omega), (hL _ (hW2 i hi)).1]
    · intro t d x
      obtain ⟨q, eq, hq⟩ := mloop t d x
      rw [eq]
      rcases hq with ⟨s, hs, l0, fs, rfl⟩ | ⟨nq, _⟩
      · obtain ⟨_, _, j, hj, rfl⟩ := hW4 s hs l0
        have u1 := uniq i j hi hj fi fs
        have u2 := uniq j i hj hi fs fi
        have : i = j := by omega
        subst this
        rfl
      · exact absurd fi (nq _ (hW2 i hi) (hW5 i hi))
  · rcases g with ⟨rfl, i, hi, bi⟩ | ⟨rfl, nb⟩
    · refine ⟨-1, nI p, nI p, ?_, ?_, hh⟩
      · rw [cget _ e2, if_pos (by decide)]
      · intro t d x
        obtain ⟨q, eq, hq⟩ := mloop t d x
        rw [eq]
        rcases hq with ⟨s, hs, l0, fs, rfl⟩ | ⟨nq, ⟨rfl, _⟩ | ⟨rfl, hb⟩⟩
        · obtain ⟨_, _, j, hj, rfl⟩ := hW4 s hs l0
          exact absurd fs (nf j hj)
        · rfl
        · exact absurd bi (hb _ (hW2 i hi) (hW5 i hi))
    · refine ⟨-2, nI p, nI p, ?_, ?_, hh⟩
      · rw [cget _ e2, if_pos (by decide)]
      · intro t d x
        obtain ⟨q, eq, hq⟩ := mloop t d x
        rw [eq]
        rcases hq with ⟨s, hs, l0, fs, rfl⟩ | ⟨nq, ⟨rfl, s, hs, l0, bs⟩ | ⟨rfl, hb⟩⟩
        · obtain ⟨_, _, j, hj, rfl⟩ := hW4 s hs l0
          exact absurd fs (nf j hj)
        · obtain ⟨_, _, j, hj, rfl⟩ := hW4 s hs l0
          exact absurd bs (nb j hj)
        · rfl
