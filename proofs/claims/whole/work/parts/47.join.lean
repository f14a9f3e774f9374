/-! joining groups, as pure words over the numbers of 257 places -/
def lfn (W : Nat → Nat) (but : Nat) : Nat → Nat
  | 0 => 1000
  | n + 1 => if n ≠ but ∧ 0 < W n ∧ (lfn W but n = 1000 ∨ W n ≤ W (lfn W but n)) then n else lfn W but n
def LfS (W : Nat → Nat) (but n r : Nat) : Prop := (r = 1000 ∧ ∀ p, p < n → p ≠ but → W p = 0) ∨ (r < n ∧ r ≠ but ∧ 0 < W r ∧ ∀ p, p < n → p ≠ but → 0 < W p → W r < W p ∨ (W r = W p ∧ p ≤ r))
theorem lfn_spec (W : Nat → Nat) (but : Nat) : ∀ n, n ≤ 257 → LfS W but n (lfn W but n) := by
  intro n
  induction n with
  | zero => intro _; exact Or.inl ⟨rfl, fun p hp => by omega⟩
  | succ n ih =>
    intro hn
    have e : lfn W but (n + 1) = if n ≠ but ∧ 0 < W n ∧ (lfn W but n = 1000 ∨ W n ≤ W (lfn W but n)) then n else lfn W but n := rfl
    have ih' := ih (by omega)
    by_cases c : n ≠ but ∧ 0 < W n ∧ (lfn W but n = 1000 ∨ W n ≤ W (lfn W but n))
    · rw [e, if_pos c]
      refine Or.inr ⟨by omega, c.1, c.2.1, ?_⟩
      intro p hp hb h0
      by_cases g : p = n
      · subst g; exact Or.inr ⟨rfl, Nat.le_refl _⟩
      · rcases ih' with ⟨_, q⟩ | ⟨q0, _, _, q⟩
        · have := q p (by omega) hb; omega
        · have q1 := q p (by omega) hb h0
          have c3 := c.2.2
          rcases c3 with c3 | c3
          · omega
          · omega
    · rw [e, if_neg c]
      rcases ih' with ⟨q0, q⟩ | ⟨q0, q1, q2, q⟩
      · refine Or.inl ⟨q0, ?_⟩
        intro p hp hb
        by_cases g : p = n
        · subst g
          apply Nat.eq_zero_of_not_pos
          intro z
          exact c ⟨hb, z, Or.inl q0⟩
        · exact q p (by omega) hb
      · refine Or.inr ⟨by omega, q1, q2, ?_⟩
        intro p hp hb h0
        by_cases g : p = n
        · subst g
          apply Or.inl
          apply Nat.lt_of_not_le
          intro z
          exact c ⟨hb, h0, Or.inr z⟩
        · exact q p (by omega) hb h0
def Lst (A : Nat → Prop) (W : Nat → Nat) (a : Nat) : Prop := A a ∧ ∀ p, A p → W a < W p ∨ (W a = W p ∧ p ≤ a)
theorem Lst_uniq {A : Nat → Prop} {W : Nat → Nat} {a b : Nat} (h1 : Lst A W a) (h2 : Lst A W b) : a = b := by
  have q1 := h1.2 b h2.1
  have q2 := h2.2 a h1.1
  omega
theorem sm_two {f : Nat → Nat} {a b : Nat} (hab : a < b) : ∀ n, b < n → f a + f b ≤ sm f n := by
  intro n
  induction n with
  | zero => intro h; omega
  | succ n ih =>
    intro h
    show f a + f b ≤ sm f n + f n
    by_cases e : b = n
    · subst e; have := sm_le (f := f) b hab; omega
    · have := ih (by omega); omega
theorem kd_pos {W : Nat → Nat} {n p : Nat} (hp : p < n) (h : 0 < W p) : 1 ≤ kd W n := by
  have := sm_le (f := fun s => if 0 < W s then 1 else 0) n hp
  simp only [if_pos h] at this
  exact this
theorem kd_two {W : Nat → Nat} {n p q : Nat} (hpq : p ≠ q) (hp : p < n) (hq : q < n) (h1 : 0 < W p) (h2 : 0 < W q) : 2 ≤ kd W n := by
  rcases Nat.lt_or_gt_of_ne hpq with c | c
  · have := sm_two (f := fun s => if 0 < W s then 1 else 0) c n hq
    simp only [if_pos h1, if_pos h2] at this
    exact this
  · have := sm_two (f := fun s => if 0 < W s then 1 else 0) c n hp
    simp only [if_pos h1, if_pos h2] at this
    exact this
theorem kd_up {W : Nat → Nat} {n j v : Nat} (hj : j < n) : kd (up W j v) n + (if 0 < W j then 1 else 0) = kd W n + (if 0 < v then 1 else 0) := by
  have e : kd (up W j v) n = sm (up (fun s => if 0 < W s then 1 else 0) j (if 0 < v then 1 else 0)) n := by
    apply sm_congr
    intro i _
    by_cases c : i = j
    · subst c; rw [up_s, up_s]
    · rw [up_n c, up_n c]
  rw [e]
  exact sm_up (g := fun s => if 0 < W s then 1 else 0) n hj
theorem kd_0 {W : Nat → Nat} {n : Nat} (h : ∀ p, p < n → W p = 0) : kd W n = 0 := sm_0 n (fun i hi => by rw [h i hi]; rfl)
theorem kd_one {W : Nat → Nat} {n a : Nat} (h : ∀ p, p < n → p ≠ a → W p = 0) : kd W n ≤ 1 := by
  by_cases ha : a < n
  · have e := kd_up (W := W) (v := 0) ha
    have e0 : kd (up W a 0) n = 0 := by
      apply kd_0
      intro p hp
      by_cases c : p = a
      · subst c; exact up_s
      · rw [up_n c]; exact h p hp c
    rw [e0, if_neg (Nat.lt_irrefl 0)] at e
    by_cases c : 0 < W a
    · rw [if_pos c] at e; omega
    · rw [if_neg c] at e; omega
  · rw [kd_0 (fun p hp => h p hp (by omega))]; omega
def fa (W : Nat → Nat) : Nat := lfn W 1000 257
def fb (W : Nat → Nat) : Nat := lfn W (fa W) 257
def Act (W : Nat → Nat) (p : Nat) : Prop := p < 257 ∧ 0 < W p
theorem fa_spec {W : Nat → Nat} (h : 1 ≤ kd W 257) : Lst (Act W) W (fa W) := by
  rcases lfn_spec W 1000 257 (Nat.le_refl _) with ⟨_, q⟩ | ⟨q0, q1, q2, q⟩
  · rw [kd_0 (fun p hp => q p hp (by omega))] at h; omega
  · exact ⟨⟨q0, q2⟩, fun p hp => q p hp.1 (by have := hp.1; omega) hp.2⟩
theorem fb_spec {W : Nat → Nat} (h : 2 ≤ kd W 257) : Lst (fun p => Act W p ∧ p ≠ fa W) W (fb W) := by
  rcases lfn_spec W (fa W) 257 (Nat.le_refl _) with ⟨_, q⟩ | ⟨q0, q1, q2, q⟩
  · have := kd_one q; omega
  · exact ⟨⟨⟨q0, q2⟩, q1⟩, fun p hp => q p hp.1.1 hp.2 hp.1.2⟩
theorem fb_none {W : Nat → Nat} (h : kd W 257 = 1) : fb W = 1000 := by
  have ha := fa_spec (W := W) (by omega)
  rcases lfn_spec W (fa W) 257 (Nat.le_refl _) with ⟨q, _⟩ | ⟨q0, q1, q2, _⟩
  · exact q
  · have := kd_two q1 q0 ha.1.1 q2 ha.1.2; omega
def jnW (W : Nat → Nat) : Nat → Nat := up (up W (fa W) (W (fa W) + W (fb W))) (fb W) 0
def jW (W0 : Nat → Nat) : Nat → Nat → Nat
  | 0 => W0
  | k + 1 => jnW (jW W0 k)
def jV (W0 : Nat → Nat) : Nat → Nat → Nat
  | 0 => W0
  | k + 1 => up (jV W0 k) (fa (jW W0 k)) (jV W0 k (fa (jW W0 k)) + jV W0 k (fb (jW W0 k)))
def jG (W0 : Nat → Nat) : Nat → Nat → Nat
  | 0 => fun p => p
  | k + 1 => fun p => if jG W0 k p = fa (jW W0 k) ∨ jG W0 k p = fb (jW W0 k) then fa (jW W0 k) else jG W0 k p
def jB (W0 : Nat → Nat) : Nat → Nat → Nat
  | 0 => fun _ => 0
  | k + 1 => fun p => if jG W0 k p = fa (jW W0 k) ∨ jG W0 k p = fb (jW W0 k) then jB W0 k p + 1 else jB W0 k p
def jN (W0 : Nat → Nat) : Nat → Nat → Nat
  | 0 => fun p => p
  | k + 1 => up (jN W0 k) (fa (jW W0 k)) (257 + k)
def jP (W0 : Nat → Nat) : Nat → Nat → Nat
  | 0 => fun _ => 0
  | k + 1 => up (up (jP W0 k) (jN W0 k (fa (jW W0 k))) (257 + k)) (jN W0 k (fb (jW W0 k))) (257 + k)
theorem jn_act {W : Nat → Nat} (h : 2 ≤ kd W 257) (q : Nat) : Act (jnW W) q ↔ Act W q ∧ q ≠ fb W := by
  have ha := fa_spec (W := W) (by omega)
  have hb := fb_spec h
  have hne : fa W ≠ fb W := fun z => hb.1.2 z.symm
  unfold Act jnW
  by_cases e1 : q = fb W
  · subst e1; rw [up_s]
    constructor
    · intro z; exact absurd z.2 (Nat.lt_irrefl 0)
    · intro z; exact absurd rfl z.2
  · rw [up_n e1]
    by_cases e2 : q = fa W
    · subst e2; rw [up_s]
      have := ha.1.2
      constructor
      · intro z; exact ⟨ha.1, hne⟩
      · intro z; exact ⟨ha.1.1, by omega⟩
    · rw [up_n e2]
      constructor
      · intro z; exact ⟨z, e1⟩
      · intro z; exact z.1
theorem jn_kd {W : Nat → Nat} (h : 2 ≤ kd W 257) : kd (jnW W) 257 + 1 = kd W 257 := by
  have ha := fa_spec (W := W) (by omega)
  have hb := fb_spec h
  have hne : fa W ≠ fb W := fun z => hb.1.2 z.symm
  have e1 := kd_up (W := W) (v := W (fa W) + W (fb W)) ha.1.1
  have e2 := kd_up (W := up W (fa W) (W (fa W) + W (fb W))) (v := 0) hb.1.1.1
  have p1 := ha.1.2
  have p2 := hb.1.1.2
  rw [if_pos p1, if_pos (by omega)] at e1
  rw [up_n hne.symm, if_pos p2, if_neg (Nat.lt_irrefl 0)] at e2
  unfold jnW
  omega
theorem jn_sm {W : Nat → Nat} (h : 2 ≤ kd W 257) : sm (jnW W) 257 = sm W 257 := by
  have ha := fa_spec (W := W) (by omega)
  have hb := fb_spec h
  have hne : fa W ≠ fb W := fun z => hb.1.2 z.symm
  have e1 := sm_up (g := W) (v := W (fa W) + W (fb W)) 257 ha.1.1
  have e2 := sm_up (g := up W (fa W) (W (fa W) + W (fb W))) (v := 0) 257 hb.1.1.1
  rw [up_n hne.symm] at e2
  unfold jnW
  omega
theorem jW_kd (W0 : Nat → Nat) (h0 : 1 ≤ kd W0 257) : ∀ k, k < kd W0 257 → kd (jW W0 k) 257 = kd W0 257 - k := by
  intro k
  induction k with
  | zero => intro _; rfl
  | succ k ih =>
    intro hk
    have q := ih (by omega)
    have q2 := jn_kd (W := jW W0 k) (by omega)
    show kd (jnW (jW W0 k)) 257 = _
    omega
theorem jW_sm (W0 : Nat → Nat) (h0 : 1 ≤ kd W0 257) : ∀ k, k < kd W0 257 → sm (jW W0 k) 257 = sm W0 257 := by
  intro k
  induction k with
  | zero => intro _; rfl
  | succ k ih =>
    intro hk
    have q := jW_kd W0 h0 k (by omega)
    rw [← ih (by omega)]
    exact jn_sm (W := jW W0 k) (by omega)
/-- the weights that the finder keeps -/
def VI (W0 W V : Nat → Nat) (M : Nat) : Prop := (∀ p, Act W p → V p = W p) ∧ (∀ p, p < 257 → V p ≤ M) ∧ (∀ p, p < 257 → (0 < V p ↔ 0 < W0 p))
theorem jV_ok (W0 : Nat → Nat) (h0 : 1 ≤ kd W0 257) : ∀ k, k < kd W0 257 → VI W0 (jW W0 k) (jV W0 k) (sm W0 257) := by
  intro k
  induction k with
  | zero => intro _; exact ⟨fun p _ => rfl, fun p hp => sm_le 257 hp, fun p _ => Iff.rfl⟩
  | succ k ih =>
    intro hk
    obtain ⟨q1, q2, q3⟩ := ih (by omega)
    have hkd := jW_kd W0 h0 k (by omega)
    have hsm := jW_sm W0 h0 (k + 1) hk
    have ha := fa_spec (W := jW W0 k) (by omega)
    have hb := fb_spec (W := jW W0 k) (by omega)
    have hne : fa (jW W0 k) ≠ fb (jW W0 k) := fun z => hb.1.2 z.symm
    have va := q1 _ ha.1
    have vb := q1 _ hb.1.1
    have hWa : jW W0 (k + 1) (fa (jW W0 k)) = jW W0 k (fa (jW W0 k)) + jW W0 k (fb (jW W0 k)) := by
      show up (up (jW W0 k) (fa (jW W0 k)) (jW W0 k (fa (jW W0 k)) + jW W0 k (fb (jW W0 k)))) (fb (jW W0 k)) 0 (fa (jW W0 k)) = _
      rw [up_n hne, up_s]
    have hV : jV W0 (k + 1) = up (jV W0 k) (fa (jW W0 k)) (jV W0 k (fa (jW W0 k)) + jV W0 k (fb (jW W0 k))) := rfl
    refine ⟨?_, ?_, ?_⟩
    · intro p hp
      have hp' := (jn_act (W := jW W0 k) (by omega) p).1 hp
      rw [hV]
      by_cases e : p = fa (jW W0 k)
      · subst e; rw [up_s, va, vb, hWa]
      · rw [up_n e, q1 p hp'.1]
        show _ = up (up (jW W0 k) (fa (jW W0 k)) (jW W0 k (fa (jW W0 k)) + jW W0 k (fb (jW W0 k)))) (fb (jW W0 k)) 0 p
        rw [up_n hp'.2, up_n e]
    · intro p hp
      rw [hV]
      by_cases e : p = fa (jW W0 k)
      · subst e; rw [up_s, va, vb, ← hWa, ← hsm]; exact sm_le 257 hp
      · rw [up_n e]; exact q2 p hp
    · intro p hp
      rw [hV]
      by_cases e : p = fa (jW W0 k)
      · subst e
        rw [up_s, ← q3 _ hp]
        have := ha.1.2
        omega
      · rw [up_n e]; exact q3 p hp
/-- a node that has a parent -/
def NR (W0 : Nat → Nat) (k x : Nat) : Prop := x < 257 + k ∧ (x < 257 → 0 < W0 x) ∧ ∀ q, Act (jW W0 k) q → jN W0 k q ≠ x
def TF (W0 : Nat → Nat) (k : Nat) : Prop :=
  (∀ p, Act (jW W0 k) p → jN W0 k p < 257 + k ∧ (jN W0 k p < 257 → 0 < W0 (jN W0 k p))) ∧
  (∀ p q, Act (jW W0 k) p → Act (jW W0 k) q → jN W0 k p = jN W0 k q → p = q) ∧
  (∀ x, NR W0 k x → x < jP W0 k x ∧ 257 ≤ jP W0 k x ∧ jP W0 k x < 257 + k) ∧
  (∀ δ : Nat → Nat, (∀ x, NR W0 k x → δ x = δ (jP W0 k x) + 1) → ∀ p, p < 257 → 0 < W0 p → δ p = jB W0 k p + δ (jN W0 k (jG W0 k p))) ∧
  (∀ p, p < 257 → 0 < W0 p → Act (jW W0 k) (jG W0 k p)) ∧
  (1 ≤ k → ∃ q, Act (jW W0 k) q ∧ jN W0 k q = 256 + k) ∧
  (∀ p, jB W0 k p ≤ k)
theorem TF_all (W0 : Nat → Nat) (h0 : 1 ≤ kd W0 257) : ∀ k, k < kd W0 257 → TF W0 k := by
  intro k
  induction k with
  | zero =>
    intro _
    refine ⟨fun p hp => ⟨by have := hp.1; show p < 257 + 0; omega, fun _ => hp.2⟩, fun p q _ _ e => e, ?_, ?_, fun p hp h => ⟨hp, h⟩, fun h => by omega, fun p => Nat.le_refl 0⟩
    · intro x hx
      exact absurd rfl (hx.2.2 x ⟨by have := hx.1; omega, hx.2.1 (by have := hx.1; omega)⟩)
    · intro δ _ p _ _
      show δ p = 0 + δ p
      omega
  | succ k ih =>
    intro hk
    obtain ⟨t1, t2, t3, t4, t5, t6, t7⟩ := ih (by omega)
    have hkd := jW_kd W0 h0 k (by omega)
    have ha := fa_spec (W := jW W0 k) (by omega)
    have hb := fb_spec (W := jW W0 k) (by omega)
    have hact := jn_act (W := jW W0 k) (by omega)
    have eW : jW W0 (k + 1) = jnW (jW W0 k) := rfl
    have eN : jN W0 (k + 1) = up (jN W0 k) (fa (jW W0 k)) (257 + k) := rfl
    have eP : jP W0 (k + 1) = up (up (jP W0 k) (jN W0 k (fa (jW W0 k))) (257 + k)) (jN W0 k (fb (jW W0 k))) (257 + k) := rfl
    have eG : ∀ p, jG W0 (k + 1) p = if jG W0 k p = fa (jW W0 k) ∨ jG W0 k p = fb (jW W0 k) then fa (jW W0 k) else jG W0 k p := fun p => rfl
    have eB : ∀ p, jB W0 (k + 1) p = if jG W0 k p = fa (jW W0 k) ∨ jG W0 k p = fb (jW W0 k) then jB W0 k p + 1 else jB W0 k p := fun p => rfl
    generalize fa (jW W0 k) = a at *
    generalize fb (jW W0 k) = b at *
    obtain ⟨aA, _⟩ := ha
    obtain ⟨⟨bA, bne⟩, _⟩ := hb
    have ta := t1 a aA
    have tb := t1 b bA
    have aA' : Act (jW W0 (k + 1)) a := (hact a).2 ⟨aA, fun z => bne z.symm⟩
    have Na : jN W0 (k + 1) a = 257 + k := by rw [eN, up_s]
    have Nn : ∀ q, q ≠ a → jN W0 (k + 1) q = jN W0 k q := fun q h => by rw [eN, up_n h]
    have Pa : jP W0 (k + 1) (jN W0 k a) = 257 + k := by
      rw [eP]
      by_cases c : jN W0 k a = jN W0 k b
      · rw [c, up_s]
      · rw [up_n c, up_s]
    have Pb : jP W0 (k + 1) (jN W0 k b) = 257 + k := by rw [eP, up_s]
    have Pn : ∀ x, x ≠ jN W0 k a → x ≠ jN W0 k b → jP W0 (k + 1) x = jP W0 k x := fun x h1 h2 => by rw [eP, up_n h2, up_n h1]
    have up1 : ∀ x, NR W0 k x → NR W0 (k + 1) x ∧ jP W0 (k + 1) x = jP W0 k x := by
      intro x hx
      obtain ⟨x1, x2, x3⟩ := hx
      refine ⟨⟨by omega, x2, ?_⟩, Pn x (fun z => x3 a aA z.symm) (fun z => x3 b bA z.symm)⟩
      intro q hq
      by_cases c : q = a
      · subst c; rw [Na]; omega
      · rw [Nn q c]; exact x3 q ((hact q).1 hq).1
    have upa : NR W0 (k + 1) (jN W0 k a) := by
      refine ⟨by omega, ta.2, ?_⟩
      intro q hq
      by_cases c : q = a
      · subst c; rw [Na]; omega
      · rw [Nn q c]; exact fun z => c (t2 q a ((hact q).1 hq).1 aA z)
    have upb : NR W0 (k + 1) (jN W0 k b) := by
      refine ⟨by omega, tb.2, ?_⟩
      intro q hq
      by_cases c : q = a
      · subst c; rw [Na]; omega
      · rw [Nn q c]; exact fun z => ((hact q).1 hq).2 (t2 q b ((hact q).1 hq).1 bA z)
    refine ⟨?_, ?_, ?_, ?_, ?_, ?_, ?_⟩
    · intro p hp
      by_cases c : p = a
      · subst c; rw [Na]; exact ⟨by omega, fun z => by omega⟩
      · rw [Nn p c]
        have := t1 p ((hact p).1 hp).1
        exact ⟨by omega, this.2⟩
    · intro p q hp hq e
      have hp' := ((hact p).1 hp).1
      have hq' := ((hact q).1 hq).1
      have b1 := (t1 p hp').1
      have b2 := (t1 q hq').1
      by_cases c : p = a
      · by_cases c2 : q = a
        · rw [c, c2]
        · rw [c, Na, Nn q c2] at e; omega
      · by_cases c2 : q = a
        · rw [c2, Na, Nn p c] at e; omega
        · rw [Nn p c, Nn q c2] at e; exact t2 p q hp' hq' e
    · intro x hx
      by_cases c1 : x = jN W0 k a
      · subst c1; rw [Pa]; omega
      · by_cases c2 : x = jN W0 k b
        · subst c2; rw [Pb]; omega
        · rw [Pn x c1 c2]
          obtain ⟨x1, x2, x3⟩ := hx
          have xk : NR W0 k x := by
            refine ⟨?_, x2, ?_⟩
            · have := x3 a aA'
              rw [Na] at this
              omega
            · intro q hq
              by_cases d1 : q = a
              · subst d1; exact fun z => c1 z.symm
              · by_cases d2 : q = b
                · subst d2; exact fun z => c2 z.symm
                · have := x3 q ((hact q).2 ⟨hq, d2⟩)
                  rw [Nn q d1] at this
                  exact this
          have := t3 x xk
          omega
    · intro δ hδ p hp h
      have q1 := t4 δ (fun x hx => by rw [← (up1 x hx).2]; exact hδ x (up1 x hx).1) p hp h
      have da := hδ _ upa
      have db := hδ _ upb
      rw [Pa] at da
      rw [Pb] at db
      rw [eB, eG]
      by_cases c : jG W0 k p = a ∨ jG W0 k p = b
      · rw [if_pos c, if_pos c, Na]
        rcases c with c | c
        · rw [c] at q1; omega
        · rw [c] at q1; omega
      · rw [if_neg c, if_neg c, Nn _ (fun z => c (Or.inl z))]
        exact q1
    · intro p hp h
      rw [eG]
      by_cases c : jG W0 k p = a ∨ jG W0 k p = b
      · rw [if_pos c]; exact aA'
      · rw [if_neg c]; exact (hact _).2 ⟨t5 p hp h, fun z => c (Or.inr z)⟩
    · intro _
      exact ⟨a, aA', by rw [Na]; omega⟩
    · intro p
      rw [eB]
      have := t7 p
      by_cases c : jG W0 k p = a ∨ jG W0 k p = b
      · rw [if_pos c]; omega
      · rw [if_neg c]; omega
theorem sm_lin {f g h : Nat → Nat} : ∀ n, (∀ i, i < n → 2 * h i = f i + g i) → 2 * sm h n = sm f n + sm g n := by
  intro n
  induction n with
  | zero => intro _; rfl
  | succ n ih =>
    intro q
    have a := ih (fun i hi => q i (by omega))
    have b := q n (by omega)
    show 2 * (sm h n + h n) = sm f n + f n + (sm g n + g n)
    omega
/-- the share of the places below q -/
def kq (W0 : Nat → Nat) (k q p : Nat) : Nat := if 0 < W0 p ∧ jG W0 k p = q then 2 ^ (299 - jB W0 k p) else 0
theorem kraft_all (W0 : Nat → Nat) (h0 : 1 ≤ kd W0 257) : ∀ k, k < kd W0 257 → ∀ q, Act (jW W0 k) q → sm (kq W0 k q) 257 = 2 ^ 299 := by
  have hle := kd_le W0 257
  intro k
  induction k with
  | zero =>
    intro _ q hq
    have e := sm_up (g := fun _ => 0) (j := q) (v := 2 ^ 299) 257 hq.1
    have z : sm (fun _ => 0) 257 = 0 := sm_0 257 (fun i _ => rfl)
    have c : sm (kq W0 0 q) 257 = sm (up (fun _ => 0) q (2 ^ 299)) 257 := by
      apply sm_congr
      intro i _
      show (if 0 < W0 i ∧ i = q then 2 ^ (299 - 0) else 0) = _
      by_cases d : i = q
      · subst d; rw [if_pos ⟨hq.2, rfl⟩, up_s]
      · rw [if_neg (fun z => d z.2), up_n d]
    rw [c]
    rw [z] at e
    omega
  | succ k ih =>
    intro hk q hq
    have ih' := ih (by omega)
    have hkd := jW_kd W0 h0 k (by omega)
    have ha := fa_spec (W := jW W0 k) (by omega)
    have hb := fb_spec (W := jW W0 k) (by omega)
    have hact := jn_act (W := jW W0 k) (by omega)
    have t7 := (TF_all W0 h0 k (by omega)).2.2.2.2.2.2
    have eG : ∀ p, jG W0 (k + 1) p = if jG W0 k p = fa (jW W0 k) ∨ jG W0 k p = fb (jW W0 k) then fa (jW W0 k) else jG W0 k p := fun p => rfl
    have eB : ∀ p, jB W0 (k + 1) p = if jG W0 k p = fa (jW W0 k) ∨ jG W0 k p = fb (jW W0 k) then jB W0 k p + 1 else jB W0 k p := fun p => rfl
    have hq' := (hact q).1 hq
    generalize fa (jW W0 k) = a at *
    generalize fb (jW W0 k) = b at *
    have bne : b ≠ a := hb.1.2
    by_cases c : q = a
    · subst c
      have e1 := ih' q ha.1
      have e2 := ih' b hb.1.1
      have e3 : 2 * sm (kq W0 (k + 1) q) 257 = sm (kq W0 k q) 257 + sm (kq W0 k b) 257 := by
        apply sm_lin
        intro p _
        unfold kq
        rw [eG, eB]
        by_cases w : 0 < W0 p
        · by_cases d1 : jG W0 k p = q
          · rw [if_pos (Or.inl d1), if_pos (Or.inl d1), if_pos ⟨w, rfl⟩, if_pos ⟨w, d1⟩, if_neg (fun z => bne (z.2.symm.trans d1))]
            have := t7 p
            rw [show 299 - jB W0 k p = 299 - (jB W0 k p + 1) + 1 by omega, Nat.pow_succ]
            omega
          · by_cases d2 : jG W0 k p = b
            · rw [if_pos (Or.inr d2), if_pos (Or.inr d2), if_pos ⟨w, rfl⟩, if_neg (fun z => d1 z.2), if_pos ⟨w, d2⟩]
              have := t7 p
              rw [show 299 - jB W0 k p = 299 - (jB W0 k p + 1) + 1 by omega, Nat.pow_succ]
              omega
            · have d3 : ¬ (jG W0 k p = q ∨ jG W0 k p = b) := fun z => z.elim d1 d2
              rw [if_neg d3, if_neg d3, if_neg (fun z => d1 z.2), if_neg (fun z => d2 z.2)]
        · rw [if_neg (fun z => w z.1), if_neg (fun z => w z.1), if_neg (fun z => w z.1)]
      rw [e1, e2] at e3
      omega
    · rw [← ih' q hq'.1]
      apply sm_congr
      intro p _
      unfold kq
      rw [eG, eB]
      by_cases d3 : jG W0 k p = a ∨ jG W0 k p = b
      · rw [if_pos d3, if_neg (fun z => c z.2.symm), if_neg]
        intro z
        rcases d3 with d | d
        · exact c (z.2.symm.trans d)
        · exact hq'.2 (z.2.symm.trans d)
      · rw [if_neg d3, if_neg d3]
/-- the end of the joining: one group; the last node is its root -/
theorem join_end (W0 : Nat → Nat) (h2 : 2 ≤ kd W0 257) {K : Nat} (hK : K + 1 = kd W0 257) : (∀ x, x < 256 + K → (x < 257 → 0 < W0 x) → NR W0 K x) ∧ (∀ D : Nat → Nat, D (256 + K) = 0 → (∀ x, x < 256 + K → (x < 257 → 0 < W0 x) → D x = D (jP W0 K x) + 1) → ∀ p, p < 257 → 0 < W0 p → D p = jB W0 K p) ∧ sm (fun p => if 0 < W0 p then 2 ^ (299 - jB W0 K p) else 0) 257 = 2 ^ 299 := by
  have h0 : 1 ≤ kd W0 257 := by omega
  have hkd := jW_kd W0 h0 K (by omega)
  have h1 : kd (jW W0 K) 257 = 1 := by omega
  obtain ⟨t1, t2, t3, t4, t5, t6, t7⟩ := TF_all W0 h0 K (by omega)
  obtain ⟨q, qA, qN⟩ := t6 (by omega)
  have only : ∀ p, Act (jW W0 K) p → p = q := by
    intro p hp
    apply Classical.byContradiction
    intro z
    have := kd_two z hp.1 qA.1 hp.2 qA.2
    omega
  have nr : ∀ x, x < 256 + K → (x < 257 → 0 < W0 x) → NR W0 K x := by
    intro x hx hw
    refine ⟨by omega, hw, ?_⟩
    intro p hp
    rw [only p hp, qN]; omega
  refine ⟨nr, ?_, ?_⟩
  · intro D d0 hD p hp hw
    have := t4 D (fun x hx => by
      refine hD x ?_ hx.2.1
      have a1 := hx.1
      have a2 := hx.2.2 q qA
      rw [qN] at a2
      omega) p hp hw
    rw [only _ (t5 p hp hw), qN, d0] at this
    omega
  · rw [← kraft_all W0 h0 K (by omega) q qA]
    apply sm_congr
    intro p hp
    unfold kq
    by_cases w : 0 < W0 p
    · rw [if_pos w, if_pos ⟨w, only _ (t5 p hp w)⟩]
    · rw [if_neg w, if_neg (fun z => w z.1)]
