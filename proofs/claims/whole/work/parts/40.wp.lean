/-! the calculus of the pure words: a word answers, and its answer has a property -/
def Ok {ρ : Type} (Q : ρ → Prop) (o : Option ρ) : Prop := ∃ r, o = some r ∧ Q r
theorem Ok_ret {ρ : Type} {Q : ρ → Prop} {r : ρ} (h : Q r) : Ok Q (some r) := ⟨r, rfl, h⟩
theorem Ok_mono {ρ : Type} {Q R : ρ → Prop} {o : Option ρ} (h : Ok Q o) (g : ∀ r, Q r → R r) : Ok R o := by
  obtain ⟨r, e, q⟩ := h
  exact ⟨r, e, g r q⟩
theorem Ok_eq {ρ : Type} {Q : ρ → Prop} {o : Option ρ} {r : ρ} (e : o = some r) (h : Q r) : Ok Q o := ⟨r, e, h⟩
theorem Ok_if {ρ : Type} {Q : ρ → Prop} {c : Prop} [Decidable c] {t e : Option ρ} (f : c → Ok Q t) (g : ¬ c → Ok Q e) : Ok Q (if c then t else e) := by
  by_cases h : c
  · rw [if_pos h]; exact f h
  · rw [if_neg h]; exact g h
theorem Ok_ifT {ρ : Type} {Q : ρ → Prop} {c : Prop} [Decidable c] {t e : Option ρ} (h : c) (f : Ok Q t) : Ok Q (if c then t else e) := by rw [if_pos h]; exact f
theorem Ok_ifF {ρ : Type} {Q : ρ → Prop} {c : Prop} [Decidable c] {t e : Option ρ} (h : ¬ c) (f : Ok Q e) : Ok Q (if c then t else e) := by rw [if_neg h]; exact f
theorem Ok_le {ρ : Type} {Q : ρ → Prop} {x y : Int32} [Decidable (x ≤ y)] {t e : Option ρ} (a b : Nat) (f : a ≤ b → Ok Q t) (g : b < a → Ok Q e) (hx : x = nI a := by rfl) (hy : y = nI b := by rfl) (ha : a < 2 ^ 31 := by omega) (hb : b < 2 ^ 31 := by omega) : Ok Q (if x ≤ y then t else e) :=
  Ok_if (pk_le a b f g hx hy ha hb).1 (pk_le a b f g hx hy ha hb).2
theorem Ok_lt {ρ : Type} {Q : ρ → Prop} {x y : Int32} [Decidable (x < y)] {t e : Option ρ} (a b : Nat) (f : a < b → Ok Q t) (g : b ≤ a → Ok Q e) (hx : x = nI a := by rfl) (hy : y = nI b := by rfl) (ha : a < 2 ^ 31 := by omega) (hb : b < 2 ^ 31 := by omega) : Ok Q (if x < y then t else e) :=
  Ok_if (pk_lt a b f g hx hy ha hb).1 (pk_lt a b f g hx hy ha hb).2
theorem Ok_eqI {ρ : Type} {Q : ρ → Prop} {x y : Int32} [Decidable (x = y)] {t e : Option ρ} (a b : Nat) (f : a = b → Ok Q t) (g : a ≠ b → Ok Q e) (hx : x = nI a := by rfl) (hy : y = nI b := by rfl) (ha : a < 2 ^ 31 := by omega) (hb : b < 2 ^ 31 := by omega) : Ok Q (if x = y then t else e) :=
  Ok_if (pk_eq a b f g hx hy ha hb).1 (pk_eq a b f g hx hy ha hb).2
theorem Ok_rd {ρ : Type} {Q : ρ → Prop} {n : Nat} {f : Nat → Int32} {i : Int32} {k : Int32 → Option ρ} (j : Nat) (h : Ok Q (k (f j))) (hi : i = nI j := by rfl) (hj : j < n := by omega) (hn : n < 2 ^ 31 := by omega) : Ok Q (rd n f i k) := by
  subst hi
  rw [rd_nI hj hn]
  exact h
theorem Ok_wr {ρ : Type} {Q : ρ → Prop} {n : Nat} {f : Nat → Int32} {i x : Int32} {k : (Nat → Int32) → Option ρ} (j : Nat) (h : Ok Q (k (upd f j x))) (hi : i = nI j := by rfl) (hj : j < n := by omega) (hn : n < 2 ^ 31 := by omega) : Ok Q (wr n f i x k) := by
  subst hi
  rw [wr_nI hj hn]
  exact h
theorem Ok_rdL {ρ : Type} {Q : ρ → Prop} {n : Nat} {f : Nat → Int64} {i : Int32} {k : Int64 → Option ρ} (j : Nat) (h : Ok Q (k (f j))) (hi : i = nI j := by rfl) (hj : j < n := by omega) (hn : n < 2 ^ 31 := by omega) : Ok Q (rdL n f i k) := by
  subst hi
  rw [rdL_nI hj hn]
  exact h
theorem Ok_wrL {ρ : Type} {Q : ρ → Prop} {n : Nat} {f : Nat → Int64} {i : Int32} {x : Int64} {k : (Nat → Int64) → Option ρ} (j : Nat) (h : Ok Q (k (vp_updL f j x))) (hi : i = nI j := by rfl) (hj : j < n := by omega) (hn : n < 2 ^ 31 := by omega) : Ok Q (wrL n f i x k) := by
  subst hi
  rw [wrL_nI hj hn]
  exact h
theorem Ok_bd1 {A1 ρ : Type} {Q : ρ → Prop} {x : Option (A1)} {k : A1 → Option ρ} (R : A1 → Prop) (h : Ok R x) (g : ∀ a1, R (a1) → Ok Q (k a1)) : Ok Q (bd1 x k) := by
  obtain ⟨a1, e, q⟩ := h
  rw [bd1_eq e]
  exact g _ q
theorem Ok_bd2 {A1 A2 ρ : Type} {Q : ρ → Prop} {x : Option (A1 × A2)} {k : A1 → A2 → Option ρ} (R : A1 × A2 → Prop) (h : Ok R x) (g : ∀ a1 a2, R (a1, a2) → Ok Q (k a1 a2)) : Ok Q (bd2 x k) := by
  obtain ⟨⟨a1, a2⟩, e, q⟩ := h
  rw [bd2_eq e]
  exact g _ _ q
theorem Ok_bd3 {A1 A2 A3 ρ : Type} {Q : ρ → Prop} {x : Option (A1 × A2 × A3)} {k : A1 → A2 → A3 → Option ρ} (R : A1 × A2 × A3 → Prop) (h : Ok R x) (g : ∀ a1 a2 a3, R (a1, a2, a3) → Ok Q (k a1 a2 a3)) : Ok Q (bd3 x k) := by
  obtain ⟨⟨a1, a2, a3⟩, e, q⟩ := h
  rw [bd3_eq e]
  exact g _ _ _ q
theorem Ok_bd4 {A1 A2 A3 A4 ρ : Type} {Q : ρ → Prop} {x : Option (A1 × A2 × A3 × A4)} {k : A1 → A2 → A3 → A4 → Option ρ} (R : A1 × A2 × A3 × A4 → Prop) (h : Ok R x) (g : ∀ a1 a2 a3 a4, R (a1, a2, a3, a4) → Ok Q (k a1 a2 a3 a4)) : Ok Q (bd4 x k) := by
  obtain ⟨⟨a1, a2, a3, a4⟩, e, q⟩ := h
  rw [bd4_eq e]
  exact g _ _ _ _ q
theorem Ok_bd5 {A1 A2 A3 A4 A5 ρ : Type} {Q : ρ → Prop} {x : Option (A1 × A2 × A3 × A4 × A5)} {k : A1 → A2 → A3 → A4 → A5 → Option ρ} (R : A1 × A2 × A3 × A4 × A5 → Prop) (h : Ok R x) (g : ∀ a1 a2 a3 a4 a5, R (a1, a2, a3, a4, a5) → Ok Q (k a1 a2 a3 a4 a5)) : Ok Q (bd5 x k) := by
  obtain ⟨⟨a1, a2, a3, a4, a5⟩, e, q⟩ := h
  rw [bd5_eq e]
  exact g _ _ _ _ _ q
theorem Ok_bd6 {A1 A2 A3 A4 A5 A6 ρ : Type} {Q : ρ → Prop} {x : Option (A1 × A2 × A3 × A4 × A5 × A6)} {k : A1 → A2 → A3 → A4 → A5 → A6 → Option ρ} (R : A1 × A2 × A3 × A4 × A5 × A6 → Prop) (h : Ok R x) (g : ∀ a1 a2 a3 a4 a5 a6, R (a1, a2, a3, a4, a5, a6) → Ok Q (k a1 a2 a3 a4 a5 a6)) : Ok Q (bd6 x k) := by
  obtain ⟨⟨a1, a2, a3, a4, a5, a6⟩, e, q⟩ := h
  rw [bd6_eq e]
  exact g _ _ _ _ _ _ q
theorem Ok_bd7 {A1 A2 A3 A4 A5 A6 A7 ρ : Type} {Q : ρ → Prop} {x : Option (A1 × A2 × A3 × A4 × A5 × A6 × A7)} {k : A1 → A2 → A3 → A4 → A5 → A6 → A7 → Option ρ} (R : A1 × A2 × A3 × A4 × A5 × A6 × A7 → Prop) (h : Ok R x) (g : ∀ a1 a2 a3 a4 a5 a6 a7, R (a1, a2, a3, a4, a5, a6, a7) → Ok Q (k a1 a2 a3 a4 a5 a6 a7)) : Ok Q (bd7 x k) := by
  obtain ⟨⟨a1, a2, a3, a4, a5, a6, a7⟩, e, q⟩ := h
  rw [bd7_eq e]
  exact g _ _ _ _ _ _ _ q
theorem Ok_bd8 {A1 A2 A3 A4 A5 A6 A7 A8 ρ : Type} {Q : ρ → Prop} {x : Option (A1 × A2 × A3 × A4 × A5 × A6 × A7 × A8)} {k : A1 → A2 → A3 → A4 → A5 → A6 → A7 → A8 → Option ρ} (R : A1 × A2 × A3 × A4 × A5 × A6 × A7 × A8 → Prop) (h : Ok R x) (g : ∀ a1 a2 a3 a4 a5 a6 a7 a8, R (a1, a2, a3, a4, a5, a6, a7, a8) → Ok Q (k a1 a2 a3 a4 a5 a6 a7 a8)) : Ok Q (bd8 x k) := by
  obtain ⟨⟨a1, a2, a3, a4, a5, a6, a7, a8⟩, e, q⟩ := h
  rw [bd8_eq e]
  exact g _ _ _ _ _ _ _ _ q
theorem Ok_bd9 {A1 A2 A3 A4 A5 A6 A7 A8 A9 ρ : Type} {Q : ρ → Prop} {x : Option (A1 × A2 × A3 × A4 × A5 × A6 × A7 × A8 × A9)} {k : A1 → A2 → A3 → A4 → A5 → A6 → A7 → A8 → A9 → Option ρ} (R : A1 × A2 × A3 × A4 × A5 × A6 × A7 × A8 × A9 → Prop) (h : Ok R x) (g : ∀ a1 a2 a3 a4 a5 a6 a7 a8 a9, R (a1, a2, a3, a4, a5, a6, a7, a8, a9) → Ok Q (k a1 a2 a3 a4 a5 a6 a7 a8 a9)) : Ok Q (bd9 x k) := by
  obtain ⟨⟨a1, a2, a3, a4, a5, a6, a7, a8, a9⟩, e, q⟩ := h
  rw [bd9_eq e]
  exact g _ _ _ _ _ _ _ _ _ q
theorem Ok_bd10 {A1 A2 A3 A4 A5 A6 A7 A8 A9 A10 ρ : Type} {Q : ρ → Prop} {x : Option (A1 × A2 × A3 × A4 × A5 × A6 × A7 × A8 × A9 × A10)} {k : A1 → A2 → A3 → A4 → A5 → A6 → A7 → A8 → A9 → A10 → Option ρ} (R : A1 × A2 × A3 × A4 × A5 × A6 × A7 × A8 × A9 × A10 → Prop) (h : Ok R x) (g : ∀ a1 a2 a3 a4 a5 a6 a7 a8 a9 a10, R (a1, a2, a3, a4, a5, a6, a7, a8, a9, a10) → Ok Q (k a1 a2 a3 a4 a5 a6 a7 a8 a9 a10)) : Ok Q (bd10 x k) := by
  obtain ⟨⟨a1, a2, a3, a4, a5, a6, a7, a8, a9, a10⟩, e, q⟩ := h
  rw [bd10_eq e]
  exact g _ _ _ _ _ _ _ _ _ _ q
theorem Ok_bd11 {A1 A2 A3 A4 A5 A6 A7 A8 A9 A10 A11 ρ : Type} {Q : ρ → Prop} {x : Option (A1 × A2 × A3 × A4 × A5 × A6 × A7 × A8 × A9 × A10 × A11)} {k : A1 → A2 → A3 → A4 → A5 → A6 → A7 → A8 → A9 → A10 → A11 → Option ρ} (R : A1 × A2 × A3 × A4 × A5 × A6 × A7 × A8 × A9 × A10 × A11 → Prop) (h : Ok R x) (g : ∀ a1 a2 a3 a4 a5 a6 a7 a8 a9 a10 a11, R (a1, a2, a3, a4, a5, a6, a7, a8, a9, a10, a11) → Ok Q (k a1 a2 a3 a4 a5 a6 a7 a8 a9 a10 a11)) : Ok Q (bd11 x k) := by
  obtain ⟨⟨a1, a2, a3, a4, a5, a6, a7, a8, a9, a10, a11⟩, e, q⟩ := h
  rw [bd11_eq e]
  exact g _ _ _ _ _ _ _ _ _ _ _ q
theorem Ok_bd12 {A1 A2 A3 A4 A5 A6 A7 A8 A9 A10 A11 A12 ρ : Type} {Q : ρ → Prop} {x : Option (A1 × A2 × A3 × A4 × A5 × A6 × A7 × A8 × A9 × A10 × A11 × A12)} {k : A1 → A2 → A3 → A4 → A5 → A6 → A7 → A8 → A9 → A10 → A11 → A12 → Option ρ} (R : A1 × A2 × A3 × A4 × A5 × A6 × A7 × A8 × A9 × A10 × A11 × A12 → Prop) (h : Ok R x) (g : ∀ a1 a2 a3 a4 a5 a6 a7 a8 a9 a10 a11 a12, R (a1, a2, a3, a4, a5, a6, a7, a8, a9, a10, a11, a12) → Ok Q (k a1 a2 a3 a4 a5 a6 a7 a8 a9 a10 a11 a12)) : Ok Q (bd12 x k) := by
  obtain ⟨⟨a1, a2, a3, a4, a5, a6, a7, a8, a9, a10, a11, a12⟩, e, q⟩ := h
  rw [bd12_eq e]
  exact g _ _ _ _ _ _ _ _ _ _ _ _ q
theorem Ok_bd13 {A1 A2 A3 A4 A5 A6 A7 A8 A9 A10 A11 A12 A13 ρ : Type} {Q : ρ → Prop} {x : Option (A1 × A2 × A3 × A4 × A5 × A6 × A7 × A8 × A9 × A10 × A11 × A12 × A13)} {k : A1 → A2 → A3 → A4 → A5 → A6 → A7 → A8 → A9 → A10 → A11 → A12 → A13 → Option ρ} (R : A1 × A2 × A3 × A4 × A5 × A6 × A7 × A8 × A9 × A10 × A11 × A12 × A13 → Prop) (h : Ok R x) (g : ∀ a1 a2 a3 a4 a5 a6 a7 a8 a9 a10 a11 a12 a13, R (a1, a2, a3, a4, a5, a6, a7, a8, a9, a10, a11, a12, a13) → Ok Q (k a1 a2 a3 a4 a5 a6 a7 a8 a9 a10 a11 a12 a13)) : Ok Q (bd13 x k) := by
  obtain ⟨⟨a1, a2, a3, a4, a5, a6, a7, a8, a9, a10, a11, a12, a13⟩, e, q⟩ := h
  rw [bd13_eq e]
  exact g _ _ _ _ _ _ _ _ _ _ _ _ _ q
theorem Ok_bd14 {A1 A2 A3 A4 A5 A6 A7 A8 A9 A10 A11 A12 A13 A14 ρ : Type} {Q : ρ → Prop} {x : Option (A1 × A2 × A3 × A4 × A5 × A6 × A7 × A8 × A9 × A10 × A11 × A12 × A13 × A14)} {k : A1 → A2 → A3 → A4 → A5 → A6 → A7 → A8 → A9 → A10 → A11 → A12 → A13 → A14 → Option ρ} (R : A1 × A2 × A3 × A4 × A5 × A6 × A7 × A8 × A9 × A10 × A11 × A12 × A13 × A14 → Prop) (h : Ok R x) (g : ∀ a1 a2 a3 a4 a5 a6 a7 a8 a9 a10 a11 a12 a13 a14, R (a1, a2, a3, a4, a5, a6, a7, a8, a9, a10, a11, a12, a13, a14) → Ok Q (k a1 a2 a3 a4 a5 a6 a7 a8 a9 a10 a11 a12 a13 a14)) : Ok Q (bd14 x k) := by
  obtain ⟨⟨a1, a2, a3, a4, a5, a6, a7, a8, a9, a10, a11, a12, a13, a14⟩, e, q⟩ := h
  rw [bd14_eq e]
  exact g _ _ _ _ _ _ _ _ _ _ _ _ _ _ q
theorem Ok_bd15 {A1 A2 A3 A4 A5 A6 A7 A8 A9 A10 A11 A12 A13 A14 A15 ρ : Type} {Q : ρ → Prop} {x : Option (A1 × A2 × A3 × A4 × A5 × A6 × A7 × A8 × A9 × A10 × A11 × A12 × A13 × A14 × A15)} {k : A1 → A2 → A3 → A4 → A5 → A6 → A7 → A8 → A9 → A10 → A11 → A12 → A13 → A14 → A15 → Option ρ} (R : A1 × A2 × A3 × A4 × A5 × A6 × A7 × A8 × A9 × A10 × A11 × A12 × A13 × A14 × A15 → Prop) (h : Ok R x) (g : ∀ a1 a2 a3 a4 a5 a6 a7 a8 a9 a10 a11 a12 a13 a14 a15, R (a1, a2, a3, a4, a5, a6, a7, a8, a9, a10, a11, a12, a13, a14, a15) → Ok Q (k a1 a2 a3 a4 a5 a6 a7 a8 a9 a10 a11 a12 a13 a14 a15)) : Ok Q (bd15 x k) := by
  obtain ⟨⟨a1, a2, a3, a4, a5, a6, a7, a8, a9, a10, a11, a12, a13, a14, a15⟩, e, q⟩ := h
  rw [bd15_eq e]
  exact g _ _ _ _ _ _ _ _ _ _ _ _ _ _ _ q
theorem Ok_Lp1 {A1 ρ : Type} {body : (A1 → Option ρ) → A1 → Option ρ} {Q : ρ → Prop} {a1 : A1} (I : Nat → A1 → Prop) (u : Nat) (h0 : I u a1) (hu : u < 131072) (hb : ∀ (u : Nat) a1, I u a1 → ∀ again : A1 → Option ρ, (∀ (v : Nat) b1, v < u → I v b1 → Ok Q (again b1)) → Ok Q (body again a1)) : Ok Q (Lp1 body fuel a1) := Lp1_I I (Ok Q) hb fuel u a1 h0 hu
theorem Ok_Lp2 {A1 A2 ρ : Type} {body : (A1 → A2 → Option ρ) → A1 → A2 → Option ρ} {Q : ρ → Prop} {a1 : A1} {a2 : A2} (I : Nat → A1 → A2 → Prop) (u : Nat) (h0 : I u a1 a2) (hu : u < 131072) (hb : ∀ (u : Nat) a1 a2, I u a1 a2 → ∀ again : A1 → A2 → Option ρ, (∀ (v : Nat) b1 b2, v < u → I v b1 b2 → Ok Q (again b1 b2)) → Ok Q (body again a1 a2)) : Ok Q (Lp2 body fuel a1 a2) := Lp2_I I (Ok Q) hb fuel u a1 a2 h0 hu
theorem Ok_Lp3 {A1 A2 A3 ρ : Type} {body : (A1 → A2 → A3 → Option ρ) → A1 → A2 → A3 → Option ρ} {Q : ρ → Prop} {a1 : A1} {a2 : A2} {a3 : A3} (I : Nat → A1 → A2 → A3 → Prop) (u : Nat) (h0 : I u a1 a2 a3) (hu : u < 131072) (hb : ∀ (u : Nat) a1 a2 a3, I u a1 a2 a3 → ∀ again : A1 → A2 → A3 → Option ρ, (∀ (v : Nat) b1 b2 b3, v < u → I v b1 b2 b3 → Ok Q (again b1 b2 b3)) → Ok Q (body again a1 a2 a3)) : Ok Q (Lp3 body fuel a1 a2 a3) := Lp3_I I (Ok Q) hb fuel u a1 a2 a3 h0 hu
theorem Ok_Lp4 {A1 A2 A3 A4 ρ : Type} {body : (A1 → A2 → A3 → A4 → Option ρ) → A1 → A2 → A3 → A4 → Option ρ} {Q : ρ → Prop} {a1 : A1} {a2 : A2} {a3 : A3} {a4 : A4} (I : Nat → A1 → A2 → A3 → A4 → Prop) (u : Nat) (h0 : I u a1 a2 a3 a4) (hu : u < 131072) (hb : ∀ (u : Nat) a1 a2 a3 a4, I u a1 a2 a3 a4 → ∀ again : A1 → A2 → A3 → A4 → Option ρ, (∀ (v : Nat) b1 b2 b3 b4, v < u → I v b1 b2 b3 b4 → Ok Q (again b1 b2 b3 b4)) → Ok Q (body again a1 a2 a3 a4)) : Ok Q (Lp4 body fuel a1 a2 a3 a4) := Lp4_I I (Ok Q) hb fuel u a1 a2 a3 a4 h0 hu
theorem Ok_Lp5 {A1 A2 A3 A4 A5 ρ : Type} {body : (A1 → A2 → A3 → A4 → A5 → Option ρ) → A1 → A2 → A3 → A4 → A5 → Option ρ} {Q : ρ → Prop} {a1 : A1} {a2 : A2} {a3 : A3} {a4 : A4} {a5 : A5} (I : Nat → A1 → A2 → A3 → A4 → A5 → Prop) (u : Nat) (h0 : I u a1 a2 a3 a4 a5) (hu : u < 131072) (hb : ∀ (u : Nat) a1 a2 a3 a4 a5, I u a1 a2 a3 a4 a5 → ∀ again : A1 → A2 → A3 → A4 → A5 → Option ρ, (∀ (v : Nat) b1 b2 b3 b4 b5, v < u → I v b1 b2 b3 b4 b5 → Ok Q (again b1 b2 b3 b4 b5)) → Ok Q (body again a1 a2 a3 a4 a5)) : Ok Q (Lp5 body fuel a1 a2 a3 a4 a5) := Lp5_I I (Ok Q) hb fuel u a1 a2 a3 a4 a5 h0 hu
theorem Ok_Lp6 {A1 A2 A3 A4 A5 A6 ρ : Type} {body : (A1 → A2 → A3 → A4 → A5 → A6 → Option ρ) → A1 → A2 → A3 → A4 → A5 → A6 → Option ρ} {Q : ρ → Prop} {a1 : A1} {a2 : A2} {a3 : A3} {a4 : A4} {a5 : A5} {a6 : A6} (I : Nat → A1 → A2 → A3 → A4 → A5 → A6 → Prop) (u : Nat) (h0 : I u a1 a2 a3 a4 a5 a6) (hu : u < 131072) (hb : ∀ (u : Nat) a1 a2 a3 a4 a5 a6, I u a1 a2 a3 a4 a5 a6 → ∀ again : A1 → A2 → A3 → A4 → A5 → A6 → Option ρ, (∀ (v : Nat) b1 b2 b3 b4 b5 b6, v < u → I v b1 b2 b3 b4 b5 b6 → Ok Q (again b1 b2 b3 b4 b5 b6)) → Ok Q (body again a1 a2 a3 a4 a5 a6)) : Ok Q (Lp6 body fuel a1 a2 a3 a4 a5 a6) := Lp6_I I (Ok Q) hb fuel u a1 a2 a3 a4 a5 a6 h0 hu
theorem Ok_Lp7 {A1 A2 A3 A4 A5 A6 A7 ρ : Type} {body : (A1 → A2 → A3 → A4 → A5 → A6 → A7 → Option ρ) → A1 → A2 → A3 → A4 → A5 → A6 → A7 → Option ρ} {Q : ρ → Prop} {a1 : A1} {a2 : A2} {a3 : A3} {a4 : A4} {a5 : A5} {a6 : A6} {a7 : A7} (I : Nat → A1 → A2 → A3 → A4 → A5 → A6 → A7 → Prop) (u : Nat) (h0 : I u a1 a2 a3 a4 a5 a6 a7) (hu : u < 131072) (hb : ∀ (u : Nat) a1 a2 a3 a4 a5 a6 a7, I u a1 a2 a3 a4 a5 a6 a7 → ∀ again : A1 → A2 → A3 → A4 → A5 → A6 → A7 → Option ρ, (∀ (v : Nat) b1 b2 b3 b4 b5 b6 b7, v < u → I v b1 b2 b3 b4 b5 b6 b7 → Ok Q (again b1 b2 b3 b4 b5 b6 b7)) → Ok Q (body again a1 a2 a3 a4 a5 a6 a7)) : Ok Q (Lp7 body fuel a1 a2 a3 a4 a5 a6 a7) := Lp7_I I (Ok Q) hb fuel u a1 a2 a3 a4 a5 a6 a7 h0 hu
def Ar (f : Nat → Int32) (g : Nat → Nat) (n : Nat) : Prop := ∀ i, i < n → f i = nI (g i)
def up (g : Nat → Nat) (j v : Nat) : Nat → Nat := fun i => if i = j then v else g i
theorem up_s {g : Nat → Nat} {j v : Nat} : up g j v j = v := if_pos rfl
theorem up_n {g : Nat → Nat} {i j v : Nat} (h : i ≠ j) : up g j v i = g i := if_neg h
theorem Ar_up {f : Nat → Int32} {g : Nat → Nat} {n j v : Nat} {x : Int32} (h : Ar f g n) (hx : x = nI v := by rfl) : Ar (upd f j x) (up g j v) n := by
  intro i hi
  subst hx
  by_cases e : i = j
  · rw [e, pk_us, up_s]
  · rw [pk_un e, up_n e]; exact h i hi
def sm (f : Nat → Nat) : Nat → Nat
  | 0 => 0
  | n + 1 => sm f n + f n
theorem sm_congr {f g : Nat → Nat} : ∀ (n : Nat), (∀ i, i < n → f i = g i) → sm f n = sm g n := by
  intro n
  induction n with
  | zero => intro _; rfl
  | succ n ih => intro h; show sm f n + f n = sm g n + g n; rw [ih (fun i hi => h i (by omega)), h n (by omega)]
theorem sm_up {g : Nat → Nat} {j v : Nat} : ∀ (n : Nat), j < n → sm (up g j v) n + g j = sm g n + v := by
  intro n
  induction n with
  | zero => intro h; omega
  | succ n ih =>
    intro h
    show sm (up g j v) n + up g j v n + g j = sm g n + g n + v
    by_cases e : j = n
    · subst e
      have e1 : sm (up g j v) j = sm g j := sm_congr j (fun i hi => up_n (by omega))
      rw [e1, up_s]; omega
    · have := ih (by omega)
      rw [up_n (show n ≠ j from fun z => e z.symm)]; omega
theorem sm_le {f : Nat → Nat} : ∀ (n : Nat) {i : Nat}, i < n → f i ≤ sm f n := by
  intro n
  induction n with
  | zero => intro i h; omega
  | succ n ih =>
    intro i h
    show f i ≤ sm f n + f n
    by_cases e : i = n
    · subst e; omega
    · have := ih (i := i) (by omega); omega
theorem sm_mono {f : Nat → Nat} {m : Nat} : ∀ (n : Nat), m ≤ n → sm f m ≤ sm f n := by
  intro n
  induction n with
  | zero => intro h; have : m = 0 := by omega
            subst this; exact Nat.le_refl _
  | succ n ih =>
    intro h
    by_cases e : m = n + 1
    · subst e; exact Nat.le_refl _
    · exact Nat.le_trans (ih (by omega)) (Nat.le_add_right _ _)
theorem sm_0 : ∀ (n : Nat) {f : Nat → Nat}, (∀ i, i < n → f i = 0) → sm f n = 0 := by
  intro n
  induction n with
  | zero => intro f _; rfl
  | succ n ih => intro f h; show sm f n + f n = 0; rw [ih (fun i hi => h i (by omega)), h n (by omega)]
theorem sm_lem {f g : Nat → Nat} : ∀ (n : Nat), (∀ i, i < n → f i ≤ g i) → sm f n ≤ sm g n := by
  intro n
  induction n with
  | zero => intro _; exact Nat.le_refl _
  | succ n ih => intro h; exact Nat.add_le_add (ih (fun i hi => h i (by omega))) (h n (by omega))
theorem nI_m1 {n : Nat} (h : 0 < n) : nI n + (-1) = nI (n - 1) := by
  obtain ⟨m, rfl⟩ : ∃ m, n = m + 1 := ⟨n - 1, by omega⟩
  exact pk_m1 m
theorem fill_ok {n : Nat} (hn : n < 100000) (k : Nat → Int32) (a : Int32) : Ok (fun g => ∀ i, i < n → g i = a) (f_JA_fill n k a) := by
  unfold f_JA_fill
  apply Ok_Lp2 (fun u x3 x4 => ∃ j, x3 = nI j ∧ u = n - j ∧ j ≤ n ∧ ∀ i, i < j → x4 i = a) n ⟨0, rfl, rfl, by omega, fun i hi => by omega⟩ (by omega)
  rintro u x3 x4 ⟨j, rfl, rfl, hj, hA⟩ again ih
  apply Ok_le n j
  · intro h; exact Ok_ret (fun i hi => hA i (by omega))
  · intro h
    apply Ok_wr j
    refine ih (n - (j + 1)) _ _ (by omega) ⟨j + 1, nI_1 j, rfl, by omega, ?_⟩
    intro i hi
    by_cases e : i = j
    · rw [e, pk_us]
    · rw [pk_un e]; exact hA i (by omega)
