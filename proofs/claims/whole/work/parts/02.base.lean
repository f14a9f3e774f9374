/-- a read of an array of n places, as a pure word: nothing where the index is out of bounds -/
def rd {ρ : Type} (n : Nat) (f : Nat → Int32) (i : Int32) (k : Int32 → Option ρ) : Option ρ := if i < 0 ∨ n ≤ i.toNatClampNeg then none else k (f i.toNatClampNeg)
def wr {ρ : Type} (n : Nat) (f : Nat → Int32) (i : Int32) (x : Int32) (k : (Nat → Int32) → Option ρ) : Option ρ := if i < 0 ∨ n ≤ i.toNatClampNeg then none else k (upd f i.toNatClampNeg x)
theorem rd_some {ρ : Type} {n : Nat} {f : Nat → Int32} {i : Int32} {k : Int32 → Option ρ} {r : ρ} (h : rd n f i k = some r) : ∃ v, v = f i.toNatClampNeg ∧ vp_in i n ∧ k v = some r := by
  unfold rd at h
  by_cases hc : (i < 0 ∨ n ≤ i.toNatClampNeg)
  · rw [if_pos hc] at h; cases h
  · rw [if_neg hc] at h; exact ⟨_, rfl, hc, h⟩
theorem wr_some {ρ : Type} {n : Nat} {f : Nat → Int32} {i : Int32} {x : Int32} {k : (Nat → Int32) → Option ρ} {r : ρ} (h : wr n f i x k = some r) : ∃ g, g = upd f i.toNatClampNeg x ∧ vp_in i n ∧ k g = some r := by
  unfold wr at h
  by_cases hc : (i < 0 ∨ n ≤ i.toNatClampNeg)
  · rw [if_pos hc] at h; cases h
  · rw [if_neg hc] at h; exact ⟨_, rfl, hc, h⟩
theorem rd_nI {ρ : Type} {n : Nat} {f : Nat → Int32} {j : Nat} {k : Int32 → Option ρ} (h : j < n) (hn : n < 2 ^ 31) : rd n f (nI j) k = k (f j) := by
  have hc : ¬ (nI j < 0 ∨ n ≤ (nI j).toNatClampNeg) := nI_in h hn
  unfold rd
  rw [if_neg hc, nI_clamp (by omega)]
theorem wr_nI {ρ : Type} {n : Nat} {f : Nat → Int32} {j : Nat} {x : Int32} {k : (Nat → Int32) → Option ρ} (h : j < n) (hn : n < 2 ^ 31) : wr n f (nI j) x k = k (upd f j x) := by
  have hc : ¬ (nI j < 0 ∨ n ≤ (nI j).toNatClampNeg) := nI_in h hn
  unfold wr
  rw [if_neg hc, nI_clamp (by omega)]
/-- a read of an array of n places, as a pure word: nothing where the index is out of bounds -/
def rdL {ρ : Type} (n : Nat) (f : Nat → Int64) (i : Int32) (k : Int64 → Option ρ) : Option ρ := if i < 0 ∨ n ≤ i.toNatClampNeg then none else k (f i.toNatClampNeg)
def wrL {ρ : Type} (n : Nat) (f : Nat → Int64) (i : Int32) (x : Int64) (k : (Nat → Int64) → Option ρ) : Option ρ := if i < 0 ∨ n ≤ i.toNatClampNeg then none else k (vp_updL f i.toNatClampNeg x)
theorem rdL_some {ρ : Type} {n : Nat} {f : Nat → Int64} {i : Int32} {k : Int64 → Option ρ} {r : ρ} (h : rdL n f i k = some r) : ∃ v, v = f i.toNatClampNeg ∧ vp_in i n ∧ k v = some r := by
  unfold rdL at h
  by_cases hc : (i < 0 ∨ n ≤ i.toNatClampNeg)
  · rw [if_pos hc] at h; cases h
  · rw [if_neg hc] at h; exact ⟨_, rfl, hc, h⟩
theorem wrL_some {ρ : Type} {n : Nat} {f : Nat → Int64} {i : Int32} {x : Int64} {k : (Nat → Int64) → Option ρ} {r : ρ} (h : wrL n f i x k = some r) : ∃ g, g = vp_updL f i.toNatClampNeg x ∧ vp_in i n ∧ k g = some r := by
  unfold wrL at h
  by_cases hc : (i < 0 ∨ n ≤ i.toNatClampNeg)
  · rw [if_pos hc] at h; cases h
  · rw [if_neg hc] at h; exact ⟨_, rfl, hc, h⟩
theorem rdL_nI {ρ : Type} {n : Nat} {f : Nat → Int64} {j : Nat} {k : Int64 → Option ρ} (h : j < n) (hn : n < 2 ^ 31) : rdL n f (nI j) k = k (f j) := by
  have hc : ¬ (nI j < 0 ∨ n ≤ (nI j).toNatClampNeg) := nI_in h hn
  unfold rdL
  rw [if_neg hc, nI_clamp (by omega)]
theorem wrL_nI {ρ : Type} {n : Nat} {f : Nat → Int64} {j : Nat} {x : Int64} {k : (Nat → Int64) → Option ρ} (h : j < n) (hn : n < 2 ^ 31) : wrL n f (nI j) x k = k (vp_updL f j x) := by
  have hc : ¬ (nI j < 0 ∨ n ≤ (nI j).toNatClampNeg) := nI_in h hn
  unfold wrL
  rw [if_neg hc, nI_clamp (by omega)]
theorem ifT {ρ : Type} {c : Prop} [Decidable c] {a b : Option ρ} {r : ρ} (h : (if c then a else b) = some r) (hc : c) : a = some r := by
  rw [if_pos hc] at h; exact h
theorem ifF {ρ : Type} {c : Prop} [Decidable c] {a b : Option ρ} {r : ρ} (h : (if c then a else b) = some r) (hc : ¬ c) : b = some r := by
  rw [if_neg hc] at h; exact h
def fuel : Nat := 131072
def bd1 {A1 ρ : Type} (x : Option (A1)) (k : A1 → Option ρ) : Option ρ := match x with
  | none => none
  | some a1 => k a1
theorem bd1_some {A1 ρ : Type} {x : Option (A1)} {k : A1 → Option ρ} {r : ρ} (h : bd1 x k = some r) : ∃ a1, x = some a1 ∧ k a1 = some r := by
  match x, h with
  | some a1, h => exact ⟨a1, rfl, h⟩
theorem bd1_eq {A1 ρ : Type} {x : Option (A1)} {k : A1 → Option ρ} {a1 : A1} (h : x = some a1) : bd1 x k = k a1 := by rw [h]; rfl
def bd2 {A1 A2 ρ : Type} (x : Option (A1 × A2)) (k : A1 → A2 → Option ρ) : Option ρ := match x with
  | none => none
  | some (a1, a2) => k a1 a2
theorem bd2_some {A1 A2 ρ : Type} {x : Option (A1 × A2)} {k : A1 → A2 → Option ρ} {r : ρ} (h : bd2 x k = some r) : ∃ a1 a2, x = some (a1, a2) ∧ k a1 a2 = some r := by
  match x, h with
  | some (a1, a2), h => exact ⟨a1, a2, rfl, h⟩
theorem bd2_eq {A1 A2 ρ : Type} {x : Option (A1 × A2)} {k : A1 → A2 → Option ρ} {a1 : A1} {a2 : A2} (h : x = some (a1, a2)) : bd2 x k = k a1 a2 := by rw [h]; rfl
def bd3 {A1 A2 A3 ρ : Type} (x : Option (A1 × A2 × A3)) (k : A1 → A2 → A3 → Option ρ) : Option ρ := match x with
  | none => none
  | some (a1, a2, a3) => k a1 a2 a3
theorem bd3_some {A1 A2 A3 ρ : Type} {x : Option (A1 × A2 × A3)} {k : A1 → A2 → A3 → Option ρ} {r : ρ} (h : bd3 x k = some r) : ∃ a1 a2 a3, x = some (a1, a2, a3) ∧ k a1 a2 a3 = some r := by
  match x, h with
  | some (a1, a2, a3), h => exact ⟨a1, a2, a3, rfl, h⟩
theorem bd3_eq {A1 A2 A3 ρ : Type} {x : Option (A1 × A2 × A3)} {k : A1 → A2 → A3 → Option ρ} {a1 : A1} {a2 : A2} {a3 : A3} (h : x = some (a1, a2, a3)) : bd3 x k = k a1 a2 a3 := by rw [h]; rfl
def bd4 {A1 A2 A3 A4 ρ : Type} (x : Option (A1 × A2 × A3 × A4)) (k : A1 → A2 → A3 → A4 → Option ρ) : Option ρ := match x with
  | none => none
  | some (a1, a2, a3, a4) => k a1 a2 a3 a4
theorem bd4_some {A1 A2 A3 A4 ρ : Type} {x : Option (A1 × A2 × A3 × A4)} {k : A1 → A2 → A3 → A4 → Option ρ} {r : ρ} (h : bd4 x k = some r) : ∃ a1 a2 a3 a4, x = some (a1, a2, a3, a4) ∧ k a1 a2 a3 a4 = some r := by
  match x, h with
  | some (a1, a2, a3, a4), h => exact ⟨a1, a2, a3, a4, rfl, h⟩
theorem bd4_eq {A1 A2 A3 A4 ρ : Type} {x : Option (A1 × A2 × A3 × A4)} {k : A1 → A2 → A3 → A4 → Option ρ} {a1 : A1} {a2 : A2} {a3 : A3} {a4 : A4} (h : x = some (a1, a2, a3, a4)) : bd4 x k = k a1 a2 a3 a4 := by rw [h]; rfl
def bd5 {A1 A2 A3 A4 A5 ρ : Type} (x : Option (A1 × A2 × A3 × A4 × A5)) (k : A1 → A2 → A3 → A4 → A5 → Option ρ) : Option ρ := match x with
  | none => none
  | some (a1, a2, a3, a4, a5) => k a1 a2 a3 a4 a5
theorem bd5_some {A1 A2 A3 A4 A5 ρ : Type} {x : Option (A1 × A2 × A3 × A4 × A5)} {k : A1 → A2 → A3 → A4 → A5 → Option ρ} {r : ρ} (h : bd5 x k = some r) : ∃ a1 a2 a3 a4 a5, x = some (a1, a2, a3, a4, a5) ∧ k a1 a2 a3 a4 a5 = some r := by
  match x, h with
  | some (a1, a2, a3, a4, a5), h => exact ⟨a1, a2, a3, a4, a5, rfl, h⟩
theorem bd5_eq {A1 A2 A3 A4 A5 ρ : Type} {x : Option (A1 × A2 × A3 × A4 × A5)} {k : A1 → A2 → A3 → A4 → A5 → Option ρ} {a1 : A1} {a2 : A2} {a3 : A3} {a4 : A4} {a5 : A5} (h : x = some (a1, a2, a3, a4, a5)) : bd5 x k = k a1 a2 a3 a4 a5 := by rw [h]; rfl
def bd6 {A1 A2 A3 A4 A5 A6 ρ : Type} (x : Option (A1 × A2 × A3 × A4 × A5 × A6)) (k : A1 → A2 → A3 → A4 → A5 → A6 → Option ρ) : Option ρ := match x with
  | none => none
  | some (a1, a2, a3, a4, a5, a6) => k a1 a2 a3 a4 a5 a6
theorem bd6_some {A1 A2 A3 A4 A5 A6 ρ : Type} {x : Option (A1 × A2 × A3 × A4 × A5 × A6)} {k : A1 → A2 → A3 → A4 → A5 → A6 → Option ρ} {r : ρ} (h : bd6 x k = some r) : ∃ a1 a2 a3 a4 a5 a6, x = some (a1, a2, a3, a4, a5, a6) ∧ k a1 a2 a3 a4 a5 a6 = some r := by
  match x, h with
  | some (a1, a2, a3, a4, a5, a6), h => exact ⟨a1, a2, a3, a4, a5, a6, rfl, h⟩
theorem bd6_eq {A1 A2 A3 A4 A5 A6 ρ : Type} {x : Option (A1 × A2 × A3 × A4 × A5 × A6)} {k : A1 → A2 → A3 → A4 → A5 → A6 → Option ρ} {a1 : A1} {a2 : A2} {a3 : A3} {a4 : A4} {a5 : A5} {a6 : A6} (h : x = some (a1, a2, a3, a4, a5, a6)) : bd6 x k = k a1 a2 a3 a4 a5 a6 := by rw [h]; rfl
def bd7 {A1 A2 A3 A4 A5 A6 A7 ρ : Type} (x : Option (A1 × A2 × A3 × A4 × A5 × A6 × A7)) (k : A1 → A2 → A3 → A4 → A5 → A6 → A7 → Option ρ) : Option ρ := match x with
  | none => none
  | some (a1, a2, a3, a4, a5, a6, a7) => k a1 a2 a3 a4 a5 a6 a7
theorem bd7_some {A1 A2 A3 A4 A5 A6 A7 ρ : Type} {x : Option (A1 × A2 × A3 × A4 × A5 × A6 × A7)} {k : A1 → A2 → A3 → A4 → A5 → A6 → A7 → Option ρ} {r : ρ} (h : bd7 x k = some r) : ∃ a1 a2 a3 a4 a5 a6 a7, x = some (a1, a2, a3, a4, a5, a6, a7) ∧ k a1 a2 a3 a4 a5 a6 a7 = some r := by
  match x, h with
  | some (a1, a2, a3, a4, a5, a6, a7), h => exact ⟨a1, a2, a3, a4, a5, a6, a7, rfl, h⟩
theorem bd7_eq {A1 A2 A3 A4 A5 A6 A7 ρ : Type} {x : Option (A1 × A2 × A3 × A4 × A5 × A6 × A7)} {k : A1 → A2 → A3 → A4 → A5 → A6 → A7 → Option ρ} {a1 : A1} {a2 : A2} {a3 : A3} {a4 : A4} {a5 : A5} {a6 : A6} {a7 : A7} (h : x = some (a1, a2, a3, a4, a5, a6, a7)) : bd7 x k = k a1 a2 a3 a4 a5 a6 a7 := by rw [h]; rfl
def bd8 {A1 A2 A3 A4 A5 A6 A7 A8 ρ : Type} (x : Option (A1 × A2 × A3 × A4 × A5 × A6 × A7 × A8)) (k : A1 → A2 → A3 → A4 → A5 → A6 → A7 → A8 → Option ρ) : Option ρ := match x with
  | none => none
  | some (a1, a2, a3, a4, a5, a6, a7, a8) => k a1 a2 a3 a4 a5 a6 a7 a8
theorem bd8_some {A1 A2 A3 A4 A5 A6 A7 A8 ρ : Type} {x : Option (A1 × A2 × A3 × A4 × A5 × A6 × A7 × A8)} {k : A1 → A2 → A3 → A4 → A5 → A6 → A7 → A8 → Option ρ} {r : ρ} (h : bd8 x k = some r) : ∃ a1 a2 a3 a4 a5 a6 a7 a8, x = some (a1, a2, a3, a4, a5, a6, a7, a8) ∧ k a1 a2 a3 a4 a5 a6 a7 a8 = some r := by
  match x, h with
  | some (a1, a2, a3, a4, a5, a6, a7, a8), h => exact ⟨a1, a2, a3, a4, a5, a6, a7, a8, rfl, h⟩
theorem bd8_eq {A1 A2 A3 A4 A5 A6 A7 A8 ρ : Type} {x : Option (A1 × A2 × A3 × A4 × A5 × A6 × A7 × A8)} {k : A1 → A2 → A3 → A4 → A5 → A6 → A7 → A8 → Option ρ} {a1 : A1} {a2 : A2} {a3 : A3} {a4 : A4} {a5 : A5} {a6 : A6} {a7 : A7} {a8 : A8} (h : x = some (a1, a2, a3, a4, a5, a6, a7, a8)) : bd8 x k = k a1 a2 a3 a4 a5 a6 a7 a8 := by rw [h]; rfl
def bd9 {A1 A2 A3 A4 A5 A6 A7 A8 A9 ρ : Type} (x : Option (A1 × A2 × A3 × A4 × A5 × A6 × A7 × A8 × A9)) (k : A1 → A2 → A3 → A4 → A5 → A6 → A7 → A8 → A9 → Option ρ) : Option ρ := match x with
  | none => none
  | some (a1, a2, a3, a4, a5, a6, a7, a8, a9) => k a1 a2 a3 a4 a5 a6 a7 a8 a9
theorem bd9_some {A1 A2 A3 A4 A5 A6 A7 A8 A9 ρ : Type} {x : Option (A1 × A2 × A3 × A4 × A5 × A6 × A7 × A8 × A9)} {k : A1 → A2 → A3 → A4 → A5 → A6 → A7 → A8 → A9 → Option ρ} {r : ρ} (h : bd9 x k = some r) : ∃ a1 a2 a3 a4 a5 a6 a7 a8 a9, x = some (a1, a2, a3, a4, a5, a6, a7, a8, a9) ∧ k a1 a2 a3 a4 a5 a6 a7 a8 a9 = some r := by
  match x, h with
  | some (a1, a2, a3, a4, a5, a6, a7, a8, a9), h => exact ⟨a1, a2, a3, a4, a5, a6, a7, a8, a9, rfl, h⟩
theorem bd9_eq {A1 A2 A3 A4 A5 A6 A7 A8 A9 ρ : Type} {x : Option (A1 × A2 × A3 × A4 × A5 × A6 × A7 × A8 × A9)} {k : A1 → A2 → A3 → A4 → A5 → A6 → A7 → A8 → A9 → Option ρ} {a1 : A1} {a2 : A2} {a3 : A3} {a4 : A4} {a5 : A5} {a6 : A6} {a7 : A7} {a8 : A8} {a9 : A9} (h : x = some (a1, a2, a3, a4, a5, a6, a7, a8, a9)) : bd9 x k = k a1 a2 a3 a4 a5 a6 a7 a8 a9 := by rw [h]; rfl
def bd10 {A1 A2 A3 A4 A5 A6 A7 A8 A9 A10 ρ : Type} (x : Option (A1 × A2 × A3 × A4 × A5 × A6 × A7 × A8 × A9 × A10)) (k : A1 → A2 → A3 → A4 → A5 → A6 → A7 → A8 → A9 → A10 → Option ρ) : Option ρ := match x with
  | none => none
  | some (a1, a2, a3, a4, a5, a6, a7, a8, a9, a10) => k a1 a2 a3 a4 a5 a6 a7 a8 a9 a10
theorem bd10_some {A1 A2 A3 A4 A5 A6 A7 A8 A9 A10 ρ : Type} {x : Option (A1 × A2 × A3 × A4 × A5 × A6 × A7 × A8 × A9 × A10)} {k : A1 → A2 → A3 → A4 → A5 → A6 → A7 → A8 → A9 → A10 → Option ρ} {r : ρ} (h : bd10 x k = some r) : ∃ a1 a2 a3 a4 a5 a6 a7 a8 a9 a10, x = some (a1, a2, a3, a4, a5, a6, a7, a8, a9, a10) ∧ k a1 a2 a3 a4 a5 a6 a7 a8 a9 a10 = some r := by
  match x, h with
  | some (a1, a2, a3, a4, a5, a6, a7, a8, a9, a10), h => exact ⟨a1, a2, a3, a4, a5, a6, a7, a8, a9, a10, rfl, h⟩
theorem bd10_eq {A1 A2 A3 A4 A5 A6 A7 A8 A9 A10 ρ : Type} {x : Option (A1 × A2 × A3 × A4 × A5 × A6 × A7 × A8 × A9 × A10)} {k : A1 → A2 → A3 → A4 → A5 → A6 → A7 → A8 → A9 → A10 → Option ρ} {a1 : A1} {a2 : A2} {a3 : A3} {a4 : A4} {a5 : A5} {a6 : A6} {a7 : A7} {a8 : A8} {a9 : A9} {a10 : A10} (h : x = some (a1, a2, a3, a4, a5, a6, a7, a8, a9, a10)) : bd10 x k = k a1 a2 a3 a4 a5 a6 a7 a8 a9 a10 := by rw [h]; rfl
def bd11 {A1 A2 A3 A4 A5 A6 A7 A8 A9 A10 A11 ρ : Type} (x : Option (A1 × A2 × A3 × A4 × A5 × A6 × A7 × A8 × A9 × A10 × A11)) (k : A1 → A2 → A3 → A4 → A5 → A6 → A7 → A8 → A9 → A10 → A11 → Option ρ) : Option ρ := match x with
  | none => none
  | some (a1, a2, a3, a4, a5, a6, a7, a8, a9, a10, a11) => k a1 a2 a3 a4 a5 a6 a7 a8 a9 a10 a11
theorem bd11_some {A1 A2 A3 A4 A5 A6 A7 A8 A9 A10 A11 ρ : Type} {x : Option (A1 × A2 × A3 × A4 × A5 × A6 × A7 × A8 × A9 × A10 × A11)} {k : A1 → A2 → A3 → A4 → A5 → A6 → A7 → A8 → A9 → A10 → A11 → Option ρ} {r : ρ} (h : bd11 x k = some r) : ∃ a1 a2 a3 a4 a5 a6 a7 a8 a9 a10 a11, x = some (a1, a2, a3, a4, a5, a6, a7, a8, a9, a10, a11) ∧ k a1 a2 a3 a4 a5 a6 a7 a8 a9 a10 a11 = some r := by
  match x, h with
  | some (a1, a2, a3, a4, a5, a6, a7, a8, a9, a10, a11), h => exact ⟨a1, a2, a3, a4, a5, a6, a7, a8, a9, a10, a11, rfl, h⟩
theorem bd11_eq {A1 A2 A3 A4 A5 A6 A7 A8 A9 A10 A11 ρ : Type} {x : Option (A1 × A2 × A3 × A4 × A5 × A6 × A7 × A8 × A9 × A10 × A11)} {k : A1 → A2 → A3 → A4 → A5 → A6 → A7 → A8 → A9 → A10 → A11 → Option ρ} {a1 : A1} {a2 : A2} {a3 : A3} {a4 : A4} {a5 : A5} {a6 : A6} {a7 : A7} {a8 : A8} {a9 : A9} {a10 : A10} {a11 : A11} (h : x = some (a1, a2, a3, a4, a5, a6, a7, a8, a9, a10, a11)) : bd11 x k = k a1 a2 a3 a4 a5 a6 a7 a8 a9 a10 a11 := by rw [h]; rfl
def bd12 {A1 A2 A3 A4 A5 A6 A7 A8 A9 A10 A11 A12 ρ : Type} (x : Option (A1 × A2 × A3 × A4 × A5 × A6 × A7 × A8 × A9 × A10 × A11 × A12)) (k : A1 → A2 → A3 → A4 → A5 → A6 → A7 → A8 → A9 → A10 → A11 → A12 → Option ρ) : Option ρ := match x with
  | none => none
  | some (a1, a2, a3, a4, a5, a6, a7, a8, a9, a10, a11, a12) => k a1 a2 a3 a4 a5 a6 a7 a8 a9 a10 a11 a12
theorem bd12_some {A1 A2 A3 A4 A5 A6 A7 A8 A9 A10 A11 A12 ρ : Type} {x : Option (A1 × A2 × A3 × A4 × A5 × A6 × A7 × A8 × A9 × A10 × A11 × A12)} {k : A1 → A2 → A3 → A4 → A5 → A6 → A7 → A8 → A9 → A10 → A11 → A12 → Option ρ} {r : ρ} (h : bd12 x k = some r) : ∃ a1 a2 a3 a4 a5 a6 a7 a8 a9 a10 a11 a12, x = some (a1, a2, a3, a4, a5, a6, a7, a8, a9, a10, a11, a12) ∧ k a1 a2 a3 a4 a5 a6 a7 a8 a9 a10 a11 a12 = some r := by
  match x, h with
  | some (a1, a2, a3, a4, a5, a6, a7, a8, a9, a10, a11, a12), h => exact ⟨a1, a2, a3, a4, a5, a6, a7, a8, a9, a10, a11, a12, rfl, h⟩
theorem bd12_eq {A1 A2 A3 A4 A5 A6 A7 A8 A9 A10 A11 A12 ρ : Type} {x : Option (A1 × A2 × A3 × A4 × A5 × A6 × A7 × A8 × A9 × A10 × A11 × A12)} {k : A1 → A2 → A3 → A4 → A5 → A6 → A7 → A8 → A9 → A10 → A11 → A12 → Option ρ} {a1 : A1} {a2 : A2} {a3 : A3} {a4 : A4} {a5 : A5} {a6 : A6} {a7 : A7} {a8 : A8} {a9 : A9} {a10 : A10} {a11 : A11} {a12 : A12} (h : x = some (a1, a2, a3, a4, a5, a6, a7, a8, a9, a10, a11, a12)) : bd12 x k = k a1 a2 a3 a4 a5 a6 a7 a8 a9 a10 a11 a12 := by rw [h]; rfl
def bd13 {A1 A2 A3 A4 A5 A6 A7 A8 A9 A10 A11 A12 A13 ρ : Type} (x : Option (A1 × A2 × A3 × A4 × A5 × A6 × A7 × A8 × A9 × A10 × A11 × A12 × A13)) (k : A1 → A2 → A3 → A4 → A5 → A6 → A7 → A8 → A9 → A10 → A11 → A12 → A13 → Option ρ) : Option ρ := match x with
  | none => none
  | some (a1, a2, a3, a4, a5, a6, a7, a8, a9, a10, a11, a12, a13) => k a1 a2 a3 a4 a5 a6 a7 a8 a9 a10 a11 a12 a13
theorem bd13_some {A1 A2 A3 A4 A5 A6 A7 A8 A9 A10 A11 A12 A13 ρ : Type} {x : Option (A1 × A2 × A3 × A4 × A5 × A6 × A7 × A8 × A9 × A10 × A11 × A12 × A13)} {k : A1 → A2 → A3 → A4 → A5 → A6 → A7 → A8 → A9 → A10 → A11 → A12 → A13 → Option ρ} {r : ρ} (h : bd13 x k = some r) : ∃ a1 a2 a3 a4 a5 a6 a7 a8 a9 a10 a11 a12 a13, x = some (a1, a2, a3, a4, a5, a6, a7, a8, a9, a10, a11, a12, a13) ∧ k a1 a2 a3 a4 a5 a6 a7 a8 a9 a10 a11 a12 a13 = some r := by
  match x, h with
  | some (a1, a2, a3, a4, a5, a6, a7, a8, a9, a10, a11, a12, a13), h => exact ⟨a1, a2, a3, a4, a5, a6, a7, a8, a9, a10, a11, a12, a13, rfl, h⟩
theorem bd13_eq {A1 A2 A3 A4 A5 A6 A7 A8 A9 A10 A11 A12 A13 ρ : Type} {x : Option (A1 × A2 × A3 × A4 × A5 × A6 × A7 × A8 × A9 × A10 × A11 × A12 × A13)} {k : A1 → A2 → A3 → A4 → A5 → A6 → A7 → A8 → A9 → A10 → A11 → A12 → A13 → Option ρ} {a1 : A1} {a2 : A2} {a3 : A3} {a4 : A4} {a5 : A5} {a6 : A6} {a7 : A7} {a8 : A8} {a9 : A9} {a10 : A10} {a11 : A11} {a12 : A12} {a13 : A13} (h : x = some (a1, a2, a3, a4, a5, a6, a7, a8, a9, a10, a11, a12, a13)) : bd13 x k = k a1 a2 a3 a4 a5 a6 a7 a8 a9 a10 a11 a12 a13 := by rw [h]; rfl
def bd14 {A1 A2 A3 A4 A5 A6 A7 A8 A9 A10 A11 A12 A13 A14 ρ : Type} (x : Option (A1 × A2 × A3 × A4 × A5 × A6 × A7 × A8 × A9 × A10 × A11 × A12 × A13 × A14)) (k : A1 → A2 → A3 → A4 → A5 → A6 → A7 → A8 → A9 → A10 → A11 → A12 → A13 → A14 → Option ρ) : Option ρ := match x with
  | none => none
  | some (a1, a2, a3, a4, a5, a6, a7, a8, a9, a10, a11, a12, a13, a14) => k a1 a2 a3 a4 a5 a6 a7 a8 a9 a10 a11 a12 a13 a14
theorem bd14_some {A1 A2 A3 A4 A5 A6 A7 A8 A9 A10 A11 A12 A13 A14 ρ : Type} {x : Option (A1 × A2 × A3 × A4 × A5 × A6 × A7 × A8 × A9 × A10 × A11 × A12 × A13 × A14)} {k : A1 → A2 → A3 → A4 → A5 → A6 → A7 → A8 → A9 → A10 → A11 → A12 → A13 → A14 → Option ρ} {r : ρ} (h : bd14 x k = some r) : ∃ a1 a2 a3 a4 a5 a6 a7 a8 a9 a10 a11 a12 a13 a14, x = some (a1, a2, a3, a4, a5, a6, a7, a8, a9, a10, a11, a12, a13, a14) ∧ k a1 a2 a3 a4 a5 a6 a7 a8 a9 a10 a11 a12 a13 a14 = some r := by
  match x, h with
  | some (a1, a2, a3, a4, a5, a6, a7, a8, a9, a10, a11, a12, a13, a14), h => exact ⟨a1, a2, a3, a4, a5, a6, a7, a8, a9, a10, a11, a12, a13, a14, rfl, h⟩
theorem bd14_eq {A1 A2 A3 A4 A5 A6 A7 A8 A9 A10 A11 A12 A13 A14 ρ : Type} {x : Option (A1 × A2 × A3 × A4 × A5 × A6 × A7 × A8 × A9 × A10 × A11 × A12 × A13 × A14)} {k : A1 → A2 → A3 → A4 → A5 → A6 → A7 → A8 → A9 → A10 → A11 → A12 → A13 → A14 → Option ρ} {a1 : A1} {a2 : A2} {a3 : A3} {a4 : A4} {a5 : A5} {a6 : A6} {a7 : A7} {a8 : A8} {a9 : A9} {a10 : A10} {a11 : A11} {a12 : A12} {a13 : A13} {a14 : A14} (h : x = some (a1, a2, a3, a4, a5, a6, a7, a8, a9, a10, a11, a12, a13, a14)) : bd14 x k = k a1 a2 a3 a4 a5 a6 a7 a8 a9 a10 a11 a12 a13 a14 := by rw [h]; rfl
/-- a call that throws (k) or answers -/
def bx1 {A1 ρ : Type} (x : Option (Nat ⊕ (A1))) (kx : Nat → Option ρ) (k : A1 → Option ρ) : Option ρ := match x with
  | none => none
  | some (.inl z) => kx z
  | some (.inr a1) => k a1
theorem bx1_some {A1 ρ : Type} {x : Option (Nat ⊕ (A1))} {kx : Nat → Option ρ} {k : A1 → Option ρ} {r : ρ} (h : bx1 x kx k = some r) : (∃ z, x = some (.inl z) ∧ kx z = some r) ∨ ∃ a1, x = some (.inr a1) ∧ k a1 = some r := by
  match x, h with
  | some (.inl z), h => exact Or.inl ⟨z, rfl, h⟩
  | some (.inr a1), h => exact Or.inr ⟨a1, rfl, h⟩
theorem bx1_eq {A1 ρ : Type} {x : Option (Nat ⊕ (A1))} {kx : Nat → Option ρ} {k : A1 → Option ρ} {a1 : A1} (h : x = some (.inr a1)) : bx1 x kx k = k a1 := by rw [h]; rfl
theorem bx1_thr {A1 ρ : Type} {x : Option (Nat ⊕ (A1))} {kx : Nat → Option ρ} {k : A1 → Option ρ} {z : Nat} (h : x = some (.inl z)) : bx1 x kx k = kx z := by rw [h]; rfl
/-- a call that throws (k) or answers -/
def bx2 {A1 A2 ρ : Type} (x : Option (Nat ⊕ (A1 × A2))) (kx : Nat → Option ρ) (k : A1 → A2 → Option ρ) : Option ρ := match x with
  | none => none
  | some (.inl z) => kx z
  | some (.inr (a1, a2)) => k a1 a2
theorem bx2_some {A1 A2 ρ : Type} {x : Option (Nat ⊕ (A1 × A2))} {kx : Nat → Option ρ} {k : A1 → A2 → Option ρ} {r : ρ} (h : bx2 x kx k = some r) : (∃ z, x = some (.inl z) ∧ kx z = some r) ∨ ∃ a1 a2, x = some (.inr (a1, a2)) ∧ k a1 a2 = some r := by
  match x, h with
  | some (.inl z), h => exact Or.inl ⟨z, rfl, h⟩
  | some (.inr (a1, a2)), h => exact Or.inr ⟨a1, a2, rfl, h⟩
theorem bx2_eq {A1 A2 ρ : Type} {x : Option (Nat ⊕ (A1 × A2))} {kx : Nat → Option ρ} {k : A1 → A2 → Option ρ} {a1 : A1} {a2 : A2} (h : x = some (.inr (a1, a2))) : bx2 x kx k = k a1 a2 := by rw [h]; rfl
theorem bx2_thr {A1 A2 ρ : Type} {x : Option (Nat ⊕ (A1 × A2))} {kx : Nat → Option ρ} {k : A1 → A2 → Option ρ} {z : Nat} (h : x = some (.inl z)) : bx2 x kx k = kx z := by rw [h]; rfl
/-- a call that throws (k) or answers -/
def bx3 {A1 A2 A3 ρ : Type} (x : Option (Nat ⊕ (A1 × A2 × A3))) (kx : Nat → Option ρ) (k : A1 → A2 → A3 → Option ρ) : Option ρ := match x with
  | none => none
  | some (.inl z) => kx z
  | some (.inr (a1, a2, a3)) => k a1 a2 a3
theorem bx3_some {A1 A2 A3 ρ : Type} {x : Option (Nat ⊕ (A1 × A2 × A3))} {kx : Nat → Option ρ} {k : A1 → A2 → A3 → Option ρ} {r : ρ} (h : bx3 x kx k = some r) : (∃ z, x = some (.inl z) ∧ kx z = some r) ∨ ∃ a1 a2 a3, x = some (.inr (a1, a2, a3)) ∧ k a1 a2 a3 = some r := by
  match x, h with
  | some (.inl z), h => exact Or.inl ⟨z, rfl, h⟩
  | some (.inr (a1, a2, a3)), h => exact Or.inr ⟨a1, a2, a3, rfl, h⟩
theorem bx3_eq {A1 A2 A3 ρ : Type} {x : Option (Nat ⊕ (A1 × A2 × A3))} {kx : Nat → Option ρ} {k : A1 → A2 → A3 → Option ρ} {a1 : A1} {a2 : A2} {a3 : A3} (h : x = some (.inr (a1, a2, a3))) : bx3 x kx k = k a1 a2 a3 := by rw [h]; rfl
theorem bx3_thr {A1 A2 A3 ρ : Type} {x : Option (Nat ⊕ (A1 × A2 × A3))} {kx : Nat → Option ρ} {k : A1 → A2 → A3 → Option ρ} {z : Nat} (h : x = some (.inl z)) : bx3 x kx k = kx z := by rw [h]; rfl
/-- a call that throws (k) or answers -/
def bx4 {A1 A2 A3 A4 ρ : Type} (x : Option (Nat ⊕ (A1 × A2 × A3 × A4))) (kx : Nat → Option ρ) (k : A1 → A2 → A3 → A4 → Option ρ) : Option ρ := match x with
  | none => none
  | some (.inl z) => kx z
  | some (.inr (a1, a2, a3, a4)) => k a1 a2 a3 a4
theorem bx4_some {A1 A2 A3 A4 ρ : Type} {x : Option (Nat ⊕ (A1 × A2 × A3 × A4))} {kx : Nat → Option ρ} {k : A1 → A2 → A3 → A4 → Option ρ} {r : ρ} (h : bx4 x kx k = some r) : (∃ z, x = some (.inl z) ∧ kx z = some r) ∨ ∃ a1 a2 a3 a4, x = some (.inr (a1, a2, a3, a4)) ∧ k a1 a2 a3 a4 = some r := by
  match x, h with
  | some (.inl z), h => exact Or.inl ⟨z, rfl, h⟩
  | some (.inr (a1, a2, a3, a4)), h => exact Or.inr ⟨a1, a2, a3, a4, rfl, h⟩
theorem bx4_eq {A1 A2 A3 A4 ρ : Type} {x : Option (Nat ⊕ (A1 × A2 × A3 × A4))} {kx : Nat → Option ρ} {k : A1 → A2 → A3 → A4 → Option ρ} {a1 : A1} {a2 : A2} {a3 : A3} {a4 : A4} (h : x = some (.inr (a1, a2, a3, a4))) : bx4 x kx k = k a1 a2 a3 a4 := by rw [h]; rfl
theorem bx4_thr {A1 A2 A3 A4 ρ : Type} {x : Option (Nat ⊕ (A1 × A2 × A3 × A4))} {kx : Nat → Option ρ} {k : A1 → A2 → A3 → A4 → Option ρ} {z : Nat} (h : x = some (.inl z)) : bx4 x kx k = kx z := by rw [h]; rfl
/-- a call that throws (k) or answers -/
def bx5 {A1 A2 A3 A4 A5 ρ : Type} (x : Option (Nat ⊕ (A1 × A2 × A3 × A4 × A5))) (kx : Nat → Option ρ) (k : A1 → A2 → A3 → A4 → A5 → Option ρ) : Option ρ := match x with
  | none => none
  | some (.inl z) => kx z
  | some (.inr (a1, a2, a3, a4, a5)) => k a1 a2 a3 a4 a5
theorem bx5_some {A1 A2 A3 A4 A5 ρ : Type} {x : Option (Nat ⊕ (A1 × A2 × A3 × A4 × A5))} {kx : Nat → Option ρ} {k : A1 → A2 → A3 → A4 → A5 → Option ρ} {r : ρ} (h : bx5 x kx k = some r) : (∃ z, x = some (.inl z) ∧ kx z = some r) ∨ ∃ a1 a2 a3 a4 a5, x = some (.inr (a1, a2, a3, a4, a5)) ∧ k a1 a2 a3 a4 a5 = some r := by
  match x, h with
  | some (.inl z), h => exact Or.inl ⟨z, rfl, h⟩
  | some (.inr (a1, a2, a3, a4, a5)), h => exact Or.inr ⟨a1, a2, a3, a4, a5, rfl, h⟩
theorem bx5_eq {A1 A2 A3 A4 A5 ρ : Type} {x : Option (Nat ⊕ (A1 × A2 × A3 × A4 × A5))} {kx : Nat → Option ρ} {k : A1 → A2 → A3 → A4 → A5 → Option ρ} {a1 : A1} {a2 : A2} {a3 : A3} {a4 : A4} {a5 : A5} (h : x = some (.inr (a1, a2, a3, a4, a5))) : bx5 x kx k = k a1 a2 a3 a4 a5 := by rw [h]; rfl
theorem bx5_thr {A1 A2 A3 A4 A5 ρ : Type} {x : Option (Nat ⊕ (A1 × A2 × A3 × A4 × A5))} {kx : Nat → Option ρ} {k : A1 → A2 → A3 → A4 → A5 → Option ρ} {z : Nat} (h : x = some (.inl z)) : bx5 x kx k = kx z := by rw [h]; rfl
def Lp1 {A1 ρ : Type} (body : (A1 → Option ρ) → A1 → Option ρ) : Nat → A1 → Option ρ
  | 0 => fun _ => none
  | n + 1 => body (Lp1 body n)
theorem Lp1_W {A1 ρ : Type} {body : (A1 → Option ρ) → A1 → Option ρ} {P : A1 → Prop} {res : ρ} (hb : ∀ again : A1 → Option ρ, (∀ a1, again a1 = some res → P a1) → ∀ a1, body again a1 = some res → P a1) : ∀ (n : Nat) a1, Lp1 body n a1 = some res → P a1 := by
  intro n
  induction n with
  | zero => intro a1 h; cases h
  | succ n ih => intro a1 h; exact hb _ ih a1 h
theorem Lp1_I {A1 ρ : Type} {body : (A1 → Option ρ) → A1 → Option ρ} (I : Nat → A1 → Prop) (Post : Option ρ → Prop) (hb : ∀ (u : Nat) a1, I u a1 → ∀ again : A1 → Option ρ, (∀ (v : Nat) b1, v < u → I v b1 → Post (again b1)) → Post (body again a1)) : ∀ (n u : Nat) a1, I u a1 → u < n → Post (Lp1 body n a1) := by
  intro n
  induction n with
  | zero => intro u a1 _ h; exact absurd h (Nat.not_lt_zero _)
  | succ n ih =>
    intro u a1 hI hu
    exact hb u a1 hI (Lp1 body n) (fun v b1 hv hJ => ih v b1 hJ (by omega))
def Lp2 {A1 A2 ρ : Type} (body : (A1 → A2 → Option ρ) → A1 → A2 → Option ρ) : Nat → A1 → A2 → Option ρ
  | 0 => fun _ _ => none
  | n + 1 => body (Lp2 body n)
theorem Lp2_W {A1 A2 ρ : Type} {body : (A1 → A2 → Option ρ) → A1 → A2 → Option ρ} {P : A1 → A2 → Prop} {res : ρ} (hb : ∀ again : A1 → A2 → Option ρ, (∀ a1 a2, again a1 a2 = some res → P a1 a2) → ∀ a1 a2, body again a1 a2 = some res → P a1 a2) : ∀ (n : Nat) a1 a2, Lp2 body n a1 a2 = some res → P a1 a2 := by
  intro n
  induction n with
  | zero => intro a1 a2 h; cases h
  | succ n ih => intro a1 a2 h; exact hb _ ih a1 a2 h
theorem Lp2_I {A1 A2 ρ : Type} {body : (A1 → A2 → Option ρ) → A1 → A2 → Option ρ} (I : Nat → A1 → A2 → Prop) (Post : Option ρ → Prop) (hb : ∀ (u : Nat) a1 a2, I u a1 a2 → ∀ again : A1 → A2 → Option ρ, (∀ (v : Nat) b1 b2, v < u → I v b1 b2 → Post (again b1 b2)) → Post (body again a1 a2)) : ∀ (n u : Nat) a1 a2, I u a1 a2 → u < n → Post (Lp2 body n a1 a2) := by
  intro n
  induction n with
  | zero => intro u a1 a2 _ h; exact absurd h (Nat.not_lt_zero _)
  | succ n ih =>
    intro u a1 a2 hI hu
    exact hb u a1 a2 hI (Lp2 body n) (fun v b1 b2 hv hJ => ih v b1 b2 hJ (by omega))
def Lp3 {A1 A2 A3 ρ : Type} (body : (A1 → A2 → A3 → Option ρ) → A1 → A2 → A3 → Option ρ) : Nat → A1 → A2 → A3 → Option ρ
  | 0 => fun _ _ _ => none
  | n + 1 => body (Lp3 body n)
theorem Lp3_W {A1 A2 A3 ρ : Type} {body : (A1 → A2 → A3 → Option ρ) → A1 → A2 → A3 → Option ρ} {P : A1 → A2 → A3 → Prop} {res : ρ} (hb : ∀ again : A1 → A2 → A3 → Option ρ, (∀ a1 a2 a3, again a1 a2 a3 = some res → P a1 a2 a3) → ∀ a1 a2 a3, body again a1 a2 a3 = some res → P a1 a2 a3) : ∀ (n : Nat) a1 a2 a3, Lp3 body n a1 a2 a3 = some res → P a1 a2 a3 := by
  intro n
  induction n with
  | zero => intro a1 a2 a3 h; cases h
  | succ n ih => intro a1 a2 a3 h; exact hb _ ih a1 a2 a3 h
theorem Lp3_I {A1 A2 A3 ρ : Type} {body : (A1 → A2 → A3 → Option ρ) → A1 → A2 → A3 → Option ρ} (I : Nat → A1 → A2 → A3 → Prop) (Post : Option ρ → Prop) (hb : ∀ (u : Nat) a1 a2 a3, I u a1 a2 a3 → ∀ again : A1 → A2 → A3 → Option ρ, (∀ (v : Nat) b1 b2 b3, v < u → I v b1 b2 b3 → Post (again b1 b2 b3)) → Post (body again a1 a2 a3)) : ∀ (n u : Nat) a1 a2 a3, I u a1 a2 a3 → u < n → Post (Lp3 body n a1 a2 a3) := by
  intro n
  induction n with
  | zero => intro u a1 a2 a3 _ h; exact absurd h (Nat.not_lt_zero _)
  | succ n ih =>
    intro u a1 a2 a3 hI hu
    exact hb u a1 a2 a3 hI (Lp3 body n) (fun v b1 b2 b3 hv hJ => ih v b1 b2 b3 hJ (by omega))
def Lp4 {A1 A2 A3 A4 ρ : Type} (body : (A1 → A2 → A3 → A4 → Option ρ) → A1 → A2 → A3 → A4 → Option ρ) : Nat → A1 → A2 → A3 → A4 → Option ρ
  | 0 => fun _ _ _ _ => none
  | n + 1 => body (Lp4 body n)
theorem Lp4_W {A1 A2 A3 A4 ρ : Type} {body : (A1 → A2 → A3 → A4 → Option ρ) → A1 → A2 → A3 → A4 → Option ρ} {P : A1 → A2 → A3 → A4 → Prop} {res : ρ} (hb : ∀ again : A1 → A2 → A3 → A4 → Option ρ, (∀ a1 a2 a3 a4, again a1 a2 a3 a4 = some res → P a1 a2 a3 a4) → ∀ a1 a2 a3 a4, body again a1 a2 a3 a4 = some res → P a1 a2 a3 a4) : ∀ (n : Nat) a1 a2 a3 a4, Lp4 body n a1 a2 a3 a4 = some res → P a1 a2 a3 a4 := by
  intro n
  induction n with
  | zero => intro a1 a2 a3 a4 h; cases h
  | succ n ih => intro a1 a2 a3 a4 h; exact hb _ ih a1 a2 a3 a4 h
theorem Lp4_I {A1 A2 A3 A4 ρ : Type} {body : (A1 → A2 → A3 → A4 → Option ρ) → A1 → A2 → A3 → A4 → Option ρ} (I : Nat → A1 → A2 → A3 → A4 → Prop) (Post : Option ρ → Prop) (hb : ∀ (u : Nat) a1 a2 a3 a4, I u a1 a2 a3 a4 → ∀ again : A1 → A2 → A3 → A4 → Option ρ, (∀ (v : Nat) b1 b2 b3 b4, v < u → I v b1 b2 b3 b4 → Post (again b1 b2 b3 b4)) → Post (body again a1 a2 a3 a4)) : ∀ (n u : Nat) a1 a2 a3 a4, I u a1 a2 a3 a4 → u < n → Post (Lp4 body n a1 a2 a3 a4) := by
  intro n
  induction n with
  | zero => intro u a1 a2 a3 a4 _ h; exact absurd h (Nat.not_lt_zero _)
  | succ n ih =>
    intro u a1 a2 a3 a4 hI hu
    exact hb u a1 a2 a3 a4 hI (Lp4 body n) (fun v b1 b2 b3 b4 hv hJ => ih v b1 b2 b3 b4 hJ (by omega))
def Lp5 {A1 A2 A3 A4 A5 ρ : Type} (body : (A1 → A2 → A3 → A4 → A5 → Option ρ) → A1 → A2 → A3 → A4 → A5 → Option ρ) : Nat → A1 → A2 → A3 → A4 → A5 → Option ρ
  | 0 => fun _ _ _ _ _ => none
  | n + 1 => body (Lp5 body n)
theorem Lp5_W {A1 A2 A3 A4 A5 ρ : Type} {body : (A1 → A2 → A3 → A4 → A5 → Option ρ) → A1 → A2 → A3 → A4 → A5 → Option ρ} {P : A1 → A2 → A3 → A4 → A5 → Prop} {res : ρ} (hb : ∀ again : A1 → A2 → A3 → A4 → A5 → Option ρ, (∀ a1 a2 a3 a4 a5, again a1 a2 a3 a4 a5 = some res → P a1 a2 a3 a4 a5) → ∀ a1 a2 a3 a4 a5, body again a1 a2 a3 a4 a5 = some res → P a1 a2 a3 a4 a5) : ∀ (n : Nat) a1 a2 a3 a4 a5, Lp5 body n a1 a2 a3 a4 a5 = some res → P a1 a2 a3 a4 a5 := by
  intro n
  induction n with
  | zero => intro a1 a2 a3 a4 a5 h; cases h
  | succ n ih => intro a1 a2 a3 a4 a5 h; exact hb _ ih a1 a2 a3 a4 a5 h
theorem Lp5_I {A1 A2 A3 A4 A5 ρ : Type} {body : (A1 → A2 → A3 → A4 → A5 → Option ρ) → A1 → A2 → A3 → A4 → A5 → Option ρ} (I : Nat → A1 → A2 → A3 → A4 → A5 → Prop) (Post : Option ρ → Prop) (hb : ∀ (u : Nat) a1 a2 a3 a4 a5, I u a1 a2 a3 a4 a5 → ∀ again : A1 → A2 → A3 → A4 → A5 → Option ρ, (∀ (v : Nat) b1 b2 b3 b4 b5, v < u → I v b1 b2 b3 b4 b5 → Post (again b1 b2 b3 b4 b5)) → Post (body again a1 a2 a3 a4 a5)) : ∀ (n u : Nat) a1 a2 a3 a4 a5, I u a1 a2 a3 a4 a5 → u < n → Post (Lp5 body n a1 a2 a3 a4 a5) := by
  intro n
  induction n with
  | zero => intro u a1 a2 a3 a4 a5 _ h; exact absurd h (Nat.not_lt_zero _)
  | succ n ih =>
    intro u a1 a2 a3 a4 a5 hI hu
    exact hb u a1 a2 a3 a4 a5 hI (Lp5 body n) (fun v b1 b2 b3 b4 b5 hv hJ => ih v b1 b2 b3 b4 b5 hJ (by omega))
def Lp6 {A1 A2 A3 A4 A5 A6 ρ : Type} (body : (A1 → A2 → A3 → A4 → A5 → A6 → Option ρ) → A1 → A2 → A3 → A4 → A5 → A6 → Option ρ) : Nat → A1 → A2 → A3 → A4 → A5 → A6 → Option ρ
  | 0 => fun _ _ _ _ _ _ => none
  | n + 1 => body (Lp6 body n)
theorem Lp6_W {A1 A2 A3 A4 A5 A6 ρ : Type} {body : (A1 → A2 → A3 → A4 → A5 → A6 → Option ρ) → A1 → A2 → A3 → A4 → A5 → A6 → Option ρ} {P : A1 → A2 → A3 → A4 → A5 → A6 → Prop} {res : ρ} (hb : ∀ again : A1 → A2 → A3 → A4 → A5 → A6 → Option ρ, (∀ a1 a2 a3 a4 a5 a6, again a1 a2 a3 a4 a5 a6 = some res → P a1 a2 a3 a4 a5 a6) → ∀ a1 a2 a3 a4 a5 a6, body again a1 a2 a3 a4 a5 a6 = some res → P a1 a2 a3 a4 a5 a6) : ∀ (n : Nat) a1 a2 a3 a4 a5 a6, Lp6 body n a1 a2 a3 a4 a5 a6 = some res → P a1 a2 a3 a4 a5 a6 := by
  intro n
  induction n with
  | zero => intro a1 a2 a3 a4 a5 a6 h; cases h
  | succ n ih => intro a1 a2 a3 a4 a5 a6 h; exact hb _ ih a1 a2 a3 a4 a5 a6 h
theorem Lp6_I {A1 A2 A3 A4 A5 A6 ρ : Type} {body : (A1 → A2 → A3 → A4 → A5 → A6 → Option ρ) → A1 → A2 → A3 → A4 → A5 → A6 → Option ρ} (I : Nat → A1 → A2 → A3 → A4 → A5 → A6 → Prop) (Post : Option ρ → Prop) (hb : ∀ (u : Nat) a1 a2 a3 a4 a5 a6, I u a1 a2 a3 a4 a5 a6 → ∀ again : A1 → A2 → A3 → A4 → A5 → A6 → Option ρ, (∀ (v : Nat) b1 b2 b3 b4 b5 b6, v < u → I v b1 b2 b3 b4 b5 b6 → Post (again b1 b2 b3 b4 b5 b6)) → Post (body again a1 a2 a3 a4 a5 a6)) : ∀ (n u : Nat) a1 a2 a3 a4 a5 a6, I u a1 a2 a3 a4 a5 a6 → u < n → Post (Lp6 body n a1 a2 a3 a4 a5 a6) := by
  intro n
  induction n with
  | zero => intro u a1 a2 a3 a4 a5 a6 _ h; exact absurd h (Nat.not_lt_zero _)
  | succ n ih =>
    intro u a1 a2 a3 a4 a5 a6 hI hu
    exact hb u a1 a2 a3 a4 a5 a6 hI (Lp6 body n) (fun v b1 b2 b3 b4 b5 b6 hv hJ => ih v b1 b2 b3 b4 b5 b6 hJ (by omega))
def Lp7 {A1 A2 A3 A4 A5 A6 A7 ρ : Type} (body : (A1 → A2 → A3 → A4 → A5 → A6 → A7 → Option ρ) → A1 → A2 → A3 → A4 → A5 → A6 → A7 → Option ρ) : Nat → A1 → A2 → A3 → A4 → A5 → A6 → A7 → Option ρ
  | 0 => fun _ _ _ _ _ _ _ => none
  | n + 1 => body (Lp7 body n)
theorem Lp7_W {A1 A2 A3 A4 A5 A6 A7 ρ : Type} {body : (A1 → A2 → A3 → A4 → A5 → A6 → A7 → Option ρ) → A1 → A2 → A3 → A4 → A5 → A6 → A7 → Option ρ} {P : A1 → A2 → A3 → A4 → A5 → A6 → A7 → Prop} {res : ρ} (hb : ∀ again : A1 → A2 → A3 → A4 → A5 → A6 → A7 → Option ρ, (∀ a1 a2 a3 a4 a5 a6 a7, again a1 a2 a3 a4 a5 a6 a7 = some res → P a1 a2 a3 a4 a5 a6 a7) → ∀ a1 a2 a3 a4 a5 a6 a7, body again a1 a2 a3 a4 a5 a6 a7 = some res → P a1 a2 a3 a4 a5 a6 a7) : ∀ (n : Nat) a1 a2 a3 a4 a5 a6 a7, Lp7 body n a1 a2 a3 a4 a5 a6 a7 = some res → P a1 a2 a3 a4 a5 a6 a7 := by
  intro n
  induction n with
  | zero => intro a1 a2 a3 a4 a5 a6 a7 h; cases h
  | succ n ih => intro a1 a2 a3 a4 a5 a6 a7 h; exact hb _ ih a1 a2 a3 a4 a5 a6 a7 h
theorem Lp7_I {A1 A2 A3 A4 A5 A6 A7 ρ : Type} {body : (A1 → A2 → A3 → A4 → A5 → A6 → A7 → Option ρ) → A1 → A2 → A3 → A4 → A5 → A6 → A7 → Option ρ} (I : Nat → A1 → A2 → A3 → A4 → A5 → A6 → A7 → Prop) (Post : Option ρ → Prop) (hb : ∀ (u : Nat) a1 a2 a3 a4 a5 a6 a7, I u a1 a2 a3 a4 a5 a6 a7 → ∀ again : A1 → A2 → A3 → A4 → A5 → A6 → A7 → Option ρ, (∀ (v : Nat) b1 b2 b3 b4 b5 b6 b7, v < u → I v b1 b2 b3 b4 b5 b6 b7 → Post (again b1 b2 b3 b4 b5 b6 b7)) → Post (body again a1 a2 a3 a4 a5 a6 a7)) : ∀ (n u : Nat) a1 a2 a3 a4 a5 a6 a7, I u a1 a2 a3 a4 a5 a6 a7 → u < n → Post (Lp7 body n a1 a2 a3 a4 a5 a6 a7) := by
  intro n
  induction n with
  | zero => intro u a1 a2 a3 a4 a5 a6 a7 _ h; exact absurd h (Nat.not_lt_zero _)
  | succ n ih =>
    intro u a1 a2 a3 a4 a5 a6 a7 hI hu
    exact hb u a1 a2 a3 a4 a5 a6 a7 hI (Lp7 body n) (fun v b1 b2 b3 b4 b5 b6 b7 hv hJ => ih v b1 b2 b3 b4 b5 b6 b7 hJ (by omega))
def Lp8 {A1 A2 A3 A4 A5 A6 A7 A8 ρ : Type} (body : (A1 → A2 → A3 → A4 → A5 → A6 → A7 → A8 → Option ρ) → A1 → A2 → A3 → A4 → A5 → A6 → A7 → A8 → Option ρ) : Nat → A1 → A2 → A3 → A4 → A5 → A6 → A7 → A8 → Option ρ
  | 0 => fun _ _ _ _ _ _ _ _ => none
  | n + 1 => body (Lp8 body n)
theorem Lp8_W {A1 A2 A3 A4 A5 A6 A7 A8 ρ : Type} {body : (A1 → A2 → A3 → A4 → A5 → A6 → A7 → A8 → Option ρ) → A1 → A2 → A3 → A4 → A5 → A6 → A7 → A8 → Option ρ} {P : A1 → A2 → A3 → A4 → A5 → A6 → A7 → A8 → Prop} {res : ρ} (hb : ∀ again : A1 → A2 → A3 → A4 → A5 → A6 → A7 → A8 → Option ρ, (∀ a1 a2 a3 a4 a5 a6 a7 a8, again a1 a2 a3 a4 a5 a6 a7 a8 = some res → P a1 a2 a3 a4 a5 a6 a7 a8) → ∀ a1 a2 a3 a4 a5 a6 a7 a8, body again a1 a2 a3 a4 a5 a6 a7 a8 = some res → P a1 a2 a3 a4 a5 a6 a7 a8) : ∀ (n : Nat) a1 a2 a3 a4 a5 a6 a7 a8, Lp8 body n a1 a2 a3 a4 a5 a6 a7 a8 = some res → P a1 a2 a3 a4 a5 a6 a7 a8 := by
  intro n
  induction n with
  | zero => intro a1 a2 a3 a4 a5 a6 a7 a8 h; cases h
  | succ n ih => intro a1 a2 a3 a4 a5 a6 a7 a8 h; exact hb _ ih a1 a2 a3 a4 a5 a6 a7 a8 h
theorem Lp8_I {A1 A2 A3 A4 A5 A6 A7 A8 ρ : Type} {body : (A1 → A2 → A3 → A4 → A5 → A6 → A7 → A8 → Option ρ) → A1 → A2 → A3 → A4 → A5 → A6 → A7 → A8 → Option ρ} (I : Nat → A1 → A2 → A3 → A4 → A5 → A6 → A7 → A8 → Prop) (Post : Option ρ → Prop) (hb : ∀ (u : Nat) a1 a2 a3 a4 a5 a6 a7 a8, I u a1 a2 a3 a4 a5 a6 a7 a8 → ∀ again : A1 → A2 → A3 → A4 → A5 → A6 → A7 → A8 → Option ρ, (∀ (v : Nat) b1 b2 b3 b4 b5 b6 b7 b8, v < u → I v b1 b2 b3 b4 b5 b6 b7 b8 → Post (again b1 b2 b3 b4 b5 b6 b7 b8)) → Post (body again a1 a2 a3 a4 a5 a6 a7 a8)) : ∀ (n u : Nat) a1 a2 a3 a4 a5 a6 a7 a8, I u a1 a2 a3 a4 a5 a6 a7 a8 → u < n → Post (Lp8 body n a1 a2 a3 a4 a5 a6 a7 a8) := by
  intro n
  induction n with
  | zero => intro u a1 a2 a3 a4 a5 a6 a7 a8 _ h; exact absurd h (Nat.not_lt_zero _)
  | succ n ih =>
    intro u a1 a2 a3 a4 a5 a6 a7 a8 hI hu
    exact hb u a1 a2 a3 a4 a5 a6 a7 a8 hI (Lp8 body n) (fun v b1 b2 b3 b4 b5 b6 b7 b8 hv hJ => ih v b1 b2 b3 b4 b5 b6 b7 b8 hJ (by omega))
def Lp9 {A1 A2 A3 A4 A5 A6 A7 A8 A9 ρ : Type} (body : (A1 → A2 → A3 → A4 → A5 → A6 → A7 → A8 → A9 → Option ρ) → A1 → A2 → A3 → A4 → A5 → A6 → A7 → A8 → A9 → Option ρ) : Nat → A1 → A2 → A3 → A4 → A5 → A6 → A7 → A8 → A9 → Option ρ
  | 0 => fun _ _ _ _ _ _ _ _ _ => none
  | n + 1 => body (Lp9 body n)
theorem Lp9_W {A1 A2 A3 A4 A5 A6 A7 A8 A9 ρ : Type} {body : (A1 → A2 → A3 → A4 → A5 → A6 → A7 → A8 → A9 → Option ρ) → A1 → A2 → A3 → A4 → A5 → A6 → A7 → A8 → A9 → Option ρ} {P : A1 → A2 → A3 → A4 → A5 → A6 → A7 → A8 → A9 → Prop} {res : ρ} (hb : ∀ again : A1 → A2 → A3 → A4 → A5 → A6 → A7 → A8 → A9 → Option ρ, (∀ a1 a2 a3 a4 a5 a6 a7 a8 a9, again a1 a2 a3 a4 a5 a6 a7 a8 a9 = some res → P a1 a2 a3 a4 a5 a6 a7 a8 a9) → ∀ a1 a2 a3 a4 a5 a6 a7 a8 a9, body again a1 a2 a3 a4 a5 a6 a7 a8 a9 = some res → P a1 a2 a3 a4 a5 a6 a7 a8 a9) : ∀ (n : Nat) a1 a2 a3 a4 a5 a6 a7 a8 a9, Lp9 body n a1 a2 a3 a4 a5 a6 a7 a8 a9 = some res → P a1 a2 a3 a4 a5 a6 a7 a8 a9 := by
  intro n
  induction n with
  | zero => intro a1 a2 a3 a4 a5 a6 a7 a8 a9 h; cases h
  | succ n ih => intro a1 a2 a3 a4 a5 a6 a7 a8 a9 h; exact hb _ ih a1 a2 a3 a4 a5 a6 a7 a8 a9 h
theorem Lp9_I {A1 A2 A3 A4 A5 A6 A7 A8 A9 ρ : Type} {body : (A1 → A2 → A3 → A4 → A5 → A6 → A7 → A8 → A9 → Option ρ) → A1 → A2 → A3 → A4 → A5 → A6 → A7 → A8 → A9 → Option ρ} (I : Nat → A1 → A2 → A3 → A4 → A5 → A6 → A7 → A8 → A9 → Prop) (Post : Option ρ → Prop) (hb : ∀ (u : Nat) a1 a2 a3 a4 a5 a6 a7 a8 a9, I u a1 a2 a3 a4 a5 a6 a7 a8 a9 → ∀ again : A1 → A2 → A3 → A4 → A5 → A6 → A7 → A8 → A9 → Option ρ, (∀ (v : Nat) b1 b2 b3 b4 b5 b6 b7 b8 b9, v < u → I v b1 b2 b3 b4 b5 b6 b7 b8 b9 → Post (again b1 b2 b3 b4 b5 b6 b7 b8 b9)) → Post (body again a1 a2 a3 a4 a5 a6 a7 a8 a9)) : ∀ (n u : Nat) a1 a2 a3 a4 a5 a6 a7 a8 a9, I u a1 a2 a3 a4 a5 a6 a7 a8 a9 → u < n → Post (Lp9 body n a1 a2 a3 a4 a5 a6 a7 a8 a9) := by
  intro n
  induction n with
  | zero => intro u a1 a2 a3 a4 a5 a6 a7 a8 a9 _ h; exact absurd h (Nat.not_lt_zero _)
  | succ n ih =>
    intro u a1 a2 a3 a4 a5 a6 a7 a8 a9 hI hu
    exact hb u a1 a2 a3 a4 a5 a6 a7 a8 a9 hI (Lp9 body n) (fun v b1 b2 b3 b4 b5 b6 b7 b8 b9 hv hJ => ih v b1 b2 b3 b4 b5 b6 b7 b8 b9 hJ (by omega))
def Lp10 {A1 A2 A3 A4 A5 A6 A7 A8 A9 A10 ρ : Type} (body : (A1 → A2 → A3 → A4 → A5 → A6 → A7 → A8 → A9 → A10 → Option ρ) → A1 → A2 → A3 → A4 → A5 → A6 → A7 → A8 → A9 → A10 → Option ρ) : Nat → A1 → A2 → A3 → A4 → A5 → A6 → A7 → A8 → A9 → A10 → Option ρ
  | 0 => fun _ _ _ _ _ _ _ _ _ _ => none
  | n + 1 => body (Lp10 body n)
theorem Lp10_W {A1 A2 A3 A4 A5 A6 A7 A8 A9 A10 ρ : Type} {body : (A1 → A2 → A3 → A4 → A5 → A6 → A7 → A8 → A9 → A10 → Option ρ) → A1 → A2 → A3 → A4 → A5 → A6 → A7 → A8 → A9 → A10 → Option ρ} {P : A1 → A2 → A3 → A4 → A5 → A6 → A7 → A8 → A9 → A10 → Prop} {res : ρ} (hb : ∀ again : A1 → A2 → A3 → A4 → A5 → A6 → A7 → A8 → A9 → A10 → Option ρ, (∀ a1 a2 a3 a4 a5 a6 a7 a8 a9 a10, again a1 a2 a3 a4 a5 a6 a7 a8 a9 a10 = some res → P a1 a2 a3 a4 a5 a6 a7 a8 a9 a10) → ∀ a1 a2 a3 a4 a5 a6 a7 a8 a9 a10, body again a1 a2 a3 a4 a5 a6 a7 a8 a9 a10 = some res → P a1 a2 a3 a4 a5 a6 a7 a8 a9 a10) : ∀ (n : Nat) a1 a2 a3 a4 a5 a6 a7 a8 a9 a10, Lp10 body n a1 a2 a3 a4 a5 a6 a7 a8 a9 a10 = some res → P a1 a2 a3 a4 a5 a6 a7 a8 a9 a10 := by
  intro n
  induction n with
  | zero => intro a1 a2 a3 a4 a5 a6 a7 a8 a9 a10 h; cases h
  | succ n ih => intro a1 a2 a3 a4 a5 a6 a7 a8 a9 a10 h; exact hb _ ih a1 a2 a3 a4 a5 a6 a7 a8 a9 a10 h
theorem Lp10_I {A1 A2 A3 A4 A5 A6 A7 A8 A9 A10 ρ : Type} {body : (A1 → A2 → A3 → A4 → A5 → A6 → A7 → A8 → A9 → A10 → Option ρ) → A1 → A2 → A3 → A4 → A5 → A6 → A7 → A8 → A9 → A10 → Option ρ} (I : Nat → A1 → A2 → A3 → A4 → A5 → A6 → A7 → A8 → A9 → A10 → Prop) (Post : Option ρ → Prop) (hb : ∀ (u : Nat) a1 a2 a3 a4 a5 a6 a7 a8 a9 a10, I u a1 a2 a3 a4 a5 a6 a7 a8 a9 a10 → ∀ again : A1 → A2 → A3 → A4 → A5 → A6 → A7 → A8 → A9 → A10 → Option ρ, (∀ (v : Nat) b1 b2 b3 b4 b5 b6 b7 b8 b9 b10, v < u → I v b1 b2 b3 b4 b5 b6 b7 b8 b9 b10 → Post (again b1 b2 b3 b4 b5 b6 b7 b8 b9 b10)) → Post (body again a1 a2 a3 a4 a5 a6 a7 a8 a9 a10)) : ∀ (n u : Nat) a1 a2 a3 a4 a5 a6 a7 a8 a9 a10, I u a1 a2 a3 a4 a5 a6 a7 a8 a9 a10 → u < n → Post (Lp10 body n a1 a2 a3 a4 a5 a6 a7 a8 a9 a10) := by
  intro n
  induction n with
  | zero => intro u a1 a2 a3 a4 a5 a6 a7 a8 a9 a10 _ h; exact absurd h (Nat.not_lt_zero _)
  | succ n ih =>
    intro u a1 a2 a3 a4 a5 a6 a7 a8 a9 a10 hI hu
    exact hb u a1 a2 a3 a4 a5 a6 a7 a8 a9 a10 hI (Lp10 body n) (fun v b1 b2 b3 b4 b5 b6 b7 b8 b9 b10 hv hJ => ih v b1 b2 b3 b4 b5 b6 b7 b8 b9 b10 hJ (by omega))
def Lp11 {A1 A2 A3 A4 A5 A6 A7 A8 A9 A10 A11 ρ : Type} (body : (A1 → A2 → A3 → A4 → A5 → A6 → A7 → A8 → A9 → A10 → A11 → Option ρ) → A1 → A2 → A3 → A4 → A5 → A6 → A7 → A8 → A9 → A10 → A11 → Option ρ) : Nat → A1 → A2 → A3 → A4 → A5 → A6 → A7 → A8 → A9 → A10 → A11 → Option ρ
  | 0 => fun _ _ _ _ _ _ _ _ _ _ _ => none
  | n + 1 => body (Lp11 body n)
theorem Lp11_W {A1 A2 A3 A4 A5 A6 A7 A8 A9 A10 A11 ρ : Type} {body : (A1 → A2 → A3 → A4 → A5 → A6 → A7 → A8 → A9 → A10 → A11 → Option ρ) → A1 → A2 → A3 → A4 → A5 → A6 → A7 → A8 → A9 → A10 → A11 → Option ρ} {P : A1 → A2 → A3 → A4 → A5 → A6 → A7 → A8 → A9 → A10 → A11 → Prop} {res : ρ} (hb : ∀ again : A1 → A2 → A3 → A4 → A5 → A6 → A7 → A8 → A9 → A10 → A11 → Option ρ, (∀ a1 a2 a3 a4 a5 a6 a7 a8 a9 a10 a11, again a1 a2 a3 a4 a5 a6 a7 a8 a9 a10 a11 = some res → P a1 a2 a3 a4 a5 a6 a7 a8 a9 a10 a11) → ∀ a1 a2 a3 a4 a5 a6 a7 a8 a9 a10 a11, body again a1 a2 a3 a4 a5 a6 a7 a8 a9 a10 a11 = some res → P a1 a2 a3 a4 a5 a6 a7 a8 a9 a10 a11) : ∀ (n : Nat) a1 a2 a3 a4 a5 a6 a7 a8 a9 a10 a11, Lp11 body n a1 a2 a3 a4 a5 a6 a7 a8 a9 a10 a11 = some res → P a1 a2 a3 a4 a5 a6 a7 a8 a9 a10 a11 := by
  intro n
  induction n with
  | zero => intro a1 a2 a3 a4 a5 a6 a7 a8 a9 a10 a11 h; cases h
  | succ n ih => intro a1 a2 a3 a4 a5 a6 a7 a8 a9 a10 a11 h; exact hb _ ih a1 a2 a3 a4 a5 a6 a7 a8 a9 a10 a11 h
theorem Lp11_I {A1 A2 A3 A4 A5 A6 A7 A8 A9 A10 A11 ρ : Type} {body : (A1 → A2 → A3 → A4 → A5 → A6 → A7 → A8 → A9 → A10 → A11 → Option ρ) → A1 → A2 → A3 → A4 → A5 → A6 → A7 → A8 → A9 → A10 → A11 → Option ρ} (I : Nat → A1 → A2 → A3 → A4 → A5 → A6 → A7 → A8 → A9 → A10 → A11 → Prop) (Post : Option ρ → Prop) (hb : ∀ (u : Nat) a1 a2 a3 a4 a5 a6 a7 a8 a9 a10 a11, I u a1 a2 a3 a4 a5 a6 a7 a8 a9 a10 a11 → ∀ again : A1 → A2 → A3 → A4 → A5 → A6 → A7 → A8 → A9 → A10 → A11 → Option ρ, (∀ (v : Nat) b1 b2 b3 b4 b5 b6 b7 b8 b9 b10 b11, v < u → I v b1 b2 b3 b4 b5 b6 b7 b8 b9 b10 b11 → Post (again b1 b2 b3 b4 b5 b6 b7 b8 b9 b10 b11)) → Post (body again a1 a2 a3 a4 a5 a6 a7 a8 a9 a10 a11)) : ∀ (n u : Nat) a1 a2 a3 a4 a5 a6 a7 a8 a9 a10 a11, I u a1 a2 a3 a4 a5 a6 a7 a8 a9 a10 a11 → u < n → Post (Lp11 body n a1 a2 a3 a4 a5 a6 a7 a8 a9 a10 a11) := by
  intro n
  induction n with
  | zero => intro u a1 a2 a3 a4 a5 a6 a7 a8 a9 a10 a11 _ h; exact absurd h (Nat.not_lt_zero _)
  | succ n ih =>
    intro u a1 a2 a3 a4 a5 a6 a7 a8 a9 a10 a11 hI hu
    exact hb u a1 a2 a3 a4 a5 a6 a7 a8 a9 a10 a11 hI (Lp11 body n) (fun v b1 b2 b3 b4 b5 b6 b7 b8 b9 b10 b11 hv hJ => ih v b1 b2 b3 b4 b5 b6 b7 b8 b9 b10 b11 hJ (by omega))
def Lp12 {A1 A2 A3 A4 A5 A6 A7 A8 A9 A10 A11 A12 ρ : Type} (body : (A1 → A2 → A3 → A4 → A5 → A6 → A7 → A8 → A9 → A10 → A11 → A12 → Option ρ) → A1 → A2 → A3 → A4 → A5 → A6 → A7 → A8 → A9 → A10 → A11 → A12 → Option ρ) : Nat → A1 → A2 → A3 → A4 → A5 → A6 → A7 → A8 → A9 → A10 → A11 → A12 → Option ρ
  | 0 => fun _ _ _ _ _ _ _ _ _ _ _ _ => none
  | n + 1 => body (Lp12 body n)
theorem Lp12_W {A1 A2 A3 A4 A5 A6 A7 A8 A9 A10 A11 A12 ρ : Type} {body : (A1 → A2 → A3 → A4 → A5 → A6 → A7 → A8 → A9 → A10 → A11 → A12 → Option ρ) → A1 → A2 → A3 → A4 → A5 → A6 → A7 → A8 → A9 → A10 → A11 → A12 → Option ρ} {P : A1 → A2 → A3 → A4 → A5 → A6 → A7 → A8 → A9 → A10 → A11 → A12 → Prop} {res : ρ} (hb : ∀ again : A1 → A2 → A3 → A4 → A5 → A6 → A7 → A8 → A9 → A10 → A11 → A12 → Option ρ, (∀ a1 a2 a3 a4 a5 a6 a7 a8 a9 a10 a11 a12, again a1 a2 a3 a4 a5 a6 a7 a8 a9 a10 a11 a12 = some res → P a1 a2 a3 a4 a5 a6 a7 a8 a9 a10 a11 a12) → ∀ a1 a2 a3 a4 a5 a6 a7 a8 a9 a10 a11 a12, body again a1 a2 a3 a4 a5 a6 a7 a8 a9 a10 a11 a12 = some res → P a1 a2 a3 a4 a5 a6 a7 a8 a9 a10 a11 a12) : ∀ (n : Nat) a1 a2 a3 a4 a5 a6 a7 a8 a9 a10 a11 a12, Lp12 body n a1 a2 a3 a4 a5 a6 a7 a8 a9 a10 a11 a12 = some res → P a1 a2 a3 a4 a5 a6 a7 a8 a9 a10 a11 a12 := by
  intro n
  induction n with
  | zero => intro a1 a2 a3 a4 a5 a6 a7 a8 a9 a10 a11 a12 h; cases h
  | succ n ih => intro a1 a2 a3 a4 a5 a6 a7 a8 a9 a10 a11 a12 h; exact hb _ ih a1 a2 a3 a4 a5 a6 a7 a8 a9 a10 a11 a12 h
theorem Lp12_I {A1 A2 A3 A4 A5 A6 A7 A8 A9 A10 A11 A12 ρ : Type} {body : (A1 → A2 → A3 → A4 → A5 → A6 → A7 → A8 → A9 → A10 → A11 → A12 → Option ρ) → A1 → A2 → A3 → A4 → A5 → A6 → A7 → A8 → A9 → A10 → A11 → A12 → Option ρ} (I : Nat → A1 → A2 → A3 → A4 → A5 → A6 → A7 → A8 → A9 → A10 → A11 → A12 → Prop) (Post : Option ρ → Prop) (hb : ∀ (u : Nat) a1 a2 a3 a4 a5 a6 a7 a8 a9 a10 a11 a12, I u a1 a2 a3 a4 a5 a6 a7 a8 a9 a10 a11 a12 → ∀ again : A1 → A2 → A3 → A4 → A5 → A6 → A7 → A8 → A9 → A10 → A11 → A12 → Option ρ, (∀ (v : Nat) b1 b2 b3 b4 b5 b6 b7 b8 b9 b10 b11 b12, v < u → I v b1 b2 b3 b4 b5 b6 b7 b8 b9 b10 b11 b12 → Post (again b1 b2 b3 b4 b5 b6 b7 b8 b9 b10 b11 b12)) → Post (body again a1 a2 a3 a4 a5 a6 a7 a8 a9 a10 a11 a12)) : ∀ (n u : Nat) a1 a2 a3 a4 a5 a6 a7 a8 a9 a10 a11 a12, I u a1 a2 a3 a4 a5 a6 a7 a8 a9 a10 a11 a12 → u < n → Post (Lp12 body n a1 a2 a3 a4 a5 a6 a7 a8 a9 a10 a11 a12) := by
  intro n
  induction n with
  | zero => intro u a1 a2 a3 a4 a5 a6 a7 a8 a9 a10 a11 a12 _ h; exact absurd h (Nat.not_lt_zero _)
  | succ n ih =>
    intro u a1 a2 a3 a4 a5 a6 a7 a8 a9 a10 a11 a12 hI hu
    exact hb u a1 a2 a3 a4 a5 a6 a7 a8 a9 a10 a11 a12 hI (Lp12 body n) (fun v b1 b2 b3 b4 b5 b6 b7 b8 b9 b10 b11 b12 hv hJ => ih v b1 b2 b3 b4 b5 b6 b7 b8 b9 b10 b11 b12 hJ (by omega))
def Lp13 {A1 A2 A3 A4 A5 A6 A7 A8 A9 A10 A11 A12 A13 ρ : Type} (body : (A1 → A2 → A3 → A4 → A5 → A6 → A7 → A8 → A9 → A10 → A11 → A12 → A13 → Option ρ) → A1 → A2 → A3 → A4 → A5 → A6 → A7 → A8 → A9 → A10 → A11 → A12 → A13 → Option ρ) : Nat → A1 → A2 → A3 → A4 → A5 → A6 → A7 → A8 → A9 → A10 → A11 → A12 → A13 → Option ρ
  | 0 => fun _ _ _ _ _ _ _ _ _ _ _ _ _ => none
  | n + 1 => body (Lp13 body n)
theorem Lp13_W {A1 A2 A3 A4 A5 A6 A7 A8 A9 A10 A11 A12 A13 ρ : Type} {body : (A1 → A2 → A3 → A4 → A5 → A6 → A7 → A8 → A9 → A10 → A11 → A12 → A13 → Option ρ) → A1 → A2 → A3 → A4 → A5 → A6 → A7 → A8 → A9 → A10 → A11 → A12 → A13 → Option ρ} {P : A1 → A2 → A3 → A4 → A5 → A6 → A7 → A8 → A9 → A10 → A11 → A12 → A13 → Prop} {res : ρ} (hb : ∀ again : A1 → A2 → A3 → A4 → A5 → A6 → A7 → A8 → A9 → A10 → A11 → A12 → A13 → Option ρ, (∀ a1 a2 a3 a4 a5 a6 a7 a8 a9 a10 a11 a12 a13, again a1 a2 a3 a4 a5 a6 a7 a8 a9 a10 a11 a12 a13 = some res → P a1 a2 a3 a4 a5 a6 a7 a8 a9 a10 a11 a12 a13) → ∀ a1 a2 a3 a4 a5 a6 a7 a8 a9 a10 a11 a12 a13, body again a1 a2 a3 a4 a5 a6 a7 a8 a9 a10 a11 a12 a13 = some res → P a1 a2 a3 a4 a5 a6 a7 a8 a9 a10 a11 a12 a13) : ∀ (n : Nat) a1 a2 a3 a4 a5 a6 a7 a8 a9 a10 a11 a12 a13, Lp13 body n a1 a2 a3 a4 a5 a6 a7 a8 a9 a10 a11 a12 a13 = some res → P a1 a2 a3 a4 a5 a6 a7 a8 a9 a10 a11 a12 a13 := by
  intro n
  induction n with
  | zero => intro a1 a2 a3 a4 a5 a6 a7 a8 a9 a10 a11 a12 a13 h; cases h
  | succ n ih => intro a1 a2 a3 a4 a5 a6 a7 a8 a9 a10 a11 a12 a13 h; exact hb _ ih a1 a2 a3 a4 a5 a6 a7 a8 a9 a10 a11 a12 a13 h
theorem Lp13_I {A1 A2 A3 A4 A5 A6 A7 A8 A9 A10 A11 A12 A13 ρ : Type} {body : (A1 → A2 → A3 → A4 → A5 → A6 → A7 → A8 → A9 → A10 → A11 → A12 → A13 → Option ρ) → A1 → A2 → A3 → A4 → A5 → A6 → A7 → A8 → A9 → A10 → A11 → A12 → A13 → Option ρ} (I : Nat → A1 → A2 → A3 → A4 → A5 → A6 → A7 → A8 → A9 → A10 → A11 → A12 → A13 → Prop) (Post : Option ρ → Prop) (hb : ∀ (u : Nat) a1 a2 a3 a4 a5 a6 a7 a8 a9 a10 a11 a12 a13, I u a1 a2 a3 a4 a5 a6 a7 a8 a9 a10 a11 a12 a13 → ∀ again : A1 → A2 → A3 → A4 → A5 → A6 → A7 → A8 → A9 → A10 → A11 → A12 → A13 → Option ρ, (∀ (v : Nat) b1 b2 b3 b4 b5 b6 b7 b8 b9 b10 b11 b12 b13, v < u → I v b1 b2 b3 b4 b5 b6 b7 b8 b9 b10 b11 b12 b13 → Post (again b1 b2 b3 b4 b5 b6 b7 b8 b9 b10 b11 b12 b13)) → Post (body again a1 a2 a3 a4 a5 a6 a7 a8 a9 a10 a11 a12 a13)) : ∀ (n u : Nat) a1 a2 a3 a4 a5 a6 a7 a8 a9 a10 a11 a12 a13, I u a1 a2 a3 a4 a5 a6 a7 a8 a9 a10 a11 a12 a13 → u < n → Post (Lp13 body n a1 a2 a3 a4 a5 a6 a7 a8 a9 a10 a11 a12 a13) := by
  intro n
  induction n with
  | zero => intro u a1 a2 a3 a4 a5 a6 a7 a8 a9 a10 a11 a12 a13 _ h; exact absurd h (Nat.not_lt_zero _)
  | succ n ih =>
    intro u a1 a2 a3 a4 a5 a6 a7 a8 a9 a10 a11 a12 a13 hI hu
    exact hb u a1 a2 a3 a4 a5 a6 a7 a8 a9 a10 a11 a12 a13 hI (Lp13 body n) (fun v b1 b2 b3 b4 b5 b6 b7 b8 b9 b10 b11 b12 b13 hv hJ => ih v b1 b2 b3 b4 b5 b6 b7 b8 b9 b10 b11 b12 b13 hJ (by omega))
def Lp14 {A1 A2 A3 A4 A5 A6 A7 A8 A9 A10 A11 A12 A13 A14 ρ : Type} (body : (A1 → A2 → A3 → A4 → A5 → A6 → A7 → A8 → A9 → A10 → A11 → A12 → A13 → A14 → Option ρ) → A1 → A2 → A3 → A4 → A5 → A6 → A7 → A8 → A9 → A10 → A11 → A12 → A13 → A14 → Option ρ) : Nat → A1 → A2 → A3 → A4 → A5 → A6 → A7 → A8 → A9 → A10 → A11 → A12 → A13 → A14 → Option ρ
  | 0 => fun _ _ _ _ _ _ _ _ _ _ _ _ _ _ => none
  | n + 1 => body (Lp14 body n)
theorem Lp14_W {A1 A2 A3 A4 A5 A6 A7 A8 A9 A10 A11 A12 A13 A14 ρ : Type} {body : (A1 → A2 → A3 → A4 → A5 → A6 → A7 → A8 → A9 → A10 → A11 → A12 → A13 → A14 → Option ρ) → A1 → A2 → A3 → A4 → A5 → A6 → A7 → A8 → A9 → A10 → A11 → A12 → A13 → A14 → Option ρ} {P : A1 → A2 → A3 → A4 → A5 → A6 → A7 → A8 → A9 → A10 → A11 → A12 → A13 → A14 → Prop} {res : ρ} (hb : ∀ again : A1 → A2 → A3 → A4 → A5 → A6 → A7 → A8 → A9 → A10 → A11 → A12 → A13 → A14 → Option ρ, (∀ a1 a2 a3 a4 a5 a6 a7 a8 a9 a10 a11 a12 a13 a14, again a1 a2 a3 a4 a5 a6 a7 a8 a9 a10 a11 a12 a13 a14 = some res → P a1 a2 a3 a4 a5 a6 a7 a8 a9 a10 a11 a12 a13 a14) → ∀ a1 a2 a3 a4 a5 a6 a7 a8 a9 a10 a11 a12 a13 a14, body again a1 a2 a3 a4 a5 a6 a7 a8 a9 a10 a11 a12 a13 a14 = some res → P a1 a2 a3 a4 a5 a6 a7 a8 a9 a10 a11 a12 a13 a14) : ∀ (n : Nat) a1 a2 a3 a4 a5 a6 a7 a8 a9 a10 a11 a12 a13 a14, Lp14 body n a1 a2 a3 a4 a5 a6 a7 a8 a9 a10 a11 a12 a13 a14 = some res → P a1 a2 a3 a4 a5 a6 a7 a8 a9 a10 a11 a12 a13 a14 := by
  intro n
  induction n with
  | zero => intro a1 a2 a3 a4 a5 a6 a7 a8 a9 a10 a11 a12 a13 a14 h; cases h
  | succ n ih => intro a1 a2 a3 a4 a5 a6 a7 a8 a9 a10 a11 a12 a13 a14 h; exact hb _ ih a1 a2 a3 a4 a5 a6 a7 a8 a9 a10 a11 a12 a13 a14 h
theorem Lp14_I {A1 A2 A3 A4 A5 A6 A7 A8 A9 A10 A11 A12 A13 A14 ρ : Type} {body : (A1 → A2 → A3 → A4 → A5 → A6 → A7 → A8 → A9 → A10 → A11 → A12 → A13 → A14 → Option ρ) → A1 → A2 → A3 → A4 → A5 → A6 → A7 → A8 → A9 → A10 → A11 → A12 → A13 → A14 → Option ρ} (I : Nat → A1 → A2 → A3 → A4 → A5 → A6 → A7 → A8 → A9 → A10 → A11 → A12 → A13 → A14 → Prop) (Post : Option ρ → Prop) (hb : ∀ (u : Nat) a1 a2 a3 a4 a5 a6 a7 a8 a9 a10 a11 a12 a13 a14, I u a1 a2 a3 a4 a5 a6 a7 a8 a9 a10 a11 a12 a13 a14 → ∀ again : A1 → A2 → A3 → A4 → A5 → A6 → A7 → A8 → A9 → A10 → A11 → A12 → A13 → A14 → Option ρ, (∀ (v : Nat) b1 b2 b3 b4 b5 b6 b7 b8 b9 b10 b11 b12 b13 b14, v < u → I v b1 b2 b3 b4 b5 b6 b7 b8 b9 b10 b11 b12 b13 b14 → Post (again b1 b2 b3 b4 b5 b6 b7 b8 b9 b10 b11 b12 b13 b14)) → Post (body again a1 a2 a3 a4 a5 a6 a7 a8 a9 a10 a11 a12 a13 a14)) : ∀ (n u : Nat) a1 a2 a3 a4 a5 a6 a7 a8 a9 a10 a11 a12 a13 a14, I u a1 a2 a3 a4 a5 a6 a7 a8 a9 a10 a11 a12 a13 a14 → u < n → Post (Lp14 body n a1 a2 a3 a4 a5 a6 a7 a8 a9 a10 a11 a12 a13 a14) := by
  intro n
  induction n with
  | zero => intro u a1 a2 a3 a4 a5 a6 a7 a8 a9 a10 a11 a12 a13 a14 _ h; exact absurd h (Nat.not_lt_zero _)
  | succ n ih =>
    intro u a1 a2 a3 a4 a5 a6 a7 a8 a9 a10 a11 a12 a13 a14 hI hu
    exact hb u a1 a2 a3 a4 a5 a6 a7 a8 a9 a10 a11 a12 a13 a14 hI (Lp14 body n) (fun v b1 b2 b3 b4 b5 b6 b7 b8 b9 b10 b11 b12 b13 b14 hv hJ => ih v b1 b2 b3 b4 b5 b6 b7 b8 b9 b10 b11 b12 b13 b14 hJ (by omega))
section AX
variable {p : Program} {l : Launch} {e : Env} {R : Room} {s : State} {m : MethodId} {args : Array Value} {below : List Frame} {meth : Method} {c : Code} {H : Heap} {locs : List Loc} {cells slots : Nat} {Q : State → Prop}
variable {cc : ByteArray} {pc : Nat} {ls : Array Slot} {rest : List Value} {D : va_G} {cl : List vw_C} {A : Nat → Prop} {a : Nat} {tys : List (ClassId × FieldType)} {ws : va_W} {H0 : Heap}
theorem ax_iald (hexec : p.tables.exec = Jvm.exec) (hb : c.code = cc) (hK : va_K D cl tys s) (hP : va_P D cl ws H) (q0 t0 : Nat) {cA : ClassId} {n : Nat} {f : Nat → Int32} (ha : ws[q0]? = some (a, .inl (cA, n, .inl f))) (ht : tys[t0]? = some (cA, .int)) {i : Int32} (hin : vp_in i n) {v : Int32} (hv : v = f i.toNatClampNeg) (hdg : decode cc pc = .ok (.iaload, 1))
    (kk : W p l e R s m args below meth c H locs cells slots Q (F0 m (pc + 1) ls (.int v :: rest))) : W p l e R s m args below meth c H locs cells slots Q (F0 m pc ls (.int i :: .ref a :: rest)) := by
  subst hv
  exact va_iald hexec hb hK hP q0 t0 ha ht hin hdg kk
theorem ax_bald (hexec : p.tables.exec = Jvm.exec) (hb : c.code = cc) (hK : va_K D cl tys s) (hP : va_P D cl ws H) (q0 t0 : Nat) {cA : ClassId} {n : Nat} {f : Nat → Int32} (ha : ws[q0]? = some (a, .inl (cA, n, .inl f))) (ht : tys[t0]? = some (cA, .byte)) {i : Int32} (hin : vp_in i n) {v : Int32} (hv : v = f i.toNatClampNeg) (hdg : decode cc pc = .ok (.baload, 1))
    (kk : W p l e R s m args below meth c H locs cells slots Q (F0 m (pc + 1) ls (.int v :: rest))) : W p l e R s m args below meth c H locs cells slots Q (F0 m pc ls (.int i :: .ref a :: rest)) := by
  subst hv
  exact va_bald hexec hb hK hP q0 t0 ha ht hin hdg kk
theorem ax_zald (hexec : p.tables.exec = Jvm.exec) (hb : c.code = cc) (hK : va_K D cl tys s) (hP : va_P D cl ws H) (q0 t0 : Nat) {cA : ClassId} {n : Nat} {f : Nat → Int32} (ha : ws[q0]? = some (a, .inl (cA, n, .inl f))) (ht : tys[t0]? = some (cA, .boolean)) {i : Int32} (hin : vp_in i n) {v : Int32} (hv : v = f i.toNatClampNeg) (hdg : decode cc pc = .ok (.baload, 1))
    (kk : W p l e R s m args below meth c H locs cells slots Q (F0 m (pc + 1) ls (.int v :: rest))) : W p l e R s m args below meth c H locs cells slots Q (F0 m pc ls (.int i :: .ref a :: rest)) := by
  subst hv
  exact va_zald hexec hb hK hP q0 t0 ha ht hin hdg kk
theorem ax_lald (hexec : p.tables.exec = Jvm.exec) (hb : c.code = cc) (hK : va_K D cl tys s) (hP : va_P D cl ws H) (q0 t0 : Nat) {cA : ClassId} {n : Nat} {f : Nat → Int64} (ha : ws[q0]? = some (a, .inl (cA, n, .inr (.inl f)))) (ht : tys[t0]? = some (cA, .long)) {i : Int32} (hin : vp_in i n) {v : Int64} (hv : v = f i.toNatClampNeg) (hdg : decode cc pc = .ok (.laload, 1))
    (kk : W p l e R s m args below meth c H locs cells slots Q (F0 m (pc + 1) ls (.long v :: rest))) : W p l e R s m args below meth c H locs cells slots Q (F0 m pc ls (.int i :: .ref a :: rest)) := by
  subst hv
  exact va_lald hexec hb hK hP q0 t0 ha ht hin hdg kk
theorem ax_iast (hexec : p.tables.exec = Jvm.exec) (hb : c.code = cc) (hK : va_K D cl tys s) (hP : va_P D cl ws H) (hD : va_D A ws) (hS : va_S A H0 H locs) (q0 t0 : Nat) {cA : ClassId} {n : Nat} {f g : Nat → Int32} (ha : ws[q0]? = some (a, .inl (cA, n, .inl f))) (ht : tys[t0]? = some (cA, .int)) {i : Int32} {x : Int32} (hin : vp_in i n) (hg : g = upd f i.toNatClampNeg x) (hdg : decode cc pc = .ok (.iastore, 1)) {ws' : va_W} (hw : ws.set q0 (a, .inl (cA, n, .inl g)) = ws')
    (kk : ∀ (H1 : Heap) (locs1 : List Loc), va_P D cl ws' H1 → va_D A ws' → va_S A H0 H1 locs1 → W p l e R s m args below meth c H1 locs1 cells slots Q (F0 m (pc + 1) ls rest)) : W p l e R s m args below meth c H locs cells slots Q (F0 m pc ls (.int x :: .int i :: .ref a :: rest)) := by
  subst hw
  subst hg
  exact va_iast hexec hb hK hP hD hS q0 t0 ha ht hin hdg kk
theorem ax_bast (hexec : p.tables.exec = Jvm.exec) (hb : c.code = cc) (hK : va_K D cl tys s) (hP : va_P D cl ws H) (hD : va_D A ws) (hS : va_S A H0 H locs) (q0 t0 : Nat) {cA : ClassId} {n : Nat} {f g : Nat → Int32} (ha : ws[q0]? = some (a, .inl (cA, n, .inl f))) (ht : tys[t0]? = some (cA, .byte)) {i : Int32} {x : Int32} (hin : vp_in i n) (hg : g = upd f i.toNatClampNeg (vp_nar .byte x)) (hdg : decode cc pc = .ok (.bastore, 1)) {ws' : va_W} (hw : ws.set q0 (a, .inl (cA, n, .inl g)) = ws')
    (kk : ∀ (H1 : Heap) (locs1 : List Loc), va_P D cl ws' H1 → va_D A ws' → va_S A H0 H1 locs1 → W p l e R s m args below meth c H1 locs1 cells slots Q (F0 m (pc + 1) ls rest)) : W p l e R s m args below meth c H locs cells slots Q (F0 m pc ls (.int x :: .int i :: .ref a :: rest)) := by
  subst hw
  subst hg
  exact va_bast hexec hb hK hP hD hS q0 t0 ha ht hin hdg kk
theorem ax_zast (hexec : p.tables.exec = Jvm.exec) (hb : c.code = cc) (hK : va_K D cl tys s) (hP : va_P D cl ws H) (hD : va_D A ws) (hS : va_S A H0 H locs) (q0 t0 : Nat) {cA : ClassId} {n : Nat} {f g : Nat → Int32} (ha : ws[q0]? = some (a, .inl (cA, n, .inl f))) (ht : tys[t0]? = some (cA, .boolean)) {i : Int32} {x : Int32} (hin : vp_in i n) (hg : g = upd f i.toNatClampNeg (vp_nar .boolean x)) (hdg : decode cc pc = .ok (.bastore, 1)) {ws' : va_W} (hw : ws.set q0 (a, .inl (cA, n, .inl g)) = ws')
    (kk : ∀ (H1 : Heap) (locs1 : List Loc), va_P D cl ws' H1 → va_D A ws' → va_S A H0 H1 locs1 → W p l e R s m args below meth c H1 locs1 cells slots Q (F0 m (pc + 1) ls rest)) : W p l e R s m args below meth c H locs cells slots Q (F0 m pc ls (.int x :: .int i :: .ref a :: rest)) := by
  subst hw
  subst hg
  exact va_zast hexec hb hK hP hD hS q0 t0 ha ht hin hdg kk
theorem ax_last (hexec : p.tables.exec = Jvm.exec) (hb : c.code = cc) (hK : va_K D cl tys s) (hP : va_P D cl ws H) (hD : va_D A ws) (hS : va_S A H0 H locs) (q0 t0 : Nat) {cA : ClassId} {n : Nat} {f g : Nat → Int64} (ha : ws[q0]? = some (a, .inl (cA, n, .inr (.inl f)))) (ht : tys[t0]? = some (cA, .long)) {i : Int32} {x : Int64} (hin : vp_in i n) (hg : g = vp_updL f i.toNatClampNeg x) (hdg : decode cc pc = .ok (.lastore, 1)) {ws' : va_W} (hw : ws.set q0 (a, .inl (cA, n, .inr (.inl g))) = ws')
    (kk : ∀ (H1 : Heap) (locs1 : List Loc), va_P D cl ws' H1 → va_D A ws' → va_S A H0 H1 locs1 → W p l e R s m args below meth c H1 locs1 cells slots Q (F0 m (pc + 1) ls rest)) : W p l e R s m args below meth c H locs cells slots Q (F0 m pc ls (.long x :: .int i :: .ref a :: rest)) := by
  subst hw
  subst hg
  exact va_last hexec hb hK hP hD hS q0 t0 ha ht hin hdg kk
end AX
