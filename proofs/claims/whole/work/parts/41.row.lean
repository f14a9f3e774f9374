theorem ix_of {x : Int32} {lo hi : Nat} (h1 : ¬ x < nI lo) (h2 : ¬ nI hi < x) (hl : lo < 2 ^ 31) (hh : hi < 2 ^ 31) : ∃ j, lo ≤ j ∧ j ≤ hi ∧ x = nI j := by
  have h0 : ¬ x < 0 := by
    rw [Int32.lt_iff_toInt_lt] at h1 ⊢
    rw [nI_toInt hl] at h1
    have z : (0 : Int32).toInt = 0 := by decide
    omega
  obtain ⟨j, hj, rfl⟩ := nI_of h0
  rw [nI_ltI hj hl] at h1
  rw [nI_ltI hh hj] at h2
  exact ⟨j, by omega, by omega, rfl⟩
theorem nI_s1 (k : Nat) : nI k + (-1) = nI k - 1 := by rw [Int32.sub_eq_add_neg]
/-! Int32 by its bits (begun from the kit's rows to paste) -/
def bt (x : Int32) (i : Nat) : Bool := x.toBitVec.getLsbD i
theorem b_ext {x y : Int32} (h : ∀ i, i < 32 → bt x i = bt y i) : x = y := Int32.toBitVec_inj.mp (BitVec.eq_of_getLsbD_eq (fun i hi => h i hi))
theorem b_or (x y : Int32) (i : Nat) : bt (x ||| y) i = (bt x i || bt y i) := by unfold bt; rw [Int32.toBitVec_or, BitVec.getLsbD_or]
theorem b_and (x y : Int32) (i : Nat) : bt (x &&& y) i = (bt x i && bt y i) := by unfold bt; rw [Int32.toBitVec_and, BitVec.getLsbD_and]
theorem b_xor (x y : Int32) (i : Nat) : bt (x ^^^ y) i = (bt x i ^^ bt y i) := by unfold bt; rw [Int32.toBitVec_xor, BitVec.getLsbD_xor]
theorem b_big {x : Int32} {i : Nat} (h : 32 ≤ i) : bt x i = false := BitVec.getLsbD_of_ge _ _ h
theorem b_m1 : ∀ i, i < 32 → bt (-1) i = true := by decide +kernel
theorem b_0 (i : Nat) : bt 0 i = false := BitVec.getLsbD_zero
theorem b_1 (i : Nat) : bt 1 i = decide (i = 0) := by
  rcases Nat.lt_or_ge i 32 with h | h
  · exact (by decide +kernel : ∀ i, i < 32 → bt 1 i = decide (i = 0)) i h
  · rw [b_big h, decide_eq_false (by omega)]
theorem s_l : ∀ n, n < 32 → ((nI n &&& 31).toBitVec.smod 32).toNat = n := by decide +kernel
theorem s_u : ∀ n, n < 32 → (((nI n).toUInt32 &&& Int32.toUInt32 31).toBitVec % 32).toNat = n := by decide +kernel
theorem b_shl (n : Nat) (hn : n < 32) (x : Int32) {i : Nat} (hi : i < 32) : bt (x <<< (nI n &&& 31)) i = (decide (n ≤ i) && bt x (i - n)) := by
  unfold bt
  rw [Int32.toBitVec_shiftLeft]
  show (x.toBitVec <<< ((nI n &&& 31).toBitVec.smod 32).toNat).getLsbD i = _
  rw [s_l n hn, BitVec.getLsbD_shiftLeft]
  rcases Nat.lt_or_ge i n with h | h
  · simp [h, Nat.not_le.mpr h]
  · simp [hi, h, Nat.not_lt.mpr h]
theorem b_ushr (n : Nat) (hn : n < 32) (x : Int32) (i : Nat) : bt ((x.toUInt32 >>> ((nI n).toUInt32 &&& Int32.toUInt32 31)).toInt32) i = bt x (n + i) := by
  show (x.toUInt32 >>> ((nI n).toUInt32 &&& Int32.toUInt32 31)).toBitVec.getLsbD i = x.toUInt32.toBitVec.getLsbD (n + i)
  rw [UInt32.toBitVec_shiftRight]
  show (x.toUInt32.toBitVec >>> (((nI n).toUInt32 &&& Int32.toUInt32 31).toBitVec % 32).toNat).getLsbD i = _
  rw [s_u n hn, BitVec.getLsbD_ushiftRight]
theorem b_sshr (n : Nat) (hn : n < 32) (x : Int32) {i : Nat} (hi : i < 32) : bt (x >>> (nI n &&& 31)) i = if n + i < 32 then bt x (n + i) else bt x 31 := by
  unfold bt
  rw [Int32.toBitVec_shiftRight]
  show (x.toBitVec.sshiftRight ((nI n &&& 31).toBitVec.smod 32).toNat).getLsbD i = _
  rw [s_l n hn, BitVec.getLsbD_sshiftRight, BitVec.msb_eq_getLsbD_last]
  simp [hi]
theorem b_and1 (y : Int32) : y &&& 1 = nI (bt y 0).toNat := by
  apply b_ext
  intro i hi
  rw [b_and, b_1]
  by_cases e : i = 0
  · subst e
    cases bt y 0
    · exact (b_0 0).symm
    · exact (b_1 0).symm
  · rw [decide_eq_false e, Bool.and_false]
    cases bt y 0
    · exact (b_0 i).symm
    · exact ((b_1 i).trans (decide_eq_false e)).symm
theorem b_one (r : Nat) (hr : r < 32) {i : Nat} (hi : i < 32) : bt ((1 : Int32) <<< (nI r &&& 31)) i = decide (i = r) := by
  rw [b_shl r hr 1 hi, b_1]
  by_cases e : i = r
  · subst e; simp
  · rw [decide_eq_false e]
    by_cases g : r ≤ i
    · rw [decide_eq_false (show ¬ i - r = 0 by omega), Bool.and_false]
    · rw [decide_eq_false g, Bool.false_and]
theorem b_set (x : Int32) (r : Nat) (hr : r < 32) {i : Nat} (hi : i < 32) : bt (x ||| ((1 : Int32) <<< (nI r &&& 31))) i = if i = r then true else bt x i := by
  rw [b_or, b_one r hr hi]
  by_cases e : i = r
  · rw [if_pos e, decide_eq_true e, Bool.or_true]
  · rw [if_neg e, decide_eq_false e, Bool.or_false]
theorem b_clr (x : Int32) (r : Nat) (hr : r < 32) {i : Nat} (hi : i < 32) : bt (x &&& (((1 : Int32) <<< (nI r &&& 31)) ^^^ (-1))) i = if i = r then false else bt x i := by
  rw [b_and, b_xor, b_one r hr hi, b_m1 i hi]
  by_cases e : i = r
  · rw [if_pos e, decide_eq_true e]; simp
  · rw [if_neg e, decide_eq_false e]; simp
theorem b_shb (v : Int32) (k : Nat) (hk : k < 32) : (v >>> (nI k &&& 31)) &&& 1 = nI (bt v k).toNat := by
  rw [b_and1, b_sshr k hk v (by omega), if_pos (by omega)]; rfl
theorem b_byte (b : Bool) : vp_nar .byte ((nI b.toNat).toInt8.toInt32) = nI b.toNat := by
  rw [vp_nar_byte]
  cases b <;> decide
/-- the bit at place i of the packed row -/
def cb (c : Nat → Int32) (i : Nat) : Bool := bt (c (i / 32)) (i % 32)
/-- the row behind z bits of B, with the lowest n bits of v laid there, the highest first -/
def BB (B : Nat → Bool) (z n : Nat) (v : Int32) (i : Nat) : Bool := if i < z then B i else bt v (n - 1 - (i - z))
theorem cb_upd {c : Nat → Int32} {p i : Nat} {x : Int32} {b : Bool} (hx : ∀ t, t < 32 → bt x t = if t = p % 32 then b else bt (c (p / 32)) t) : cb (upd c (p / 32) x) i = if i = p then b else cb c i := by
  unfold cb
  by_cases e : i / 32 = p / 32
  · rw [e, pk_us, hx _ (Nat.mod_lt _ (by omega))]
    by_cases g : i = p
    · subst g; rw [if_pos rfl, if_pos rfl]
    · rw [if_neg g, if_neg (by omega)]
  · rw [pk_un e, if_neg (show ¬ i = p from fun z => e (by rw [z]))]
theorem append_ok {z n : Nat} {c : Nat → Int32} {v : Int32} {B : Nat → Bool} (pl : Int32) (hn : n ≤ 16) (hz : z + n ≤ 65536) (hB : ∀ i, i < z → cb c i = B i) : Ok (fun r => r.1 = nI (z + n) ∧ ∀ i, i < z + n → cb r.2 i = BB B z n v i) (f_FR_append (nI z) pl c v (nI n)) := by
  unfold f_FR_append
  apply Ok_Lp3 (fun u x3 x4 x5 => ∃ k, k ≤ n ∧ u = k ∧ x3 = nI k - 1 ∧ x5 = nI (z + (n - k)) ∧ ∀ i, i < z + (n - k) → cb x4 i = BB B z n v i) n ⟨n, by omega, rfl, rfl, by rw [Nat.sub_self]; rfl, fun i hi => by rw [hB i (by omega), BB, if_pos (by omega)]⟩ (by omega)
  rintro k x3 x4 x5 ⟨_, hk, rfl, rfl, rfl, hA⟩ again ih
  cases k with
  | zero =>
    apply Ok_ifT (by decide)
    exact Ok_ret ⟨rfl, hA⟩
  | succ k =>
    rw [nI_pred]
    apply Ok_ifF (nI_pos (by omega))
    have e1 : nI (z + (n - (k + 1))) / 32 = nI ((z + (n - (k + 1))) / 32) := pk_div (d := 32) (by omega) (by omega) (by omega)
    have e2 : nI (z + (n - (k + 1))) - nI ((z + (n - (k + 1))) / 32) * 32 = nI ((z + (n - (k + 1))) % 32) := by
      rw [← e1]; exact pk_rem (d := 32) (by omega) (by omega) (by omega)
    rw [e1, e2, b_shb v k (by omega), nI_s1]
    have hp : ∀ (g : Nat → Int32), (∀ i, cb g i = if i = z + (n - (k + 1)) then bt v k else cb x4 i) → Ok (fun r : Int32 × (Nat → Int32) => r.1 = nI (z + n) ∧ ∀ i, i < z + n → cb r.2 i = BB B z n v i) (again (nI k - 1) g (nI (z + (n - (k + 1))) + 1)) := by
      intro g hg
      refine ih k _ _ _ (by omega) ⟨k, by omega, rfl, rfl, ?_, ?_⟩
      · rw [nI_1]; congr 1; omega
      · intro i hi
        rw [hg i]
        by_cases e : i = z + (n - (k + 1))
        · rw [if_pos e, BB, if_neg (by omega)]
          congr 1; omega
        · rw [if_neg e]; exact hA i (by omega)
    apply Ok_if
    · intro h
      have hb : bt v k = true := by
        cases hh : bt v k
        · rw [hh] at h; exact absurd h (by decide)
        · rfl
      apply Ok_rd ((z + (n - (k + 1))) / 32)
      apply Ok_wr ((z + (n - (k + 1))) / 32)
      apply hp
      intro i
      rw [hb]
      exact cb_upd (fun t ht => b_set _ _ (Nat.mod_lt _ (by omega)) ht)
    · intro h
      have hb : bt v k = false := by
        cases hh : bt v k
        · rfl
        · rw [hh] at h; exact absurd rfl h
      apply Ok_rd ((z + (n - (k + 1))) / 32)
      apply Ok_wr ((z + (n - (k + 1))) / 32)
      apply hp
      intro i
      rw [hb]
      exact cb_upd (fun t ht => b_clr _ _ (Nat.mod_lt _ (by omega)) ht)
theorem lay_ok {z n : Nat} {c : Nat → Int32} {v : Int32} {B : Nat → Bool} (t d w o pl : Int32) (hn : n ≤ 16) (hz : z + n ≤ 65536) (hB : ∀ i, i < z → c i = nI (B i).toNat) : Ok (fun r => r.1 = nI (z + n) ∧ ∀ i, i < z + n → r.2 i = nI (BB B z n v i).toNat) (f_MM_lay t d w o (nI z) pl c v (nI n)) := by
  unfold f_MM_lay
  apply Ok_Lp3 (fun u x3 x4 x5 => ∃ k, k ≤ n ∧ u = k ∧ x3 = nI k - 1 ∧ x5 = nI (z + (n - k)) ∧ ∀ i, i < z + (n - k) → x4 i = nI (BB B z n v i).toNat) n ⟨n, by omega, rfl, rfl, by rw [Nat.sub_self]; rfl, fun i hi => by rw [hB i (by omega), BB, if_pos (by omega)]⟩ (by omega)
  rintro k x3 x4 x5 ⟨_, hk, rfl, rfl, rfl, hA⟩ again ih
  cases k with
  | zero =>
    apply Ok_ifT (by decide)
    exact Ok_ret ⟨rfl, hA⟩
  | succ k =>
    rw [nI_pred]
    apply Ok_ifF (nI_pos (by omega))
    rw [b_shb v k (by omega), nI_s1, b_byte]
    apply Ok_wr (z + (n - (k + 1)))
    refine ih k _ _ _ (by omega) ⟨k, by omega, rfl, rfl, ?_, ?_⟩
    · rw [nI_1]; congr 1; omega
    · intro i hi
      by_cases e : i = z + (n - (k + 1))
      · rw [e, pk_us, BB, if_neg (by omega)]
        congr 3; omega
      · rw [pk_un e]; exact hA i (by omega)
/-- n bits of B from place p on, as a number -/
def vl (B : Nat → Bool) (p : Nat) : Nat → Nat
  | 0 => 0
  | k + 1 => 2 * vl B p k + (B (p + k)).toNat
theorem tN (b : Bool) : b.toNat ≤ 1 := by cases b <;> decide
theorem vl_lt (B : Nat → Bool) (p : Nat) : ∀ k, vl B p k < 2 ^ k := by
  intro k
  induction k with
  | zero => exact Nat.one_pos
  | succ k ih =>
    show 2 * vl B p k + (B (p + k)).toNat < 2 ^ (k + 1)
    have := tN (B (p + k))
    rw [Nat.pow_succ]; omega
theorem ahead_ok {z p n : Nat} {c : Nat → Int32} {B : Nat → Bool} (hn : n ≤ 16) (hz : p + n ≤ z) (hzz : z ≤ 65536) (hB : ∀ i, i < z → cb c i = B i) : Ok (fun r => r = nI (vl B p n)) (f_FR_ahead (nI z) (nI p) c (nI n)) := by
  unfold f_FR_ahead
  apply Ok_Lp2 (fun u x3 x4 => ∃ k, k ≤ n ∧ u = n - k ∧ x3 = nI (vl B p k) ∧ x4 = nI (p + k)) n ⟨0, by omega, by omega, rfl, rfl⟩ (by omega)
  rintro u x3 x4 ⟨k, hk, rfl, rfl, rfl⟩ again ih
  apply Ok_le (p + n) (p + k) (hx := nI_add p n)
  · intro h
    have : k = n := by omega
    subst this
    exact Ok_ret rfl
  · intro h
    have e1 : nI (p + k) / 32 = nI ((p + k) / 32) := pk_div (d := 32) (by omega) (by omega) (by omega)
    have e2 : nI (p + k) - nI ((p + k) / 32) * 32 = nI ((p + k) % 32) := by
      rw [← e1]; exact pk_rem (d := 32) (by omega) (by omega) (by omega)
    rw [e1, e2]
    apply Ok_rd ((p + k) / 32)
    rw [b_and1, b_ushr _ (Nat.mod_lt _ (by omega))]
    refine ih (n - (k + 1)) _ _ (by omega) ⟨k + 1, by omega, rfl, ?_, nI_1 _⟩
    show nI 2 * _ + nI (cb c (p + k)).toNat = _
    rw [pk_mul, nI_add, hB (p + k) (by omega)]
    rfl
theorem mbits_ok {z p n : Nat} {c : Nat → Int32} {B : Nat → Bool} (hn : n ≤ 16) (hz : p + n ≤ z) (hzz : z ≤ 65536) (hB : ∀ i, i < z → c i = nI (B i).toNat) : Ok (fun r => r = (nI (vl B p n), (0 : Int32), nI (p + n))) (Lp3 (fun ag4 (x6 : Int32) (x7 : Int32) (x8 : Int32) => if nI n ≤ x7 then (some (x6, (0 : Int32), x8)) else (rd 65536 c x8 (fun v10 => ag4 ((2 * x6) + v10) (x7 + 1) (x8 + 1)))) fuel 0 0 (nI p)) := by
  apply Ok_Lp3 (fun u x6 x7 x8 => ∃ k, k ≤ n ∧ u = n - k ∧ x6 = nI (vl B p k) ∧ x7 = nI k ∧ x8 = nI (p + k)) n ⟨0, by omega, by omega, rfl, rfl, rfl⟩ (by omega)
  rintro u x6 x7 x8 ⟨k, hk, rfl, rfl, rfl, rfl⟩ again ih
  apply Ok_le n k
  · intro h
    have : k = n := by omega
    subst this
    exact Ok_ret rfl
  · intro h
    apply Ok_rd (p + k)
    refine ih (n - (k + 1)) _ _ _ (by omega) ⟨k + 1, by omega, rfl, ?_, nI_1 _, nI_1 _⟩
    show nI 2 * _ + _ = _
    rw [pk_mul, hB (p + k) (by omega), nI_add]
    rfl
