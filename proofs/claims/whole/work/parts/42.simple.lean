def DI (ds : Int32) (dc dy : Nat → Int32) (mn : Int32) (md my : Nat → Int32) : Prop := ∃ (n : Nat) (C S : Nat → Nat), ds = nI n ∧ mn = nI n ∧ n ≤ 256 ∧ (∀ l, 1 ≤ l → l ≤ 16 → dc l = nI (C l) ∧ md l = nI (C l) ∧ C l ≤ 255) ∧ (∀ i, i < n → dy i = nI (S i) ∧ my i = nI (S i) ∧ S i < 256)
def YI (tt : Int32) (tn : Nat → Int32) (mt : Int32) (mo : Nat → Int32) : Prop := ∃ (T : Nat) (N : Nat → Nat), tt = nI T ∧ mt = nI T ∧ T ≤ 1000000 ∧ (∀ s, s < 256 → tn s = nI (N s) ∧ mo s = nI (N s)) ∧ sm N 256 = T
def RI (rz rp : Int32) (rc : Nat → Int32) (mz mp : Int32) (mr : Nat → Int32) : Prop := ∃ (z p : Nat) (B : Nat → Bool), rz = nI z ∧ rp = nI p ∧ mz = nI z ∧ mp = nI p ∧ p ≤ z ∧ z ≤ 65536 ∧ (∀ i, i < z → cb rc i = B i) ∧ (∀ i, i < z → mr i = nI (B i).toNat)
def TW (w : Nat) (C S L K : Nat → Nat) : Prop := (∀ l, 1 ≤ l → l ≤ 16 → C l ≤ 256) ∧ (∀ i, i < w → S i < 256) ∧ (∀ s, s < 256 → L s ≤ 16) ∧ (∀ s, s < 256 → 0 < L s → K s < 2 ^ L s ∧ 0 < C (L s) ∧ ∃ i, i < w ∧ S i = s) ∧ (∀ i, i < w → 0 < L (S i)) ∧ (∀ i j, i < j → j < w → L (S i) ≤ L (S j) ∧ (K (S i) + 1) * 2 ^ (L (S j) - L (S i)) ≤ K (S j)) ∧ (∀ l, 1 ≤ l → l ≤ 16 → 0 < C l → ∃ s, s < 256 ∧ L s = l)
def TI (tz : Int32) (tc ty tl tk : Nat → Int32) (mw : Int32) (mc my ml mk : Nat → Int32) : Prop := ∃ (w : Nat) (C S L K : Nat → Nat), tz = nI w ∧ mw = nI w ∧ w ≤ 256 ∧ (∀ l, 1 ≤ l → l ≤ 16 → tc l = nI (C l) ∧ mc l = nI (C l)) ∧ (∀ i, i < w → ty i = nI (S i) ∧ my i = nI (S i)) ∧ (∀ s, s < 256 → tl s = nI (L s) ∧ ml s = nI (L s)) ∧ (∀ s, s < 256 → 0 < L s → tk s = nI (K s) ∧ mk s = nI (K s)) ∧ TW w C S L K
theorem p_count {ds : Int32} {dc dy : Nat → Int32} {mn : Int32} {md my : Nat → Int32} (a b : Int32) (h : DI ds dc dy mn md my) : ∃ r dc' md', f_FF_count ds dc a b = some (r, dc') ∧ (∀ t w o z p, f_MM_count t mn w o z p md a b = some (r, 0, md')) ∧ DI ds dc' dy mn md' my := by
  unfold f_FF_count f_FF_isWordLength f_MM_count
  by_cases h1 : a < 1
  · exact ⟨0, dc, md, by simp only [if_pos h1]; rfl, fun t w o z p => by rw [if_pos h1], h⟩
  by_cases h2 : (16 : Int32) < a
  · exact ⟨0, dc, md, by simp only [if_neg h1, if_pos h2]; rfl, fun t w o z p => by rw [if_neg h1, if_pos h2], h⟩
  have e0 : ∀ {ρ : Type} (k : Int32 → Option ρ), bd1 (if a < 1 then some 0 else if (16 : Int32) < a then some 0 else some 1) k = k 1 := by
    intro ρ k
    rw [if_neg h1, if_neg h2]; rfl
  have e1 : ¬ (1 : Int32) = 0 := by decide
  rw [e0, if_neg e1]
  by_cases h3 : b < 0
  · exact ⟨0, dc, md, by rw [if_pos h3], fun t w o z p => by rw [if_neg h1, if_neg h2, if_pos h3], h⟩
  by_cases h4 : b ≤ 255
  · obtain ⟨j, hj1, hj2, rfl⟩ := ix_of (lo := 1) (hi := 16) h1 h2 (by omega) (by omega)
    obtain ⟨c, hc, rfl⟩ := nI_of2 (M := 255) (n := 255) (by decide) h3 h4
    refine ⟨1, upd dc j (nI c), upd md j (nI c), by rw [if_neg h3, if_pos h4, wr_nI (by omega) (by omega)], fun t w o z p => by rw [if_neg h1, if_neg h2, if_neg h3, if_pos h4, wr_nI (by omega) (by omega)], ?_⟩
    obtain ⟨n, C, S, q1, q2, q3, q4, q5⟩ := h
    refine ⟨n, up C j c, S, q1, q2, q3, ?_, q5⟩
    intro l hl1 hl2
    by_cases e : l = j
    · subst e; rw [pk_us, pk_us, up_s]; exact ⟨rfl, rfl, hc⟩
    · rw [pk_un e, pk_un e, up_n e]; exact q4 l hl1 hl2
  · exact ⟨0, dc, md, by rw [if_neg h3, if_neg h4], fun t w o z p => by rw [if_neg h1, if_neg h2, if_neg h3, if_neg h4], h⟩
theorem sym_F (a : Int32) : (f_FF_isSymbol a = some 0 ∧ f_MM_isSymbol a = some 0 ∧ (a < 0 ∨ (256 : Int32) ≤ a)) ∨ (∃ j, j < 256 ∧ a = nI j ∧ f_FF_isSymbol a = some 1 ∧ f_MM_isSymbol a = some 1) := by
  unfold f_FF_isSymbol f_MM_isSymbol
  rcases pk_ix a (n := 256) (by omega) with h | h | ⟨j, hj, rfl⟩
  · rw [if_pos h]; exact Or.inl ⟨rfl, rfl, Or.inl h⟩
  · have h' : (256 : Int32) ≤ a := h
    by_cases g : a < 0
    · rw [if_pos g]; exact Or.inl ⟨rfl, rfl, Or.inl g⟩
    · rw [if_neg g, if_pos h']; exact Or.inl ⟨rfl, rfl, Or.inr h'⟩
  · refine Or.inr ⟨j, hj, rfl, ?_⟩
    have h1 : ¬ nI j < 0 := nI_pos (by omega)
    have h2 : ¬ (256 : Int32) ≤ nI j := nI_ge (b := 256) hj (by omega)
    rw [if_neg h1, if_neg h2]; exact ⟨rfl, rfl⟩
theorem ne10 : ¬ (1 : Int32) = 0 := by decide
theorem p_symbol {ds : Int32} {dc dy : Nat → Int32} {mn : Int32} {md my : Nat → Int32} (a : Int32) (h : DI ds dc dy mn md my) : ∃ r ds' dy' mn' my', f_FF_symbol ds dy a = some (r, ds', dy') ∧ (∀ t w o z p, f_MM_symbol t mn w o z p my a = some (r, 0, mn', my')) ∧ DI ds' dc dy' mn' md my' := by
  unfold f_FF_symbol f_MM_symbol
  rcases sym_F a with ⟨e1, e2, _⟩ | ⟨j, hj, rfl, e1, e2⟩
  · refine ⟨-1, ds, dy, mn, my, by rw [bd1_eq e1, if_pos rfl], fun t w o z p => by rw [bd1_eq e2, if_pos rfl], h⟩
  · obtain ⟨n, C, S, rfl, rfl, q3, q4, q5⟩ := h
    by_cases hn : n = 256
    · subst hn
      refine ⟨-1, nI 256, dy, nI 256, my, ?_, ?_, ⟨256, C, S, rfl, rfl, q3, q4, q5⟩⟩
      · rw [bd1_eq e1, if_neg ne10, if_neg (by decide)]
      · intro t w o z p; rw [bd1_eq e2, if_neg ne10, if_pos (show nI 256 = 256 from rfl)]
    · refine ⟨nI n + 1, nI n + 1, upd dy n (nI j), nI n + 1, upd my n (nI j), ?_, ?_, ⟨n + 1, C, up S n j, nI_1 n, nI_1 n, by omega, q4, ?_⟩⟩
      · rw [bd1_eq e1, if_neg ne10, if_pos (show nI n < 256 from nI_lt (b := 256) (by omega) (by omega)), wr_nI (by omega) (by omega)]
      · intro t w o z p
        rw [bd1_eq e2, if_neg ne10, if_neg (show ¬ nI n = 256 from fun z => hn ((nI_eq (b := 256) (by omega) (by omega)).1 z)), wr_nI (by omega) (by omega)]
      · intro i hi
        by_cases e : i = n
        · subst e; rw [pk_us, pk_us, up_s]; exact ⟨rfl, rfl, hj⟩
        · rw [pk_un e, pk_un e, up_n e]; exact q5 i (by omega)
theorem mfill_ok {n : Nat} (hn : n < 100000) (k : Nat → Int32) : Ok (fun r => r.1 = 0 ∧ r.2.1 = 0 ∧ ∀ i, i < n → r.2.2 i = 0) (Lp2 (fun ag1 (x3 : Int32) (x4 : Nat → Int32) => if nI n ≤ x3 then (some ((0 : Int32), (0 : Int32), x4)) else (wr n x4 x3 0 (fun g6 => ag1 (x3 + 1) g6))) fuel 0 k) := by
  apply Ok_Lp2 (fun u x3 x4 => ∃ j, x3 = nI j ∧ u = n - j ∧ j ≤ n ∧ ∀ i, i < j → x4 i = 0) n ⟨0, rfl, rfl, by omega, fun i hi => by omega⟩ (by omega)
  rintro u x3 x4 ⟨j, rfl, rfl, hj, hA⟩ again ih
  apply Ok_le n j
  · intro h; exact Ok_ret ⟨rfl, rfl, fun i hi => hA i (by omega)⟩
  · intro h
    apply Ok_wr j
    refine ih (n - (j + 1)) _ _ (by omega) ⟨j + 1, nI_1 j, rfl, by omega, ?_⟩
    intro i hi
    by_cases e : i = j
    · rw [e, pk_us]
    · rw [pk_un e]; exact hA i (by omega)
theorem p_wipe {ds : Int32} {dc dy : Nat → Int32} {mn : Int32} {md my : Nat → Int32} : ∃ ds' dc' mn' md', f_FF_wipe ds dc = some (ds', dc') ∧ (∀ t w o z p, f_MM_wipe t mn w o z p md = some (0, mn', md')) ∧ DI ds' dc' dy mn' md' my := by
  obtain ⟨g, e1, h1⟩ := fill_ok (n := 17) (by omega) dc 0
  obtain ⟨⟨r1, r2, r3⟩, e2, h2, h3, h4⟩ := mfill_ok (n := 17) (by omega) md
  simp only at h2 h3 h4
  subst h2 h3
  refine ⟨0, g, 0, r3, ?_, fun t w o z p => e2, ⟨0, fun _ => 0, fun _ => 0, rfl, rfl, by omega, fun l hl hm => ⟨h1 l (by omega), h4 l (by omega), Nat.zero_le _⟩, fun i hi => by omega⟩⟩
  unfold f_FF_wipe f_FD_clear
  rw [bd1_eq e1]; rfl
theorem p_forget {tt : Int32} {tn : Nat → Int32} {mt : Int32} {mo : Nat → Int32} : ∃ tt' tn' mt' mo', f_FF_forget tt tn = some (tt', tn') ∧ (∀ t d w z p, f_MM_forget t d w mt z p mo = some (0, mt', mo')) ∧ YI tt' tn' mt' mo' := by
  obtain ⟨g, e1, h1⟩ := fill_ok (n := 256) (by omega) tn 0
  obtain ⟨⟨r1, r2, r3⟩, e2, h2, h3, h4⟩ := mfill_ok (n := 256) (by omega) mo
  simp only at h2 h3 h4
  subst h2 h3
  refine ⟨0, g, 0, r3, ?_, fun t w o z p => e2, ⟨0, fun _ => 0, rfl, rfl, by omega, fun s hs => ⟨h1 s hs, h4 s hs⟩, sm_0 256 (fun i _ => rfl)⟩⟩
  unfold f_FF_forget f_FY_clear
  rw [bd1_eq e1]; rfl
theorem p_comes {tt : Int32} {tn : Nat → Int32} {mt : Int32} {mo : Nat → Int32} (o : Nat → Int64) (a b : Int32) (h : YI tt tn mt mo) : ∃ r tt' tn' o' v mt' mo', f_LL_comes tt tn 1 o a b = some (r, tt', tn', o') ∧ (∀ t d w z p, f_MM_comes t d w mt z p mo a b = some (v, r, mt', mo')) ∧ YI tt' tn' mt' mo' ∧ (r = 0 → o' 0 = v.toInt64) := by
  have d1 : ¬ (1 : Int32) ≤ 0 := by decide
  have d2 : ¬ (2 : Int32) ≤ 0 := by decide
  have d3 : (0 : Int32) ≤ 0 := by decide
  rcases sym_F a with ⟨e1, e2, _⟩ | ⟨j, hj, rfl, e1, e2⟩
  · refine ⟨1, tt, tn, o, 0, mt, mo, ?_, ?_, h, fun z => absurd z (by decide)⟩
    · have ec : f_FF_comes tt tn a b = some (.inl 1) := by
        unfold f_FF_comes
        rw [bd1_eq e1, if_pos rfl]
      unfold f_LL_comes
      rw [bx3_thr ec, if_pos rfl]
    · intro t d w z p
      unfold f_MM_comes
      rw [bd1_eq e2, if_pos rfl, if_neg d1]
  · by_cases hb : (0 : Int32) ≤ b
    · have hb' : ¬ b < 0 := by
        rw [Int32.lt_iff_toInt_lt]
        rw [Int32.le_iff_toInt_le] at hb
        omega
      obtain ⟨c, hc, rfl⟩ := nI_of hb'
      obtain ⟨T, N, rfl, rfl, hT, hN, hs⟩ := h
      have es : (1000000 : Int32) - nI T = nI (1000000 - T) := pk_sub (a := 1000000) hT
      by_cases hm : c ≤ 1000000 - T
      · have hm' : nI c ≤ (1000000 : Int32) - nI T := by rw [es, nI_leI hc (by omega)]; exact hm
        have hN1 := (hN j hj).1
        have hN2 := (hN j hj).2
        refine ⟨0, nI T + nI c, upd tn j (nI (N j) + nI c), vp_updL o 0 (nI (N j) + nI c).toInt64, nI (N j) + nI c, nI T + nI c, upd mo j (nI (N j) + nI c), ?_, ?_, ?_, fun _ => pk_uLs⟩
        · have ec : f_FF_comes (nI T) tn (nI j) (nI c) = some (.inr (nI (N j) + nI c, nI T + nI c, upd tn j (nI (N j) + nI c))) := by
            unfold f_FF_comes f_FY_add
            rw [bd1_eq e1, if_neg ne10, if_pos hb, if_pos hm', rd_nI hj (by omega), wr_nI hj (by omega), bd2_eq rfl, rd_nI hj (by omega), pk_us, hN1]
          unfold f_LL_comes
          rw [bx3_eq ec]
          exact wrL_nI (j := 0) (by omega) (by omega)
        · intro t d w z p
          unfold f_MM_comes
          rw [bd1_eq e2, if_neg ne10, if_pos hb, if_pos hm', if_pos d3, rd_nI hj (by omega), wr_nI hj (by omega), rd_nI hj (by omega), pk_us, hN2]
        · refine ⟨T + c, up N j (N j + c), nI_add _ _, nI_add _ _, by omega, ?_, ?_⟩
          · intro s hs'
            by_cases e : s = j
            · subst e; rw [pk_us, pk_us, up_s, nI_add]; exact ⟨rfl, rfl⟩
            · rw [pk_un e, pk_un e, up_n e]; exact hN s hs'
          · have := sm_up (g := N) (j := j) (v := N j + c) 256 hj
            omega
      · have hm' : ¬ nI c ≤ (1000000 : Int32) - nI T := by rw [es, nI_leI hc (by omega)]; exact hm
        refine ⟨2, nI T, tn, o, 0, nI T, mo, ?_, ?_, ⟨T, N, rfl, rfl, hT, hN, hs⟩, fun z => absurd z (by decide)⟩
        · have ec : f_FF_comes (nI T) tn (nI j) (nI c) = some (.inl 2) := by
            unfold f_FF_comes
            rw [bd1_eq e1, if_neg ne10, if_pos hb, if_neg hm']
          unfold f_LL_comes
          rw [bx3_thr ec, if_neg (by omega)]
        · intro t d w z p
          unfold f_MM_comes
          rw [bd1_eq e2, if_neg ne10, if_pos hb, if_neg hm', if_neg d2]
    · refine ⟨1, tt, tn, o, 0, mt, mo, ?_, ?_, h, fun z => absurd z (by decide)⟩
      · have ec : f_FF_comes tt tn (nI j) b = some (.inl 1) := by
          unfold f_FF_comes
          rw [bd1_eq e1, if_neg ne10, if_neg hb]
        unfold f_LL_comes
        rw [bx3_thr ec, if_pos rfl]
      · intro t d w z p
        unfold f_MM_comes
        rw [bd1_eq e2, if_neg ne10, if_neg hb, if_neg d1]
theorem p_length {tz : Int32} {tc ty tl tk : Nat → Int32} {mw : Int32} {mc my ml mk : Nat → Int32} (a : Int32) (h : TI tz tc ty tl tk mw mc my ml mk) : ∃ r, f_FF_length tz tl a = some r ∧ (∀ t d w o z p, f_MM_length t d w o z p ml a = some (r, 0)) := by
  unfold f_FF_length f_FT_hasWord f_MM_length
  obtain ⟨w, C, S, L, K, rfl, rfl, hw, hC, hS, hL, hK, hW⟩ := h
  rcases sym_F a with ⟨e1, e2, _⟩ | ⟨j, hj, rfl, e1, e2⟩
  · exact ⟨0, by rw [bd1_eq e1, if_pos rfl]; rfl, fun t d w o z p => by rw [bd1_eq e2, if_pos rfl]⟩
  · have hl := hW.2.2.1 j hj
    refine ⟨nI (L j), ?_, fun t d w o z p => by rw [bd1_eq e2, if_neg ne10, rd_nI hj (by omega), (hL j hj).2]⟩
    rw [bd1_eq e1, if_neg ne10, rd_nI hj (by omega), (hL j hj).1]
    by_cases z : L j = 0
    · rw [z]; rfl
    · rw [if_neg (nI_nle (by omega) (by omega)), bd1_eq rfl, if_neg ne10, rd_nI hj (by omega), (hL j hj).1]
theorem p_code {tz : Int32} {tc ty tl tk : Nat → Int32} {mw : Int32} {mc my ml mk : Nat → Int32} (a : Int32) (h : TI tz tc ty tl tk mw mc my ml mk) : ∃ r, f_FF_code tz tl tk a = some r ∧ (∀ t d w o z p, f_MM_code t d w o z p ml mk a = some (r, 0)) := by
  unfold f_FF_code f_FT_hasWord f_MM_code
  obtain ⟨w, C, S, L, K, rfl, rfl, hw, hC, hS, hL, hK, hW⟩ := h
  rcases sym_F a with ⟨e1, e2, _⟩ | ⟨j, hj, rfl, e1, e2⟩
  · exact ⟨-1, by rw [bd1_eq e1, if_pos rfl]; rfl, fun t d w o z p => by rw [bd1_eq e2, if_pos rfl]⟩
  · have hl := hW.2.2.1 j hj
    by_cases z : L j = 0
    · refine ⟨-1, ?_, ?_⟩
      · rw [bd1_eq e1, if_neg ne10, rd_nI hj (by omega), (hL j hj).1, z]; rfl
      · intro t d w o z' p
        rw [bd1_eq e2, if_neg ne10, bd1_eq e2, if_neg ne10, rd_nI hj (by omega), (hL j hj).2, z]; rfl
    · have hp : ¬ nI (L j) ≤ 0 := nI_nle (by omega) (by omega)
      refine ⟨nI (K j), ?_, ?_⟩
      · rw [bd1_eq e1, if_neg ne10, rd_nI hj (by omega), (hL j hj).1, if_neg hp, bd1_eq rfl, if_neg ne10, rd_nI hj (by omega), (hK j hj (by omega)).1]
      · intro t d w o z' p
        rw [bd1_eq e2, if_neg ne10, bd1_eq e2, if_neg ne10, rd_nI hj (by omega), (hL j hj).2, if_neg hp, rd_nI hj (by omega), (hK j hj (by omega)).2]
theorem p_of {tz : Int32} {tc ty tl tk : Nat → Int32} {mw : Int32} {mc my ml mk : Nat → Int32} (a b : Int32) (h : TI tz tc ty tl tk mw mc my ml mk) : ∃ r, f_FF_of tz ty tc a b = some r ∧ (∀ t d o z p, f_MM_of t d mw o z p my mc a b = some (r, 0)) := by
  unfold f_FF_of f_FF_isWordLength f_MM_of
  obtain ⟨w, C, S, L, K, rfl, rfl, hw, hC, hS, hL, hK, hW⟩ := h
  by_cases ha : a = 0
  · subst ha
    have n01 : ¬ (0 : Int32) = 1 := by decide
    by_cases h1 : b < 1
    · exact ⟨-1, by simp only [if_pos h1, if_pos rfl, if_neg n01, bd1_eq rfl, if_true], fun t d o z p => by rw [if_pos rfl, if_pos h1, if_neg n01]⟩
    by_cases h2 : (16 : Int32) < b
    · exact ⟨-1, by simp only [if_neg h1, if_pos h2, if_pos rfl, if_neg n01, bd1_eq rfl, if_true], fun t d o z p => by rw [if_pos rfl, if_neg h1, if_pos h2, if_neg n01]⟩
    obtain ⟨j, hj1, hj2, rfl⟩ := ix_of (lo := 1) (hi := 16) h1 h2 (by omega) (by omega)
    refine ⟨nI (C j), ?_, fun t d o z p => by rw [if_pos rfl, if_neg h1, if_neg h2, rd_nI (by omega) (by omega), (hC j hj1 hj2).2]⟩
    have e0 : (if nI j < 1 then some (0 : Int32) else if (16 : Int32) < nI j then some 0 else some 1) = some 1 := by rw [if_neg h1, if_neg h2]
    rw [if_pos rfl, bd1_eq e0, if_neg ne10, rd_nI (by omega) (by omega), (hC j hj1 hj2).1]
  · rw [if_neg ha]
    by_cases h1 : a = 1
    · rw [if_pos h1]
      by_cases h2 : b < 0
      · exact ⟨-1, by rw [if_pos h2], fun t d o z p => by rw [if_neg ha, if_pos h1, if_pos h2]⟩
      by_cases h3 : nI w ≤ b
      · exact ⟨-1, by rw [if_neg h2, if_pos h3], fun t d o z p => by rw [if_neg ha, if_pos h1, if_neg h2, if_pos h3]⟩
      obtain ⟨j, hj, rfl⟩ := nI_of h2
      rw [nI_leI (by omega) hj] at h3
      have h3' : ¬ nI w ≤ nI j := by rw [nI_leI (by omega) hj]; exact h3
      exact ⟨nI (S j), by rw [if_neg h2, if_neg h3', rd_nI (by omega) (by omega), (hS j (by omega)).1], fun t d o z p => by rw [if_neg ha, if_pos h1, if_neg h2, if_neg h3', rd_nI (by omega) (by omega), (hS j (by omega)).2]⟩
    · exact ⟨-1, by rw [if_neg h1], fun t d o z p => by rw [if_neg ha, if_neg h1]⟩
theorem p_seek {rz rp : Int32} {rc : Nat → Int32} {mz mp : Int32} {mr : Nat → Int32} (a : Int32) (h : RI rz rp rc mz mp mr) : ∃ r rp' mp', f_FF_seek rz rp a = some (r, rp') ∧ (∀ t d w o, f_MM_seek t d w o mz mp a = some (r, 0, mp')) ∧ RI rz rp' rc mz mp' mr := by
  unfold f_FF_seek f_MM_seek
  obtain ⟨z, p, B, rfl, rfl, rfl, rfl, hp, hz, h1, h2⟩ := h
  by_cases h3 : a < 0
  · exact ⟨0, nI p, nI p, by rw [if_pos h3], fun t d w o => by rw [if_pos h3], ⟨z, p, B, rfl, rfl, rfl, rfl, hp, hz, h1, h2⟩⟩
  by_cases h4 : a ≤ nI z
  · obtain ⟨j, hj, rfl⟩ := nI_of h3
    have h5 := (nI_leI hj (by omega)).1 h4
    exact ⟨1, nI j, nI j, by rw [if_neg h3, if_pos h4], fun t d w o => by rw [if_neg h3, if_pos h4], ⟨z, j, B, rfl, rfl, rfl, rfl, h5, hz, h1, h2⟩⟩
  · exact ⟨0, nI p, nI p, by rw [if_neg h3, if_neg h4], fun t d w o => by rw [if_neg h3, if_neg h4], ⟨z, p, B, rfl, rfl, rfl, rfl, hp, hz, h1, h2⟩⟩
theorem p_cut {rz rp : Int32} {rc : Nat → Int32} {mz mp : Int32} {mr : Nat → Int32} (a : Int32) (h : RI rz rp rc mz mp mr) : ∃ r rz' rp' mz' mp', f_FF_cut rz rp a = some (r, rz', rp') ∧ (∀ t d w o, f_MM_cut t d w o mz mp a = some (r, 0, mz', mp')) ∧ RI rz' rp' rc mz' mp' mr := by
  unfold f_FF_cut f_MM_cut
  obtain ⟨z, p, B, rfl, rfl, rfl, rfl, hp, hz, h1, h2⟩ := h
  by_cases h3 : a < 0
  · exact ⟨0, nI z, nI p, nI z, nI p, by rw [if_pos h3], fun t d w o => by rw [if_pos h3], ⟨z, p, B, rfl, rfl, rfl, rfl, hp, hz, h1, h2⟩⟩
  by_cases h4 : a ≤ nI z
  · obtain ⟨j, hj, rfl⟩ := nI_of h3
    have h5 := (nI_leI hj (by omega)).1 h4
    by_cases h6 : p ≤ j
    · refine ⟨1, nI j, nI p, nI j, nI p, ?_, fun t d w o => by rw [if_neg h3, if_pos h4, if_pos (nI_le h6 hj)], ⟨j, p, B, rfl, rfl, rfl, rfl, h6, by omega, fun i hi => h1 i (by omega), fun i hi => h2 i (by omega)⟩⟩
      rw [if_neg h3, if_pos h4, if_neg (nI_nlt h6 hj)]
    · refine ⟨1, nI j, nI j, nI j, nI j, ?_, fun t d w o => by rw [if_neg h3, if_pos h4, if_neg (nI_ge (by omega) (by omega))], ⟨j, j, B, rfl, rfl, rfl, rfl, by omega, by omega, fun i hi => h1 i (by omega), fun i hi => h2 i (by omega)⟩⟩
      rw [if_neg h3, if_pos h4, if_pos (nI_lt (by omega) (by omega))]
  · exact ⟨0, nI z, nI p, nI z, nI p, by rw [if_neg h3, if_neg h4], fun t d w o => by rw [if_neg h3, if_neg h4], ⟨z, p, B, rfl, rfl, rfl, rfl, hp, hz, h1, h2⟩⟩
theorem p_bits {rz rp : Int32} {rc : Nat → Int32} {mz mp : Int32} {mr : Nat → Int32} (a : Int32) (h : RI rz rp rc mz mp mr) : ∃ r rp' mp', f_FF_bits rz rp rc a = some (r, rp') ∧ (∀ t d w o, f_MM_bits t d w o mz mp mr a = some (r, 0, mp')) ∧ RI rz rp' rc mz mp' mr := by
  unfold f_FF_bits f_FF_isBitNumber f_FR_left f_MM_bits
  obtain ⟨z, p, B, rfl, rfl, rfl, rfl, hp, hz, h1, h2⟩ := h
  by_cases h3 : a < 0
  · exact ⟨-1, nI p, nI p, by simp only [if_pos h3]; rfl, fun t d w o => by rw [if_pos h3], ⟨z, p, B, rfl, rfl, rfl, rfl, hp, hz, h1, h2⟩⟩
  by_cases h4 : (16 : Int32) < a
  · exact ⟨-1, nI p, nI p, by simp only [if_neg h3, if_pos h4]; rfl, fun t d w o => by rw [if_neg h3, if_pos h4], ⟨z, p, B, rfl, rfl, rfl, rfl, hp, hz, h1, h2⟩⟩
  obtain ⟨n, _, hn, rfl⟩ := ix_of (lo := 0) (hi := 16) h3 h4 (by omega) (by omega)
  have es : nI z - nI p = nI (z - p) := pk_sub hp
  have e0 : ∀ {ρ : Type} (k : Int32 → Option ρ), bd1 (if nI n < 0 then some 0 else if (16 : Int32) < nI n then some 0 else some 1) k = k 1 := by
    intro ρ k
    rw [if_neg h3, if_neg h4]; rfl
  rw [e0, if_neg ne10, bd1_eq rfl]
  by_cases h5 : n ≤ z - p
  · have h5' : nI n ≤ nI z - nI p := by rw [es]; exact nI_le h5 (by omega)
    obtain ⟨r, e1, rfl⟩ := ahead_ok (z := z) (p := p) (n := n) hn (by omega) hz h1
    obtain ⟨r2, e2, rfl⟩ := mbits_ok (z := z) (p := p) (n := n) hn (by omega) hz h2
    refine ⟨nI (vl B p n), nI p + nI n, nI (p + n), ?_, ?_, ⟨z, p + n, B, rfl, nI_add _ _, rfl, rfl, by omega, hz, h1, h2⟩⟩
    · rw [if_pos h5', bd1_eq e1]
    · intro t d w o
      rw [if_neg h3, if_neg h4, if_pos h5']
      exact e2
  · have h5' : ¬ nI n ≤ nI z - nI p := by rw [es, nI_leI (by omega) (by omega)]; exact h5
    exact ⟨-1, nI p, nI p, by rw [if_neg h5'], fun t d w o => by rw [if_neg h3, if_neg h4, if_neg h5'], ⟨z, p, B, rfl, rfl, rfl, rfl, hp, hz, h1, h2⟩⟩
