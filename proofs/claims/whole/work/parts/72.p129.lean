/-! Pure: put. -/
def byt (a : Int32) (k : Nat) : Nat := (a.toBitVec.toNat >>> (8 * k)) % 256
theorem byt_lt (a : Int32) (k : Nat) : byt a k < 256 := Nat.mod_lt _ (by omega)
theorem q_and255 (v : Int32) (i : Nat) : (v &&& nI 255).toBitVec.getLsbD i = (v.toBitVec.getLsbD i && decide (i < 8)) := by
  rw [Int32.toBitVec_and, BitVec.getLsbD_and]
  congr 1
  rw [nI_bv, BitVec.getLsbD_ofNat, show 255 = 2 ^ 8 - 1 from rfl, Nat.testBit_two_pow_sub_one]
  by_cases h : i < 8
  · rw [decide_eq_true h, decide_eq_true (by omega)]; rfl
  · rw [decide_eq_false h]; simp
theorem byt_bit (a : Int32) (k i : Nat) : (nI (byt a k)).toBitVec.getLsbD i = (a.toBitVec.getLsbD (8 * k + i) && decide (i < 8)) := by
  rw [nI_bv, BitVec.getLsbD_ofNat]
  unfold byt
  rw [show 256 = 2 ^ 8 from rfl, Nat.testBit_mod_two_pow, Nat.testBit_shiftRight, ← BitVec.testBit_toNat]
  by_cases h : i < 8
  · rw [decide_eq_true h, decide_eq_true (show i < 32 by omega)]; simp
  · rw [decide_eq_false h]; simp
theorem cbyt (a : Int32) {k : Nat} (hk : k < 4) : ((Int32.toUInt32 a >>> (Int32.toUInt32 (nI (8 * k)) &&& Int32.toUInt32 (nI 31))).toInt32 &&& nI 255) = nI (byt a k) := by
  apply bit_ext
  intro i
  rw [q_and255, byt_bit]
  congr 1
  have h : ((Int32.toUInt32 a >>> (Int32.toUInt32 (nI (8 * k)) &&& Int32.toUInt32 (nI 31))).toInt32).toBitVec = a.toBitVec >>> (8 * k) := by
    rcases (show k = 0 ∨ k = 1 ∨ k = 2 ∨ k = 3 by omega) with h | h | h | h <;> subst h
    · rw [show (Int32.toUInt32 (nI (8 * 0)) &&& Int32.toUInt32 (nI 31)) = 0 by decide +kernel]; rfl
    · rw [show (Int32.toUInt32 (nI (8 * 1)) &&& Int32.toUInt32 (nI 31)) = 8 by decide +kernel]; rfl
    · rw [show (Int32.toUInt32 (nI (8 * 2)) &&& Int32.toUInt32 (nI 31)) = 16 by decide +kernel]; rfl
    · rw [show (Int32.toUInt32 (nI (8 * 3)) &&& Int32.toUInt32 (nI 31)) = 24 by decide +kernel]; rfl
  rw [h, BitVec.getLsbD_ushiftRight]
theorem mbyt (a : Int32) {k : Nat} (hk : k < 4) : ((a >>> (nI (8 * k) &&& nI 31)) &&& nI 255) = nI (byt a k) := by
  apply bit_ext
  intro i
  rw [q_and255, byt_bit]
  have h : (a >>> (nI (8 * k) &&& nI 31)).toBitVec = a.toBitVec.sshiftRight (8 * k) := by
    rcases (show k = 0 ∨ k = 1 ∨ k = 2 ∨ k = 3 by omega) with h | h | h | h <;> subst h
    · rw [show (nI (8 * 0) &&& nI 31 : Int32) = 0 by decide +kernel]; rfl
    · rw [show (nI (8 * 1) &&& nI 31 : Int32) = 8 by decide +kernel]; rfl
    · rw [show (nI (8 * 2) &&& nI 31 : Int32) = 16 by decide +kernel]; rfl
    · rw [show (nI (8 * 3) &&& nI 31 : Int32) = 24 by decide +kernel]; rfl
  rw [h, BitVec.getLsbD_sshiftRight]
  by_cases h8 : i < 8
  · rw [if_pos (by omega), decide_eq_true h8, decide_eq_false (by omega)]; simp
  · rw [decide_eq_false h8]; simp
def sgO (b : Nat) : Bool := decide (b = 0 ∨ b = 10 ∨ (32 ≤ b ∧ b ≤ 126))
def gd (a : Int32) (k : Nat) : Bool := if k < 4 then sgO (byt a k) && gd a (k + 1) else true
termination_by 4 - k
decreasing_by all_goals omega
def q_cnt (a : Int32) (k : Nat) : Nat := if k < 4 then (if byt a k = 0 then 0 else 1) + q_cnt a (k + 1) else 0
termination_by 4 - k
decreasing_by all_goals omega
def ads (a : Int32) (k : Nat) : List Nat := if k < 4 then (if byt a k = 0 then [] else [byt a k]) ++ ads a (k + 1) else []
termination_by 4 - k
decreasing_by all_goals omega
set_option maxRecDepth 100000 in
theorem q_cnt_le (a : Int32) (k : Nat) (hk : k ≤ 4) : q_cnt a k ≤ 4 - k := by
  rw [q_cnt]; split
  · have := q_cnt_le a (k + 1) (by omega); split <;> omega
  · omega
termination_by 4 - k
decreasing_by all_goals omega
set_option maxRecDepth 100000 in
theorem ads_len (a : Int32) (k : Nat) : (ads a k).length = q_cnt a k := by
  rw [ads, q_cnt]; split
  · rw [List.length_append, ads_len a (k + 1)]; split <;> simp
  · rfl
termination_by 4 - k
decreasing_by all_goals omega
set_option maxRecDepth 100000 in
theorem ads_ok {a : Int32} (k : Nat) (h : gd a k = true) : ∀ x ∈ ads a k, x = 10 ∨ (32 ≤ x ∧ x ≤ 126) := by
  rw [gd] at h
  rw [ads]
  split at h
  · rename_i hk
    rw [if_pos hk]
    rw [Bool.and_eq_true] at h
    intro x hx
    rw [List.mem_append] at hx
    rcases hx with hx | hx
    · split at hx
      · simp at hx
      · rename_i h0
        simp only [List.mem_singleton] at hx
        have := h.1
        simp only [sgO, decide_eq_true_eq] at this
        rw [hx]; omega
    · exact ads_ok (k + 1) h.2 x hx
  · rename_i hk
    rw [if_neg hk]; intro x hx; simp at hx
termination_by 4 - k
decreasing_by all_goals omega
theorem q_lit3 : (700 : Int32) = nI 700 := rfl
/-! the class -/
set_option maxRecDepth 100000 in
theorem hp2 {a : Int32} (k : Nat) (hk : k ≤ 4) (L : List Nat) (hL : L.length + q_cnt a k ≤ 700) {E : Nat → Int32} {C : Int32} (O : Bool) (h : Rw 700 E C L) : ∃ E' C', (∃ q, T_HelpFile_put 700 (nI (L.length + q_cnt a k)) E' C' O q 2 a (nI 0) (nI (8 * k)) (nI 0) E C O) ∧ Rw 700 E' C' (L ++ ads a k) := by
  rw [q_cnt] at hL ⊢
  rw [ads]
  by_cases h1 : k < 4
  · rw [if_pos h1] at hL ⊢
    rw [if_pos h1]
    have e := cbyt a h1
    by_cases h0 : byt a k = 0
    · rw [if_pos h0] at hL ⊢
      rw [if_pos h0]
      obtain ⟨E', C', ⟨q, hq⟩, b2⟩ := hp2 (a := a) (k + 1) h1 L (by omega) O h
      refine ⟨E', C', ⟨q + 1, ?_⟩, by simpa using b2⟩
      rw [T_HelpFile_put]
      simp only [S_HelpFile_put, B_HelpFile_put_95, q_lit, e]
      rw [h0]
      simp (disch := omega) only [q_lit, le_T, le_F, lt_T, lt_F, eq_T, eq_F, m1_lt, m1_le, lt_m1, le_m1, eq_m1, m1_eq, nI_add, nI_sub, nI_dec, nI_mul, nI_or, nI_and, nI_div, nI_mod, and_255, and_31, and_1, and_63, nI_shl, nI_shr, bI_F, bI_1, vp_T, cl_T, true_implies, false_implies, not_true_eq_false, not_false_eq_true, true_and, and_true, false_and, and_false, Bool.false_eq_true, Bool.true_eq_false, reduceCtorEq, implies_true]
      rw [Nat.zero_add]
      rw [show 8 * (k + 1) = 8 * k + 8 by omega] at hq
      exact hq
    · rw [if_neg h0] at hL ⊢
      rw [if_neg h0]
      have hb := byt_lt a k
      have ha := row_app h (by omega) (byt a k) O
      obtain ⟨E', C', ⟨q, hq⟩, b2⟩ := hp2 (a := a) (k + 1) h1 (L ++ [byt a k]) (by simp; omega) O (rw_app h (by omega) (byt a k))
      refine ⟨E', C', ⟨q + 1, ?_⟩, by simpa using b2⟩
      rw [T_HelpFile_put]
      simp only [S_HelpFile_put, B_HelpFile_put_95, q_lit, e]
      simp (disch := omega) only [q_lit, le_T, le_F, lt_T, lt_F, eq_T, eq_F, m1_lt, m1_le, lt_m1, le_m1, eq_m1, m1_eq, nI_add, nI_sub, nI_dec, nI_mul, nI_or, nI_and, nI_div, nI_mod, and_255, and_31, and_1, and_63, nI_shl, nI_shr, bI_F, bI_1, vp_T, cl_T, true_implies, false_implies, not_true_eq_false, not_false_eq_true, true_and, and_true, false_and, and_false, Bool.false_eq_true, Bool.true_eq_false, reduceCtorEq, implies_true]
      rw [List.length_append, List.length_cons, List.length_nil, show L.length + (0 + 1) + q_cnt a (k + 1) = L.length + (1 + q_cnt a (k + 1)) by omega, show 8 * (k + 1) = 8 * k + 8 by omega] at hq
      exact ⟨_, _, _, ha, hq⟩
  · rw [if_neg h1] at hL ⊢
    rw [if_neg h1]
    refine ⟨E, C, ⟨1, ?_⟩, by simpa using h⟩
    rw [T_HelpFile_put]
    have hC := h.1
    simp (disch := omega) only [S_HelpFile_put, B_HelpFile_put_95, q_lit, le_T, le_F, lt_T, lt_F, eq_T, eq_F, m1_lt, m1_le, lt_m1, le_m1, eq_m1, m1_eq, nI_add, nI_sub, nI_dec, nI_mul, nI_or, nI_and, nI_div, nI_mod, and_255, and_31, and_1, and_63, nI_shl, nI_shr, bI_F, bI_1, vp_T, cl_T, true_implies, false_implies, not_true_eq_false, not_false_eq_true, true_and, and_true, false_and, and_false, Bool.false_eq_true, Bool.true_eq_false, reduceCtorEq, implies_true]
    rw [hC]; rfl
termination_by 4 - k
decreasing_by all_goals omega
set_option maxRecDepth 100000 in
theorem hp0 {a : Int32} {L : List Nat} {E : Nat → Int32} {C : Int32} {O : Bool} (h : Rw 700 E C L) {R : Int32} {E' : Nat → Int32} {C' : Int32} {O' : Bool} (k : Nat) (hk : k ≤ 4) (hg : gd a k = true) (c : Nat) (hc : c ≤ k) (hL : L.length + (c + q_cnt a k) ≤ 700) (q_fin : ∃ q, T_HelpFile_put 700 R E' C' O' q 2 a (nI 0) (nI 0) (nI 0) E C O) : ∃ q, T_HelpFile_put 700 R E' C' O' q 0 a (nI c) (nI (8 * k)) (nI 0) E C O := by
  rw [q_cnt] at hL
  rw [gd] at hg
  by_cases h1 : k < 4
  · rw [if_pos h1] at hL hg
    rw [Bool.and_eq_true] at hg
    have e := cbyt a h1
    have hb := byt_lt a k
    have hle := q_cnt_le a (k + 1) (by omega)
    have hs := hg.1
    simp only [sgO, decide_eq_true_eq] at hs
    have ht := hf_typed (x := byt a k) (by omega)
    by_cases h0 : byt a k = 0
    · rw [if_pos h0] at hL
      obtain ⟨q, hq⟩ := hp0 h (k + 1) h1 hg.2 c (by omega) (by omega) q_fin
      refine ⟨q + 2, ?_⟩
      rw [T_HelpFile_put]
      simp only [S_HelpFile_put, B_HelpFile_put_4, q_lit, e]
      rw [h0]
      simp (disch := omega) only [q_lit, le_T, le_F, lt_T, lt_F, eq_T, eq_F, m1_lt, m1_le, lt_m1, le_m1, eq_m1, m1_eq, nI_add, nI_sub, nI_dec, nI_mul, nI_or, nI_and, nI_div, nI_mod, and_255, and_31, and_1, and_63, nI_shl, nI_shr, bI_F, bI_1, vp_T, cl_T, true_implies, false_implies, not_true_eq_false, not_false_eq_true, true_and, and_true, false_and, and_false, Bool.false_eq_true, Bool.true_eq_false, reduceCtorEq, implies_true]
      rw [T_HelpFile_put]
      simp (disch := omega) only [S_HelpFile_put, B_HelpFile_put_49, q_lit, le_T, le_F, lt_T, lt_F, eq_T, eq_F, m1_lt, m1_le, lt_m1, le_m1, eq_m1, m1_eq, nI_add, nI_sub, nI_dec, nI_mul, nI_or, nI_and, nI_div, nI_mod, and_255, and_31, and_1, and_63, nI_shl, nI_shr, bI_F, bI_1, vp_T, cl_T, true_implies, false_implies, not_true_eq_false, not_false_eq_true, true_and, and_true, false_and, and_false, Bool.false_eq_true, Bool.true_eq_false, reduceCtorEq, implies_true]
      rw [show 8 * (k + 1) = 8 * k + 8 by omega] at hq
      exact hq
    · rw [if_neg h0] at hL
      obtain ⟨q, hq⟩ := hp0 h (k + 1) h1 hg.2 (c + 1) (by omega) (by omega) q_fin
      refine ⟨q + 2, ?_⟩
      rw [show 8 * (k + 1) = 8 * k + 8 by omega] at hq
      have st : T_HelpFile_put 700 R E' C' O' (q + 1) 1 a (nI c) (nI (8 * k)) (nI (byt a k)) E C O := by
        rw [T_HelpFile_put]
        simp (disch := omega) only [S_HelpFile_put, B_HelpFile_put_49, q_lit, le_T, le_F, lt_T, lt_F, eq_T, eq_F, m1_lt, m1_le, lt_m1, le_m1, eq_m1, m1_eq, nI_add, nI_sub, nI_dec, nI_mul, nI_or, nI_and, nI_div, nI_mod, and_255, and_31, and_1, and_63, nI_shl, nI_shr, bI_F, bI_1, vp_T, cl_T, true_implies, false_implies, not_true_eq_false, not_false_eq_true, true_and, and_true, false_and, and_false, Bool.false_eq_true, Bool.true_eq_false, reduceCtorEq, implies_true]
        exact hq
      rw [T_HelpFile_put]
      simp only [S_HelpFile_put, B_HelpFile_put_4, q_lit, e]
      by_cases h10 : byt a k = 10
      · simp (disch := omega) only [q_lit, le_T, le_F, lt_T, lt_F, eq_T, eq_F, m1_lt, m1_le, lt_m1, le_m1, eq_m1, m1_eq, nI_add, nI_sub, nI_dec, nI_mul, nI_or, nI_and, nI_div, nI_mod, and_255, and_31, and_1, and_63, nI_shl, nI_shr, bI_F, bI_1, vp_T, cl_T, true_implies, false_implies, not_true_eq_false, not_false_eq_true, true_and, and_true, false_and, and_false, Bool.false_eq_true, Bool.true_eq_false, reduceCtorEq, implies_true]
        exact st
      · rw [decide_eq_true (show 32 ≤ byt a k ∧ byt a k ≤ 126 by omega)] at ht
        simp (disch := omega) only [q_lit, le_T, le_F, lt_T, lt_F, eq_T, eq_F, m1_lt, m1_le, lt_m1, le_m1, eq_m1, m1_eq, nI_add, nI_sub, nI_dec, nI_mul, nI_or, nI_and, nI_div, nI_mod, and_255, and_31, and_1, and_63, nI_shl, nI_shr, bI_F, bI_1, vp_T, cl_T, true_implies, false_implies, not_true_eq_false, not_false_eq_true, true_and, and_true, false_and, and_false, Bool.false_eq_true, Bool.true_eq_false, reduceCtorEq, implies_true]
        refine ⟨_, ht, ?_⟩
        simp (disch := omega) only [q_lit, le_T, le_F, lt_T, lt_F, eq_T, eq_F, m1_lt, m1_le, lt_m1, le_m1, eq_m1, m1_eq, nI_add, nI_sub, nI_dec, nI_mul, nI_or, nI_and, nI_div, nI_mod, and_255, and_31, and_1, and_63, nI_shl, nI_shr, bI_F, bI_1, vp_T, cl_T, true_implies, false_implies, not_true_eq_false, not_false_eq_true, true_and, and_true, false_and, and_false, Bool.false_eq_true, Bool.true_eq_false, reduceCtorEq, implies_true]
        exact st
  · rw [if_neg h1] at hL
    obtain ⟨q, hq⟩ := q_fin
    refine ⟨q + 1, ?_⟩
    rw [T_HelpFile_put, h.1]
    rw [h.1] at hq
    simp (disch := omega) only [S_HelpFile_put, B_HelpFile_put_4, q_lit3, q_lit, le_T, le_F, lt_T, lt_F, eq_T, eq_F, m1_lt, m1_le, lt_m1, le_m1, eq_m1, m1_eq, nI_add, nI_sub, nI_dec, nI_mul, nI_or, nI_and, nI_div, nI_mod, and_255, and_31, and_1, and_63, nI_shl, nI_shr, bI_F, bI_1, vp_T, cl_T, true_implies, false_implies, not_true_eq_false, not_false_eq_true, true_and, and_true, false_and, and_false, Bool.false_eq_true, Bool.true_eq_false, reduceCtorEq, implies_true]
    exact hq
termination_by 4 - k
decreasing_by all_goals omega
theorem hf_put {a : Int32} {L : List Nat} {E : Nat → Int32} {C : Int32} (O : Bool) (h : Rw 700 E C L) (hg : gd a 0 = true) (hL : L.length + q_cnt a 0 ≤ 700) : ∃ E' C', D_HelpFile_put 700 a E C O (nI (L.length + q_cnt a 0)) E' C' O ∧ Rw 700 E' C' (L ++ ads a 0) := by
  obtain ⟨E', C', b1, b2⟩ := hp2 (a := a) 0 (by omega) L hL O h
  exact ⟨E', C', hp0 h 0 (by omega) hg 0 (by omega) (by omega) b1, b2⟩
set_option maxRecDepth 100000 in
/-- refused -/
theorem hpx {a : Int32} {L : List Nat} {C : Int32} (hC : C = nI L.length) (hL7 : L.length ≤ 700) (k : Nat) (hk : k ≤ 4) (c : Nat) (hc : c ≤ k) (hb : gd a k = false ∨ 700 < L.length + (c + q_cnt a k)) : ∃ q, TX_HelpFile_put C (if gd a k = false then "java/lang/IllegalArgumentException" else "java/lang/UnsupportedOperationException") q 0 a (nI c) (nI (8 * k)) (nI 0) := by
  rw [q_cnt] at hb
  by_cases h1 : k < 4
  · have e := cbyt a h1
    have hbt := byt_lt a k
    have ht := hf_typed (x := byt a k) (by omega)
    rw [if_pos h1] at hb
    have hgd : gd a k = (sgO (byt a k) && gd a (k + 1)) := by rw [gd, if_pos h1]
    rw [hgd] at hb ⊢
    cases hs : sgO (byt a k) with
    | false =>
      simp only [sgO, decide_eq_false_iff_not] at hs
      rw [decide_eq_false (by omega)] at ht
      simp only [Bool.false_and, if_true]
      refine ⟨1, ?_⟩
      rw [TX_HelpFile_put]
      simp only [SX_HelpFile_put, BX_HelpFile_put_4, q_lit, e]
      simp (disch := omega) only [q_lit, le_T, le_F, lt_T, lt_F, eq_T, eq_F, m1_lt, m1_le, lt_m1, le_m1, eq_m1, m1_eq, nI_add, nI_sub, nI_dec, nI_mul, nI_or, nI_and, nI_div, nI_mod, and_255, and_31, and_1, and_63, nI_shl, nI_shr, bI_F, bI_1, vp_T, cl_T, true_implies, false_implies, not_true_eq_false, not_false_eq_true, true_and, and_true, false_and, and_false, Bool.false_eq_true, Bool.true_eq_false, reduceCtorEq, implies_true]
      refine ⟨_, ht, ?_⟩
      simp (disch := omega) only [q_lit, le_T, le_F, lt_T, lt_F, eq_T, eq_F, m1_lt, m1_le, lt_m1, le_m1, eq_m1, m1_eq, nI_add, nI_sub, nI_dec, nI_mul, nI_or, nI_and, nI_div, nI_mod, and_255, and_31, and_1, and_63, nI_shl, nI_shr, bI_F, bI_1, vp_T, cl_T, true_implies, false_implies, not_true_eq_false, not_false_eq_true, true_and, and_true, false_and, and_false, Bool.false_eq_true, Bool.true_eq_false, reduceCtorEq, implies_true]
    | true =>
      rw [hs, Bool.true_and] at hb
      simp only [Bool.true_and]
      simp only [sgO, decide_eq_true_eq] at hs
      by_cases h0 : byt a k = 0
      · rw [if_pos h0] at hb
        obtain ⟨q, hq⟩ := hpx (a := a) hC hL7 (k + 1) h1 c (by omega) (hb.imp id (fun h => by omega))
        refine ⟨q + 2, ?_⟩
        rw [TX_HelpFile_put]
        simp only [SX_HelpFile_put, BX_HelpFile_put_4, q_lit, e]
        rw [h0]
        simp (disch := omega) only [q_lit, le_T, le_F, lt_T, lt_F, eq_T, eq_F, m1_lt, m1_le, lt_m1, le_m1, eq_m1, m1_eq, nI_add, nI_sub, nI_dec, nI_mul, nI_or, nI_and, nI_div, nI_mod, and_255, and_31, and_1, and_63, nI_shl, nI_shr, bI_F, bI_1, vp_T, cl_T, true_implies, false_implies, not_true_eq_false, not_false_eq_true, true_and, and_true, false_and, and_false, Bool.false_eq_true, Bool.true_eq_false, reduceCtorEq, implies_true]
        rw [TX_HelpFile_put]
        simp (disch := omega) only [SX_HelpFile_put, BX_HelpFile_put_49, q_lit, le_T, le_F, lt_T, lt_F, eq_T, eq_F, m1_lt, m1_le, lt_m1, le_m1, eq_m1, m1_eq, nI_add, nI_sub, nI_dec, nI_mul, nI_or, nI_and, nI_div, nI_mod, and_255, and_31, and_1, and_63, nI_shl, nI_shr, bI_F, bI_1, vp_T, cl_T, true_implies, false_implies, not_true_eq_false, not_false_eq_true, true_and, and_true, false_and, and_false, Bool.false_eq_true, Bool.true_eq_false, reduceCtorEq, implies_true]
        rw [show 8 * (k + 1) = 8 * k + 8 by omega] at hq
        exact hq
      · rw [if_neg h0] at hb
        obtain ⟨q, hq⟩ := hpx (a := a) hC hL7 (k + 1) h1 (c + 1) (by omega) (hb.imp id (fun h => by omega))
        refine ⟨q + 2, ?_⟩
        rw [show 8 * (k + 1) = 8 * k + 8 by omega] at hq
        have st : TX_HelpFile_put C (if gd a (k + 1) = false then "java/lang/IllegalArgumentException" else "java/lang/UnsupportedOperationException") (q + 1) 1 a (nI c) (nI (8 * k)) (nI (byt a k)) := by
          rw [TX_HelpFile_put]
          simp (disch := omega) only [SX_HelpFile_put, BX_HelpFile_put_49, q_lit, le_T, le_F, lt_T, lt_F, eq_T, eq_F, m1_lt, m1_le, lt_m1, le_m1, eq_m1, m1_eq, nI_add, nI_sub, nI_dec, nI_mul, nI_or, nI_and, nI_div, nI_mod, and_255, and_31, and_1, and_63, nI_shl, nI_shr, bI_F, bI_1, vp_T, cl_T, true_implies, false_implies, not_true_eq_false, not_false_eq_true, true_and, and_true, false_and, and_false, Bool.false_eq_true, Bool.true_eq_false, reduceCtorEq, implies_true]
          exact hq
        rw [TX_HelpFile_put]
        simp only [SX_HelpFile_put, BX_HelpFile_put_4, q_lit, e]
        by_cases h10 : byt a k = 10
        · simp (disch := omega) only [q_lit, le_T, le_F, lt_T, lt_F, eq_T, eq_F, m1_lt, m1_le, lt_m1, le_m1, eq_m1, m1_eq, nI_add, nI_sub, nI_dec, nI_mul, nI_or, nI_and, nI_div, nI_mod, and_255, and_31, and_1, and_63, nI_shl, nI_shr, bI_F, bI_1, vp_T, cl_T, true_implies, false_implies, not_true_eq_false, not_false_eq_true, true_and, and_true, false_and, and_false, Bool.false_eq_true, Bool.true_eq_false, reduceCtorEq, implies_true]
          exact st
        · rw [decide_eq_true (show 32 ≤ byt a k ∧ byt a k ≤ 126 by omega)] at ht
          simp (disch := omega) only [q_lit, le_T, le_F, lt_T, lt_F, eq_T, eq_F, m1_lt, m1_le, lt_m1, le_m1, eq_m1, m1_eq, nI_add, nI_sub, nI_dec, nI_mul, nI_or, nI_and, nI_div, nI_mod, and_255, and_31, and_1, and_63, nI_shl, nI_shr, bI_F, bI_1, vp_T, cl_T, true_implies, false_implies, not_true_eq_false, not_false_eq_true, true_and, and_true, false_and, and_false, Bool.false_eq_true, Bool.true_eq_false, reduceCtorEq, implies_true]
          refine ⟨_, ht, ?_⟩
          simp (disch := omega) only [q_lit, le_T, le_F, lt_T, lt_F, eq_T, eq_F, m1_lt, m1_le, lt_m1, le_m1, eq_m1, m1_eq, nI_add, nI_sub, nI_dec, nI_mul, nI_or, nI_and, nI_div, nI_mod, and_255, and_31, and_1, and_63, nI_shl, nI_shr, bI_F, bI_1, vp_T, cl_T, true_implies, false_implies, not_true_eq_false, not_false_eq_true, true_and, and_true, false_and, and_false, Bool.false_eq_true, Bool.true_eq_false, reduceCtorEq, implies_true]
          exact st
  · rw [if_neg h1] at hb
    have hg : gd a k = true := by rw [gd, if_neg h1]
    rw [hg] at hb ⊢
    have : 700 < L.length + (c + 0) := by rcases hb with hb | hb; · cases hb
                                          · exact hb
    refine ⟨1, ?_⟩
    rw [TX_HelpFile_put, hC]
    simp (disch := omega) only [SX_HelpFile_put, BX_HelpFile_put_4, q_lit3, q_lit, le_T, le_F, lt_T, lt_F, eq_T, eq_F, m1_lt, m1_le, lt_m1, le_m1, eq_m1, m1_eq, nI_add, nI_sub, nI_dec, nI_mul, nI_or, nI_and, nI_div, nI_mod, and_255, and_31, and_1, and_63, nI_shl, nI_shr, bI_F, bI_1, vp_T, cl_T, true_implies, false_implies, not_true_eq_false, not_false_eq_true, true_and, and_true, false_and, and_false, Bool.false_eq_true, Bool.true_eq_false, reduceCtorEq, implies_true]
    simp
termination_by 4 - k
decreasing_by all_goals omega
theorem hf_putX {a : Int32} {L : List Nat} {C : Int32} (hC : C = nI L.length) (hL7 : L.length ≤ 700) (hb : gd a 0 = false ∨ 700 < L.length + q_cnt a 0) : X_HelpFile_put a C (if gd a 0 = false then "java/lang/IllegalArgumentException" else "java/lang/UnsupportedOperationException") := hpx hC hL7 0 (by omega) 0 (by omega) (hb.imp id (fun h => by omega))
/-! the reference -/
def rfN (p0 p1 : Bool) : Nat := if p0 = true then 1 else if p1 = true then 2 else 0
theorem mo_refuse (p0 p1 : Bool) (th : Int32) : D_Model_refuse p0 p1 th (p0 || p1) (nI (rfN p0 p1)) := by
  refine ⟨1, ?_⟩
  cases p0 <;> cases p1 <;> (simp only [rfN, Bool.or_true, Bool.or_false, Bool.true_or, Bool.false_or]; simp (disch := omega) only [T_Model_refuse, S_Model_refuse, B_Model_refuse_21, if_true, if_false, Bool.false_eq_true, q_lit, le_T, le_F, lt_T, lt_F, eq_T, eq_F, m1_lt, m1_le, lt_m1, le_m1, eq_m1, m1_eq, nI_add, nI_sub, nI_dec, nI_mul, nI_or, nI_and, nI_div, nI_mod, and_255, and_31, and_1, and_63, nI_shl, nI_shr, bI_F, bI_1, vp_T, cl_T, true_implies, false_implies, not_true_eq_false, not_false_eq_true, true_and, and_true, false_and, and_false, Bool.false_eq_true, Bool.true_eq_false, reduceCtorEq, implies_true, q_lc_eq, q_lc_ge, q_lc_gt, q_lc_le, lN_or, lN_and, lN_shl, lN_shr, nI_L, lN_I, l_0])
set_option maxRecDepth 100000 in
theorem mp5 {a : Int32} {th : Int32} (k : Nat) (hk : k ≤ 4) (L : List Nat) (hL : L.length + q_cnt a k ≤ 700) {E : Nat → Int32} {C : Int32} (h : Rw 700 E C L) : ∃ E' C', (∃ q, T_Model_put (nI (L.length + q_cnt a k)) th E' C' q 5 a (nI 0) false (nI k) (nI 0) th E C) ∧ Rw 700 E' C' (L ++ ads a k) := by
  have hC := h.1
  rw [q_cnt] at hL ⊢
  rw [ads]
  by_cases h1 : k < 4
  · rw [if_pos h1] at hL ⊢
    rw [if_pos h1]
    have e := mbyt a h1
    by_cases h0 : byt a k = 0
    · rw [if_pos h0] at hL ⊢
      rw [if_pos h0]
      obtain ⟨E', C', ⟨q, hq⟩, b2⟩ := mp5 (a := a) (th := th) (k + 1) h1 L (by omega) h
      refine ⟨E', C', ⟨q + 1, ?_⟩, by simpa using b2⟩
      rw [T_Model_put]
      simp only [S_Model_put, B_Model_put_117, q_lit, nI_mul, e]
      rw [h0]
      simp (disch := omega) only [q_lit, le_T, le_F, lt_T, lt_F, eq_T, eq_F, m1_lt, m1_le, lt_m1, le_m1, eq_m1, m1_eq, nI_add, nI_sub, nI_dec, nI_mul, nI_or, nI_and, nI_div, nI_mod, and_255, and_31, and_1, and_63, nI_shl, nI_shr, bI_F, bI_1, vp_T, cl_T, true_implies, false_implies, not_true_eq_false, not_false_eq_true, true_and, and_true, false_and, and_false, Bool.false_eq_true, Bool.true_eq_false, reduceCtorEq, implies_true]
      rw [Nat.zero_add]
      exact hq
    · rw [if_neg h0] at hL ⊢
      rw [if_neg h0]
      have hb := byt_lt a k
      obtain ⟨E', C', ⟨q, hq⟩, b2⟩ := mp5 (a := a) (th := th) (k + 1) h1 (L ++ [byt a k]) (by simp; omega) (rw_app h (by omega) (byt a k))
      refine ⟨E', C', ⟨q + 1, ?_⟩, by simpa using b2⟩
      rw [T_Model_put]
      simp only [S_Model_put, B_Model_put_117, q_lit, nI_mul, e]
      rw [hC]
      simp (disch := omega) only [q_lit, le_T, le_F, lt_T, lt_F, eq_T, eq_F, m1_lt, m1_le, lt_m1, le_m1, eq_m1, m1_eq, nI_add, nI_sub, nI_dec, nI_mul, nI_or, nI_and, nI_div, nI_mod, and_255, and_31, and_1, and_63, nI_shl, nI_shr, bI_F, bI_1, vp_T, cl_T, true_implies, false_implies, not_true_eq_false, not_false_eq_true, true_and, and_true, false_and, and_false, Bool.false_eq_true, Bool.true_eq_false, reduceCtorEq, implies_true]
      rw [List.length_append, List.length_cons, List.length_nil, show L.length + (0 + 1) + q_cnt a (k + 1) = L.length + (1 + q_cnt a (k + 1)) by omega] at hq
      exact hq
  · rw [if_neg h1] at hL ⊢
    rw [if_neg h1]
    refine ⟨E, C, ⟨1, ?_⟩, by simpa using h⟩
    rw [T_Model_put]
    simp (disch := omega) only [S_Model_put, B_Model_put_117, q_lit, le_T, le_F, lt_T, lt_F, eq_T, eq_F, m1_lt, m1_le, lt_m1, le_m1, eq_m1, m1_eq, nI_add, nI_sub, nI_dec, nI_mul, nI_or, nI_and, nI_div, nI_mod, and_255, and_31, and_1, and_63, nI_shl, nI_shr, bI_F, bI_1, vp_T, cl_T, true_implies, false_implies, not_true_eq_false, not_false_eq_true, true_and, and_true, false_and, and_false, Bool.false_eq_true, Bool.true_eq_false, reduceCtorEq, implies_true]
    rw [hC]; rfl
termination_by 4 - k
decreasing_by all_goals omega
set_option maxRecDepth 100000 in
theorem mp0 {a : Int32} {th R th' : Int32} {E E' : Nat → Int32} {C C' : Int32} (k : Nat) (hk : k ≤ 4) (c : Nat) (hc : c ≤ k) (g : Bool) (q_fin : ∃ q, T_Model_put R th' E' C' q 0 a (nI (c + q_cnt a k)) (g && gd a k) (nI 4) (nI 0) th E C) : ∃ q, T_Model_put R th' E' C' q 0 a (nI c) g (nI k) (nI 0) th E C := by
  by_cases h1 : k < 4
  · have e := mbyt a h1
    have hb := byt_lt a k
    have hin := mo_in (x := byt a k) (a := 32) (b := 126) (by omega) (by omega) (by omega)
    have hgd : gd a k = (sgO (byt a k) && gd a (k + 1)) := by rw [gd, if_pos h1]
    have hcn : q_cnt a k = (if byt a k = 0 then 0 else 1) + q_cnt a (k + 1) := by rw [q_cnt, if_pos h1]
    rw [hgd, hcn, ← Nat.add_assoc, ← Bool.and_assoc] at q_fin
    -- from label 3
    have st3 : ∃ q, T_Model_put R th' E' C' q 3 a (nI c) (g && sgO (byt a k)) (nI k) (nI (byt a k)) th E C := by
      by_cases h0 : byt a k = 0
      · rw [if_pos h0] at q_fin
        obtain ⟨q, hq⟩ := mp0 (k + 1) h1 c (by omega) (g && sgO (byt a k)) (by simpa using q_fin)
        refine ⟨q + 1, ?_⟩
        rw [T_Model_put]
        simp (disch := omega) only [S_Model_put, B_Model_put_60, q_lit, le_T, le_F, lt_T, lt_F, eq_T, eq_F, m1_lt, m1_le, lt_m1, le_m1, eq_m1, m1_eq, nI_add, nI_sub, nI_dec, nI_mul, nI_or, nI_and, nI_div, nI_mod, and_255, and_31, and_1, and_63, nI_shl, nI_shr, bI_F, bI_1, vp_T, cl_T, true_implies, false_implies, not_true_eq_false, not_false_eq_true, true_and, and_true, false_and, and_false, Bool.false_eq_true, Bool.true_eq_false, reduceCtorEq, implies_true]
        exact hq
      · rw [if_neg h0] at q_fin
        obtain ⟨q, hq⟩ := mp0 (k + 1) h1 (c + 1) (by omega) (g && sgO (byt a k)) q_fin
        refine ⟨q + 1, ?_⟩
        rw [T_Model_put]
        simp (disch := omega) only [S_Model_put, B_Model_put_60, q_lit, le_T, le_F, lt_T, lt_F, eq_T, eq_F, m1_lt, m1_le, lt_m1, le_m1, eq_m1, m1_eq, nI_add, nI_sub, nI_dec, nI_mul, nI_or, nI_and, nI_div, nI_mod, and_255, and_31, and_1, and_63, nI_shl, nI_shr, bI_F, bI_1, vp_T, cl_T, true_implies, false_implies, not_true_eq_false, not_false_eq_true, true_and, and_true, false_and, and_false, Bool.false_eq_true, Bool.true_eq_false, reduceCtorEq, implies_true]
        exact hq
    obtain ⟨q, hq⟩ := st3
    refine ⟨q + 2, ?_⟩
    cases g with
    | false =>
      rw [Bool.false_and] at hq
      rw [T_Model_put]
      simp only [S_Model_put, B_Model_put_7, q_lit, nI_mul, e]
      simp (disch := omega) only [q_lit, le_T, le_F, lt_T, lt_F, eq_T, eq_F, m1_lt, m1_le, lt_m1, le_m1, eq_m1, m1_eq, nI_add, nI_sub, nI_dec, nI_mul, nI_or, nI_and, nI_div, nI_mod, and_255, and_31, and_1, and_63, nI_shl, nI_shr, bI_F, bI_1, vp_T, cl_T, true_implies, false_implies, not_true_eq_false, not_false_eq_true, true_and, and_true, false_and, and_false, Bool.false_eq_true, Bool.true_eq_false, reduceCtorEq, implies_true]
      rw [T_Model_put]
      simp (disch := omega) only [S_Model_put, B_Model_put_58, q_lit, le_T, le_F, lt_T, lt_F, eq_T, eq_F, m1_lt, m1_le, lt_m1, le_m1, eq_m1, m1_eq, nI_add, nI_sub, nI_dec, nI_mul, nI_or, nI_and, nI_div, nI_mod, and_255, and_31, and_1, and_63, nI_shl, nI_shr, bI_F, bI_1, vp_T, cl_T, true_implies, false_implies, not_true_eq_false, not_false_eq_true, true_and, and_true, false_and, and_false, Bool.false_eq_true, Bool.true_eq_false, reduceCtorEq, implies_true]
      exact hq
    | true =>
      rw [Bool.true_and] at hq
      have sT : sgO (byt a k) = true → T_Model_put R th' E' C' (q + 1) 1 a (nI c) false (nI k) (nI (byt a k)) th E C := by
        intro hs
        rw [hs] at hq
        rw [T_Model_put]
        simp (disch := omega) only [S_Model_put, B_Model_put_54, q_lit, le_T, le_F, lt_T, lt_F, eq_T, eq_F, m1_lt, m1_le, lt_m1, le_m1, eq_m1, m1_eq, nI_add, nI_sub, nI_dec, nI_mul, nI_or, nI_and, nI_div, nI_mod, and_255, and_31, and_1, and_63, nI_shl, nI_shr, bI_F, bI_1, vp_T, cl_T, true_implies, false_implies, not_true_eq_false, not_false_eq_true, true_and, and_true, false_and, and_false, Bool.false_eq_true, Bool.true_eq_false, reduceCtorEq, implies_true]
        exact hq
      have sF : sgO (byt a k) = false → T_Model_put R th' E' C' (q + 1) 2 a (nI c) false (nI k) (nI (byt a k)) th E C := by
        intro hs
        rw [hs] at hq
        rw [T_Model_put]
        simp (disch := omega) only [S_Model_put, B_Model_put_58, q_lit, le_T, le_F, lt_T, lt_F, eq_T, eq_F, m1_lt, m1_le, lt_m1, le_m1, eq_m1, m1_eq, nI_add, nI_sub, nI_dec, nI_mul, nI_or, nI_and, nI_div, nI_mod, and_255, and_31, and_1, and_63, nI_shl, nI_shr, bI_F, bI_1, vp_T, cl_T, true_implies, false_implies, not_true_eq_false, not_false_eq_true, true_and, and_true, false_and, and_false, Bool.false_eq_true, Bool.true_eq_false, reduceCtorEq, implies_true]
        exact hq
      rw [T_Model_put]
      simp only [S_Model_put, B_Model_put_7, q_lit, nI_mul, e]
      by_cases h0 : byt a k = 0
      · have := sT (by simp [sgO, h0])
        simp (disch := omega) only [q_lit, le_T, le_F, lt_T, lt_F, eq_T, eq_F, m1_lt, m1_le, lt_m1, le_m1, eq_m1, m1_eq, nI_add, nI_sub, nI_dec, nI_mul, nI_or, nI_and, nI_div, nI_mod, and_255, and_31, and_1, and_63, nI_shl, nI_shr, bI_F, bI_1, vp_T, cl_T, true_implies, false_implies, not_true_eq_false, not_false_eq_true, true_and, and_true, false_and, and_false, Bool.false_eq_true, Bool.true_eq_false, reduceCtorEq, implies_true]
        exact this
      · by_cases h10 : byt a k = 10
        · have := sT (by simp [sgO, h10])
          simp (disch := omega) only [q_lit, le_T, le_F, lt_T, lt_F, eq_T, eq_F, m1_lt, m1_le, lt_m1, le_m1, eq_m1, m1_eq, nI_add, nI_sub, nI_dec, nI_mul, nI_or, nI_and, nI_div, nI_mod, and_255, and_31, and_1, and_63, nI_shl, nI_shr, bI_F, bI_1, vp_T, cl_T, true_implies, false_implies, not_true_eq_false, not_false_eq_true, true_and, and_true, false_and, and_false, Bool.false_eq_true, Bool.true_eq_false, reduceCtorEq, implies_true]
          exact this
        · by_cases h32 : 32 ≤ byt a k ∧ byt a k ≤ 126
          · have := sT (by simp [sgO, h32])
            rw [decide_eq_true h32.1, decide_eq_true h32.2, Bool.true_and] at hin
            simp (disch := omega) only [q_lit, le_T, le_F, lt_T, lt_F, eq_T, eq_F, m1_lt, m1_le, lt_m1, le_m1, eq_m1, m1_eq, nI_add, nI_sub, nI_dec, nI_mul, nI_or, nI_and, nI_div, nI_mod, and_255, and_31, and_1, and_63, nI_shl, nI_shr, bI_F, bI_1, vp_T, cl_T, true_implies, false_implies, not_true_eq_false, not_false_eq_true, true_and, and_true, false_and, and_false, Bool.false_eq_true, Bool.true_eq_false, reduceCtorEq, implies_true]
            refine ⟨_, hin, ?_⟩
            simp (disch := omega) only [q_lit, le_T, le_F, lt_T, lt_F, eq_T, eq_F, m1_lt, m1_le, lt_m1, le_m1, eq_m1, m1_eq, nI_add, nI_sub, nI_dec, nI_mul, nI_or, nI_and, nI_div, nI_mod, and_255, and_31, and_1, and_63, nI_shl, nI_shr, bI_F, bI_1, vp_T, cl_T, true_implies, false_implies, not_true_eq_false, not_false_eq_true, true_and, and_true, false_and, and_false, Bool.false_eq_true, Bool.true_eq_false, reduceCtorEq, implies_true]
            exact this
          · have := sF (by simp only [sgO, decide_eq_false_iff_not]; omega)
            have hf : (decide (32 ≤ byt a k) && decide (byt a k ≤ 126)) = false := by
              simp only [Bool.and_eq_false_iff, decide_eq_false_iff_not]; omega
            rw [hf] at hin
            simp (disch := omega) only [q_lit, le_T, le_F, lt_T, lt_F, eq_T, eq_F, m1_lt, m1_le, lt_m1, le_m1, eq_m1, m1_eq, nI_add, nI_sub, nI_dec, nI_mul, nI_or, nI_and, nI_div, nI_mod, and_255, and_31, and_1, and_63, nI_shl, nI_shr, bI_F, bI_1, vp_T, cl_T, true_implies, false_implies, not_true_eq_false, not_false_eq_true, true_and, and_true, false_and, and_false, Bool.false_eq_true, Bool.true_eq_false, reduceCtorEq, implies_true]
            refine ⟨_, hin, ?_⟩
            simp (disch := omega) only [q_lit, le_T, le_F, lt_T, lt_F, eq_T, eq_F, m1_lt, m1_le, lt_m1, le_m1, eq_m1, m1_eq, nI_add, nI_sub, nI_dec, nI_mul, nI_or, nI_and, nI_div, nI_mod, and_255, and_31, and_1, and_63, nI_shl, nI_shr, bI_F, bI_1, vp_T, cl_T, true_implies, false_implies, not_true_eq_false, not_false_eq_true, true_and, and_true, false_and, and_false, Bool.false_eq_true, Bool.true_eq_false, reduceCtorEq, implies_true]
            exact this
  · have hg : gd a k = true := by rw [gd, if_neg h1]
    have hcn : q_cnt a k = 0 := by rw [q_cnt, if_neg h1]
    rw [hg, hcn, Bool.and_true, Nat.add_zero] at q_fin
    rw [show k = 4 by omega]; exact q_fin
termination_by 4 - k
decreasing_by all_goals omega
theorem mo_put {a : Int32} {L : List Nat} {E : Nat → Int32} {C : Int32} (h : Rw 700 E C L) (th : Int32) : ∃ r E' C', D_Model_put a th E C (nI r) (nI (rfN (!(gd a 0)) (decide (700 < L.length + q_cnt a 0)))) E' C' ∧ ((gd a 0 = true ∧ L.length + q_cnt a 0 ≤ 700 ∧ r = L.length + q_cnt a 0 ∧ Rw 700 E' C' (L ++ ads a 0)) ∨ (¬ (gd a 0 = true ∧ L.length + q_cnt a 0 ≤ 700) ∧ E' = E ∧ C' = C)) := by
  have hC := h.1
  have hL7 := h.2.1
  have hle := q_cnt_le a 0 (by omega)
  have hrf := mo_refuse (!(gd a 0)) (decide (700 < L.length + q_cnt a 0)) th
  by_cases hok : gd a 0 = true ∧ L.length + q_cnt a 0 ≤ 700
  · rw [hok.1, decide_eq_false (by omega)] at hrf ⊢
    obtain ⟨E', C', ⟨q, hq⟩, b2⟩ := mp5 (a := a) (th := nI (rfN false false)) 0 (by omega) L hok.2 h
    refine ⟨_, E', C', mp0 0 (by omega) 0 (by omega) true ⟨q + 2, ?_⟩, Or.inl ⟨rfl, hok.2, rfl, b2⟩⟩
    rw [hok.1, Nat.zero_add, Bool.true_and, T_Model_put]
    rw [hC] at hq ⊢
    simp (disch := omega) only [S_Model_put, B_Model_put_7, q_lit3, q_lit, le_T, le_F, lt_T, lt_F, eq_T, eq_F, m1_lt, m1_le, lt_m1, le_m1, eq_m1, m1_eq, nI_add, nI_sub, nI_dec, nI_mul, nI_or, nI_and, nI_div, nI_mod, and_255, and_31, and_1, and_63, nI_shl, nI_shr, bI_F, bI_1, vp_T, cl_T, true_implies, false_implies, not_true_eq_false, not_false_eq_true, true_and, and_true, false_and, and_false, Bool.false_eq_true, Bool.true_eq_false, reduceCtorEq, implies_true]
    refine ⟨_, _, hrf, ?_⟩
    simp (disch := omega) only [Bool.not_true, Bool.or_false, q_lit, le_T, le_F, lt_T, lt_F, eq_T, eq_F, m1_lt, m1_le, lt_m1, le_m1, eq_m1, m1_eq, nI_add, nI_sub, nI_dec, nI_mul, nI_or, nI_and, nI_div, nI_mod, and_255, and_31, and_1, and_63, nI_shl, nI_shr, bI_F, bI_1, vp_T, cl_T, true_implies, false_implies, not_true_eq_false, not_false_eq_true, true_and, and_true, false_and, and_false, Bool.false_eq_true, Bool.true_eq_false, reduceCtorEq, implies_true]
    rw [T_Model_put]
    simp (disch := omega) only [S_Model_put, B_Model_put_114, q_lit, le_T, le_F, lt_T, lt_F, eq_T, eq_F, m1_lt, m1_le, lt_m1, le_m1, eq_m1, m1_eq, nI_add, nI_sub, nI_dec, nI_mul, nI_or, nI_and, nI_div, nI_mod, and_255, and_31, and_1, and_63, nI_shl, nI_shr, bI_F, bI_1, vp_T, cl_T, true_implies, false_implies, not_true_eq_false, not_false_eq_true, true_and, and_true, false_and, and_false, Bool.false_eq_true, Bool.true_eq_false, reduceCtorEq, implies_true]
    exact hq
  · refine ⟨0, E, C, mp0 0 (by omega) 0 (by omega) true ⟨1, ?_⟩, Or.inr ⟨hok, rfl, rfl⟩⟩
    rw [Nat.zero_add, Bool.true_and, T_Model_put]
    cases hg : gd a 0 with
    | false =>
      rw [hg] at hrf
      by_cases h7 : 700 < L.length + q_cnt a 0
      · rw [decide_eq_true h7] at hrf ⊢
        rw [hC]
        simp (disch := omega) only [S_Model_put, B_Model_put_7, q_lit3, q_lit, le_T, le_F, lt_T, lt_F, eq_T, eq_F, m1_lt, m1_le, lt_m1, le_m1, eq_m1, m1_eq, nI_add, nI_sub, nI_dec, nI_mul, nI_or, nI_and, nI_div, nI_mod, and_255, and_31, and_1, and_63, nI_shl, nI_shr, bI_F, bI_1, vp_T, cl_T, true_implies, false_implies, not_true_eq_false, not_false_eq_true, true_and, and_true, false_and, and_false, Bool.false_eq_true, Bool.true_eq_false, reduceCtorEq, implies_true]
        refine ⟨_, _, hrf, ?_⟩
        simp (disch := omega) only [Bool.not_false, Bool.true_or, q_lit, le_T, le_F, lt_T, lt_F, eq_T, eq_F, m1_lt, m1_le, lt_m1, le_m1, eq_m1, m1_eq, nI_add, nI_sub, nI_dec, nI_mul, nI_or, nI_and, nI_div, nI_mod, and_255, and_31, and_1, and_63, nI_shl, nI_shr, bI_F, bI_1, vp_T, cl_T, true_implies, false_implies, not_true_eq_false, not_false_eq_true, true_and, and_true, false_and, and_false, Bool.false_eq_true, Bool.true_eq_false, reduceCtorEq, implies_true]
      · rw [decide_eq_false h7] at hrf ⊢
        rw [hC]
        simp (disch := omega) only [S_Model_put, B_Model_put_7, q_lit3, q_lit, le_T, le_F, lt_T, lt_F, eq_T, eq_F, m1_lt, m1_le, lt_m1, le_m1, eq_m1, m1_eq, nI_add, nI_sub, nI_dec, nI_mul, nI_or, nI_and, nI_div, nI_mod, and_255, and_31, and_1, and_63, nI_shl, nI_shr, bI_F, bI_1, vp_T, cl_T, true_implies, false_implies, not_true_eq_false, not_false_eq_true, true_and, and_true, false_and, and_false, Bool.false_eq_true, Bool.true_eq_false, reduceCtorEq, implies_true]
        refine ⟨_, _, hrf, ?_⟩
        simp (disch := omega) only [Bool.not_false, Bool.true_or, q_lit, le_T, le_F, lt_T, lt_F, eq_T, eq_F, m1_lt, m1_le, lt_m1, le_m1, eq_m1, m1_eq, nI_add, nI_sub, nI_dec, nI_mul, nI_or, nI_and, nI_div, nI_mod, and_255, and_31, and_1, and_63, nI_shl, nI_shr, bI_F, bI_1, vp_T, cl_T, true_implies, false_implies, not_true_eq_false, not_false_eq_true, true_and, and_true, false_and, and_false, Bool.false_eq_true, Bool.true_eq_false, reduceCtorEq, implies_true]
    | true =>
      rw [hg] at hrf
      have h7 : 700 < L.length + q_cnt a 0 := by
        rcases Nat.lt_or_ge 700 (L.length + q_cnt a 0) with h | h
        · exact h
        · exact absurd ⟨hg, h⟩ hok
      rw [decide_eq_true h7] at hrf ⊢
      rw [hC]
      simp (disch := omega) only [S_Model_put, B_Model_put_7, q_lit3, q_lit, le_T, le_F, lt_T, lt_F, eq_T, eq_F, m1_lt, m1_le, lt_m1, le_m1, eq_m1, m1_eq, nI_add, nI_sub, nI_dec, nI_mul, nI_or, nI_and, nI_div, nI_mod, and_255, and_31, and_1, and_63, nI_shl, nI_shr, bI_F, bI_1, vp_T, cl_T, true_implies, false_implies, not_true_eq_false, not_false_eq_true, true_and, and_true, false_and, and_false, Bool.false_eq_true, Bool.true_eq_false, reduceCtorEq, implies_true]
      refine ⟨_, _, hrf, ?_⟩
      simp (disch := omega) only [Bool.not_true, Bool.or_true, q_lit, le_T, le_F, lt_T, lt_F, eq_T, eq_F, m1_lt, m1_le, lt_m1, le_m1, eq_m1, m1_eq, nI_add, nI_sub, nI_dec, nI_mul, nI_or, nI_and, nI_div, nI_mod, and_255, and_31, and_1, and_63, nI_shl, nI_shr, bI_F, bI_1, vp_T, cl_T, true_implies, false_implies, not_true_eq_false, not_false_eq_true, true_and, and_true, false_and, and_false, Bool.false_eq_true, Bool.true_eq_false, reduceCtorEq, implies_true]
