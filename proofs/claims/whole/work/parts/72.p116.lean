/-! Pure: whether a book may be a source's, the class. -/
theorem hf_typed {x : Nat} (hx : x < 2147483648) : D_HelpFile_isTyped (nI x) (decide (32 ≤ x ∧ x ≤ 126)) := by
  unfold D_HelpFile_isTyped
  by_cases h1 : x < 32
  · rw [decide_eq_false (by omega)]; simp (disch := omega) only [q_lit, le_T, le_F, lt_T, lt_F, eq_T, eq_F, m1_lt, m1_le, lt_m1, le_m1, eq_m1, m1_eq, nI_add, nI_sub, nI_dec, nI_mul, nI_or, nI_and, nI_div, nI_mod, and_255, and_31, and_1, and_63, nI_shl, nI_shr, bI_F, bI_1, vp_T, cl_T, true_implies, false_implies, not_true_eq_false, not_false_eq_true, true_and, and_true, false_and, and_false, Bool.false_eq_true, Bool.true_eq_false, reduceCtorEq, implies_true]
  · by_cases h2 : 126 < x
    · rw [decide_eq_false (by omega)]; simp (disch := omega) only [q_lit, le_T, le_F, lt_T, lt_F, eq_T, eq_F, m1_lt, m1_le, lt_m1, le_m1, eq_m1, m1_eq, nI_add, nI_sub, nI_dec, nI_mul, nI_or, nI_and, nI_div, nI_mod, and_255, and_31, and_1, and_63, nI_shl, nI_shr, bI_F, bI_1, vp_T, cl_T, true_implies, false_implies, not_true_eq_false, not_false_eq_true, true_and, and_true, false_and, and_false, Bool.false_eq_true, Bool.true_eq_false, reduceCtorEq, implies_true]
    · rw [decide_eq_true (by omega)]; simp (disch := omega) only [q_lit, le_T, le_F, lt_T, lt_F, eq_T, eq_F, m1_lt, m1_le, lt_m1, le_m1, eq_m1, m1_eq, nI_add, nI_sub, nI_dec, nI_mul, nI_or, nI_and, nI_div, nI_mod, and_255, and_31, and_1, and_63, nI_shl, nI_shr, bI_F, bI_1, vp_T, cl_T, true_implies, false_implies, not_true_eq_false, not_false_eq_true, true_and, and_true, false_and, and_false, Bool.false_eq_true, Bool.true_eq_false, reduceCtorEq, implies_true]
theorem cb_may {bf x : Nat} (hb : bf < 2147483648) (hx : x < 2147483648) : D_Book_mayFollow (nI bf) (nI x) (mayF bf x) := by
  unfold mayF
  by_cases h1 : x = 32 ∨ x = 10
  · rw [if_pos h1]
    have st : T_Book_mayFollow (decide (bf ≠ 32 ∧ bf ≠ 10)) 1 (nI bf) := by
      by_cases g1 : bf = 32
      · rw [decide_eq_false (by omega)]; simp (disch := omega) only [T_Book_mayFollow, S_Book_mayFollow, B_Book_mayFollow_12, q_lit, le_T, le_F, lt_T, lt_F, eq_T, eq_F, m1_lt, m1_le, lt_m1, le_m1, eq_m1, m1_eq, nI_add, nI_sub, nI_dec, nI_mul, nI_or, nI_and, nI_div, nI_mod, and_255, and_31, and_1, and_63, nI_shl, nI_shr, bI_F, bI_1, vp_T, cl_T, true_implies, false_implies, not_true_eq_false, not_false_eq_true, true_and, and_true, false_and, and_false, Bool.false_eq_true, Bool.true_eq_false, reduceCtorEq, implies_true, q_lc_eq, q_lc_ge, q_lc_gt, q_lc_le, lN_or, lN_and, lN_shl, lN_shr, nI_L, lN_I, l_0]
      · by_cases g2 : bf = 10
        · rw [decide_eq_false (by omega)]; simp (disch := omega) only [T_Book_mayFollow, S_Book_mayFollow, B_Book_mayFollow_12, q_lit, le_T, le_F, lt_T, lt_F, eq_T, eq_F, m1_lt, m1_le, lt_m1, le_m1, eq_m1, m1_eq, nI_add, nI_sub, nI_dec, nI_mul, nI_or, nI_and, nI_div, nI_mod, and_255, and_31, and_1, and_63, nI_shl, nI_shr, bI_F, bI_1, vp_T, cl_T, true_implies, false_implies, not_true_eq_false, not_false_eq_true, true_and, and_true, false_and, and_false, Bool.false_eq_true, Bool.true_eq_false, reduceCtorEq, implies_true, q_lc_eq, q_lc_ge, q_lc_gt, q_lc_le, lN_or, lN_and, lN_shl, lN_shr, nI_L, lN_I, l_0]
        · rw [decide_eq_true (by omega)]; simp (disch := omega) only [T_Book_mayFollow, S_Book_mayFollow, B_Book_mayFollow_12, q_lit, le_T, le_F, lt_T, lt_F, eq_T, eq_F, m1_lt, m1_le, lt_m1, le_m1, eq_m1, m1_eq, nI_add, nI_sub, nI_dec, nI_mul, nI_or, nI_and, nI_div, nI_mod, and_255, and_31, and_1, and_63, nI_shl, nI_shr, bI_F, bI_1, vp_T, cl_T, true_implies, false_implies, not_true_eq_false, not_false_eq_true, true_and, and_true, false_and, and_false, Bool.false_eq_true, Bool.true_eq_false, reduceCtorEq, implies_true, q_lc_eq, q_lc_ge, q_lc_gt, q_lc_le, lN_or, lN_and, lN_shl, lN_shr, nI_L, lN_I, l_0]
    refine ⟨1, ?_⟩
    by_cases h2 : x = 32
    · simp (disch := omega) only [q_lit, le_T, le_F, lt_T, lt_F, eq_T, eq_F, m1_lt, m1_le, lt_m1, le_m1, eq_m1, m1_eq, nI_add, nI_sub, nI_dec, nI_mul, nI_or, nI_and, nI_div, nI_mod, and_255, and_31, and_1, and_63, nI_shl, nI_shr, bI_F, bI_1, vp_T, cl_T, true_implies, false_implies, not_true_eq_false, not_false_eq_true, true_and, and_true, false_and, and_false, Bool.false_eq_true, Bool.true_eq_false, reduceCtorEq, implies_true]
      exact st
    · simp (disch := omega) only [q_lit, le_T, le_F, lt_T, lt_F, eq_T, eq_F, m1_lt, m1_le, lt_m1, le_m1, eq_m1, m1_eq, nI_add, nI_sub, nI_dec, nI_mul, nI_or, nI_and, nI_div, nI_mod, and_255, and_31, and_1, and_63, nI_shl, nI_shr, bI_F, bI_1, vp_T, cl_T, true_implies, false_implies, not_true_eq_false, not_false_eq_true, true_and, and_true, false_and, and_false, Bool.false_eq_true, Bool.true_eq_false, reduceCtorEq, implies_true]
      exact st
  · rw [if_neg h1]
    refine ⟨0, ?_⟩
    simp (disch := omega) only [q_lit, le_T, le_F, lt_T, lt_F, eq_T, eq_F, m1_lt, m1_le, lt_m1, le_m1, eq_m1, m1_eq, nI_add, nI_sub, nI_dec, nI_mul, nI_or, nI_and, nI_div, nI_mod, and_255, and_31, and_1, and_63, nI_shl, nI_shr, bI_F, bI_1, vp_T, cl_T, true_implies, false_implies, not_true_eq_false, not_false_eq_true, true_and, and_true, false_and, and_false, Bool.false_eq_true, Bool.true_eq_false, reduceCtorEq, implies_true]
    refine ⟨_, hf_typed hx, ?_⟩
    by_cases h2 : 32 ≤ x ∧ x ≤ 126
    · rw [decide_eq_true h2]
      simp (disch := omega) only [q_lit, le_T, le_F, lt_T, lt_F, eq_T, eq_F, m1_lt, m1_le, lt_m1, le_m1, eq_m1, m1_eq, nI_add, nI_sub, nI_dec, nI_mul, nI_or, nI_and, nI_div, nI_mod, and_255, and_31, and_1, and_63, nI_shl, nI_shr, bI_F, bI_1, vp_T, cl_T, true_implies, false_implies, not_true_eq_false, not_false_eq_true, true_and, and_true, false_and, and_false, Bool.false_eq_true, Bool.true_eq_false, reduceCtorEq, implies_true]
      by_cases g1 : x = 42
      · rw [decide_eq_false (by omega)]; simp (disch := omega) only [q_lit, le_T, le_F, lt_T, lt_F, eq_T, eq_F, m1_lt, m1_le, lt_m1, le_m1, eq_m1, m1_eq, nI_add, nI_sub, nI_dec, nI_mul, nI_or, nI_and, nI_div, nI_mod, and_255, and_31, and_1, and_63, nI_shl, nI_shr, bI_F, bI_1, vp_T, cl_T, true_implies, false_implies, not_true_eq_false, not_false_eq_true, true_and, and_true, false_and, and_false, Bool.false_eq_true, Bool.true_eq_false, reduceCtorEq, implies_true]
      · by_cases g2 : x = 91
        · rw [decide_eq_false (by omega)]; simp (disch := omega) only [q_lit, le_T, le_F, lt_T, lt_F, eq_T, eq_F, m1_lt, m1_le, lt_m1, le_m1, eq_m1, m1_eq, nI_add, nI_sub, nI_dec, nI_mul, nI_or, nI_and, nI_div, nI_mod, and_255, and_31, and_1, and_63, nI_shl, nI_shr, bI_F, bI_1, vp_T, cl_T, true_implies, false_implies, not_true_eq_false, not_false_eq_true, true_and, and_true, false_and, and_false, Bool.false_eq_true, Bool.true_eq_false, reduceCtorEq, implies_true]
        · by_cases g3 : x = 93
          · rw [decide_eq_false (by omega)]; simp (disch := omega) only [q_lit, le_T, le_F, lt_T, lt_F, eq_T, eq_F, m1_lt, m1_le, lt_m1, le_m1, eq_m1, m1_eq, nI_add, nI_sub, nI_dec, nI_mul, nI_or, nI_and, nI_div, nI_mod, and_255, and_31, and_1, and_63, nI_shl, nI_shr, bI_F, bI_1, vp_T, cl_T, true_implies, false_implies, not_true_eq_false, not_false_eq_true, true_and, and_true, false_and, and_false, Bool.false_eq_true, Bool.true_eq_false, reduceCtorEq, implies_true]
          · rw [decide_eq_true (by omega)]; simp (disch := omega) only [q_lit, le_T, le_F, lt_T, lt_F, eq_T, eq_F, m1_lt, m1_le, lt_m1, le_m1, eq_m1, m1_eq, nI_add, nI_sub, nI_dec, nI_mul, nI_or, nI_and, nI_div, nI_mod, and_255, and_31, and_1, and_63, nI_shl, nI_shr, bI_F, bI_1, vp_T, cl_T, true_implies, false_implies, not_true_eq_false, not_false_eq_true, true_and, and_true, false_and, and_false, Bool.false_eq_true, Bool.true_eq_false, reduceCtorEq, implies_true]
    · rw [decide_eq_false h2, decide_eq_false (by omega)]
      simp (disch := omega) only [q_lit, le_T, le_F, lt_T, lt_F, eq_T, eq_F, m1_lt, m1_le, lt_m1, le_m1, eq_m1, m1_eq, nI_add, nI_sub, nI_dec, nI_mul, nI_or, nI_and, nI_div, nI_mod, and_255, and_31, and_1, and_63, nI_shl, nI_shr, bI_F, bI_1, vp_T, cl_T, true_implies, false_implies, not_true_eq_false, not_false_eq_true, true_and, and_true, false_and, and_false, Bool.false_eq_true, Bool.true_eq_false, reduceCtorEq, implies_true]
set_option maxRecDepth 100000 in
theorem t_isBody {S BE : Nat → Int32} {BC T : Int32} {bs : List (List Nat)} (h : CB S BE BC T bs) {t : Nat} (ht : t < bs.length) (hl : (bd bs t).length ≤ 255) (p : Nat) (hp : p ≤ (bd bs t).length) (bf : Nat) (hbf : bf < 2147483648) (em : Bool) : ∃ q, T_Book_isBody 2550 S BE BC T (bOk bs.length bf em ((bd bs t).drop p)) q 0 (nI t) (nI bf) em (nI (q_off bs t + p)) (nI 0) := by
  have hend := cb_end h ht
  have hlen := cb_len h ht
  have h25 := h.len ht
  have h10 := h.2.1
  have hT := h.1
  by_cases h1 : p < (bd bs t).length
  · have hel := cb_el h ht h1
    have hv := h.v ht p
    rw [drop_s h1, bOk_cons]
    by_cases e1 : (bd bs t).getD p 0 = 1
    · rw [if_pos e1]
      obtain ⟨q, hq⟩ := t_isBody h ht hl (p + 1) h1 1 (by omega) (!em)
      refine ⟨q + 3, ?_⟩
      rw [e1] at hel
      simp (disch := omega) only [T_Book_isBody, S_Book_isBody, B_Book_isBody_12, q_lit, le_T, le_F, lt_T, lt_F, eq_T, eq_F, m1_lt, m1_le, lt_m1, le_m1, eq_m1, m1_eq, nI_add, nI_sub, nI_dec, nI_mul, nI_or, nI_and, nI_div, nI_mod, and_255, and_31, and_1, and_63, nI_shl, nI_shr, bI_F, bI_1, vp_T, cl_T, true_implies, false_implies, not_true_eq_false, not_false_eq_true, true_and, and_true, false_and, and_false, Bool.false_eq_true, Bool.true_eq_false, reduceCtorEq, implies_true, q_lc_eq, q_lc_ge, q_lc_gt, q_lc_le, lN_or, lN_and, lN_shl, lN_shr, nI_L, lN_I, l_0]
      refine ⟨_, hend, ?_⟩
      simp (disch := omega) only [q_lit, le_T, le_F, lt_T, lt_F, eq_T, eq_F, m1_lt, m1_le, lt_m1, le_m1, eq_m1, m1_eq, nI_add, nI_sub, nI_dec, nI_mul, nI_or, nI_and, nI_div, nI_mod, and_255, and_31, and_1, and_63, nI_shl, nI_shr, bI_F, bI_1, vp_T, cl_T, true_implies, false_implies, not_true_eq_false, not_false_eq_true, true_and, and_true, false_and, and_false, Bool.false_eq_true, Bool.true_eq_false, reduceCtorEq, implies_true]
      refine ⟨_, hel, ?_⟩
      cases em with
      | true =>
        simp (disch := omega) only [S_Book_isBody, B_Book_isBody_49, B_Book_isBody_111, q_lit, le_T, le_F, lt_T, lt_F, eq_T, eq_F, m1_lt, m1_le, lt_m1, le_m1, eq_m1, m1_eq, nI_add, nI_sub, nI_dec, nI_mul, nI_or, nI_and, nI_div, nI_mod, and_255, and_31, and_1, and_63, nI_shl, nI_shr, bI_F, bI_1, vp_T, cl_T, true_implies, false_implies, not_true_eq_false, not_false_eq_true, true_and, and_true, false_and, and_false, Bool.false_eq_true, Bool.true_eq_false, reduceCtorEq, implies_true]
        exact hq
      | false =>
        simp (disch := omega) only [S_Book_isBody, B_Book_isBody_49, B_Book_isBody_111, q_lit, le_T, le_F, lt_T, lt_F, eq_T, eq_F, m1_lt, m1_le, lt_m1, le_m1, eq_m1, m1_eq, nI_add, nI_sub, nI_dec, nI_mul, nI_or, nI_and, nI_div, nI_mod, and_255, and_31, and_1, and_63, nI_shl, nI_shr, bI_F, bI_1, vp_T, cl_T, true_implies, false_implies, not_true_eq_false, not_false_eq_true, true_and, and_true, false_and, and_false, Bool.false_eq_true, Bool.true_eq_false, reduceCtorEq, implies_true]
        exact hq
    · rw [if_neg e1]
      by_cases e2 : (bd bs t).getD p 0 = 2
      · rw [if_pos e2]
        rw [e2] at hel
        by_cases h2 : p + 1 < (bd bs t).length
        · have hel2 := cb_el h ht h2
          have hv2 := h.v ht (p + 1)
          rw [drop_s h2]
          simp only
          by_cases h3 : (bd bs t).getD (p + 1) 0 < bs.length
          · rw [decide_eq_true h3, Bool.true_and]
            obtain ⟨q, hq⟩ := t_isBody h ht hl (p + 2) h2 2 (by omega) em
            refine ⟨q + 2, ?_⟩
            simp (disch := omega) only [T_Book_isBody, S_Book_isBody, B_Book_isBody_12, q_lit, le_T, le_F, lt_T, lt_F, eq_T, eq_F, m1_lt, m1_le, lt_m1, le_m1, eq_m1, m1_eq, nI_add, nI_sub, nI_dec, nI_mul, nI_or, nI_and, nI_div, nI_mod, and_255, and_31, and_1, and_63, nI_shl, nI_shr, bI_F, bI_1, vp_T, cl_T, true_implies, false_implies, not_true_eq_false, not_false_eq_true, true_and, and_true, false_and, and_false, Bool.false_eq_true, Bool.true_eq_false, reduceCtorEq, implies_true, q_lc_eq, q_lc_ge, q_lc_gt, q_lc_le, lN_or, lN_and, lN_shl, lN_shr, nI_L, lN_I, l_0]
            refine ⟨_, hend, ?_⟩
            simp (disch := omega) only [q_lit, le_T, le_F, lt_T, lt_F, eq_T, eq_F, m1_lt, m1_le, lt_m1, le_m1, eq_m1, m1_eq, nI_add, nI_sub, nI_dec, nI_mul, nI_or, nI_and, nI_div, nI_mod, and_255, and_31, and_1, and_63, nI_shl, nI_shr, bI_F, bI_1, vp_T, cl_T, true_implies, false_implies, not_true_eq_false, not_false_eq_true, true_and, and_true, false_and, and_false, Bool.false_eq_true, Bool.true_eq_false, reduceCtorEq, implies_true]
            refine ⟨_, hel, ?_⟩
            simp (disch := omega) only [q_lit, le_T, le_F, lt_T, lt_F, eq_T, eq_F, m1_lt, m1_le, lt_m1, le_m1, eq_m1, m1_eq, nI_add, nI_sub, nI_dec, nI_mul, nI_or, nI_and, nI_div, nI_mod, and_255, and_31, and_1, and_63, nI_shl, nI_shr, bI_F, bI_1, vp_T, cl_T, true_implies, false_implies, not_true_eq_false, not_false_eq_true, true_and, and_true, false_and, and_false, Bool.false_eq_true, Bool.true_eq_false, reduceCtorEq, implies_true]
            refine ⟨_, hend, ?_⟩
            simp (disch := omega) only [q_lit, le_T, le_F, lt_T, lt_F, eq_T, eq_F, m1_lt, m1_le, lt_m1, le_m1, eq_m1, m1_eq, nI_add, nI_sub, nI_dec, nI_mul, nI_or, nI_and, nI_div, nI_mod, and_255, and_31, and_1, and_63, nI_shl, nI_shr, bI_F, bI_1, vp_T, cl_T, true_implies, false_implies, not_true_eq_false, not_false_eq_true, true_and, and_true, false_and, and_false, Bool.false_eq_true, Bool.true_eq_false, reduceCtorEq, implies_true]
            refine ⟨_, hel2, ?_⟩
            rw [hT]
            simp (disch := omega) only [S_Book_isBody, B_Book_isBody_111, q_lit, le_T, le_F, lt_T, lt_F, eq_T, eq_F, m1_lt, m1_le, lt_m1, le_m1, eq_m1, m1_eq, nI_add, nI_sub, nI_dec, nI_mul, nI_or, nI_and, nI_div, nI_mod, and_255, and_31, and_1, and_63, nI_shl, nI_shr, bI_F, bI_1, vp_T, cl_T, true_implies, false_implies, not_true_eq_false, not_false_eq_true, true_and, and_true, false_and, and_false, Bool.false_eq_true, Bool.true_eq_false, reduceCtorEq, implies_true]
            rw [hT] at hq
            exact hq
          · rw [decide_eq_false h3, Bool.false_and]
            refine ⟨1, ?_⟩
            simp (disch := omega) only [T_Book_isBody, S_Book_isBody, B_Book_isBody_12, q_lit, le_T, le_F, lt_T, lt_F, eq_T, eq_F, m1_lt, m1_le, lt_m1, le_m1, eq_m1, m1_eq, nI_add, nI_sub, nI_dec, nI_mul, nI_or, nI_and, nI_div, nI_mod, and_255, and_31, and_1, and_63, nI_shl, nI_shr, bI_F, bI_1, vp_T, cl_T, true_implies, false_implies, not_true_eq_false, not_false_eq_true, true_and, and_true, false_and, and_false, Bool.false_eq_true, Bool.true_eq_false, reduceCtorEq, implies_true, q_lc_eq, q_lc_ge, q_lc_gt, q_lc_le, lN_or, lN_and, lN_shl, lN_shr, nI_L, lN_I, l_0]
            refine ⟨_, hend, ?_⟩
            simp (disch := omega) only [q_lit, le_T, le_F, lt_T, lt_F, eq_T, eq_F, m1_lt, m1_le, lt_m1, le_m1, eq_m1, m1_eq, nI_add, nI_sub, nI_dec, nI_mul, nI_or, nI_and, nI_div, nI_mod, and_255, and_31, and_1, and_63, nI_shl, nI_shr, bI_F, bI_1, vp_T, cl_T, true_implies, false_implies, not_true_eq_false, not_false_eq_true, true_and, and_true, false_and, and_false, Bool.false_eq_true, Bool.true_eq_false, reduceCtorEq, implies_true]
            refine ⟨_, hel, ?_⟩
            simp (disch := omega) only [q_lit, le_T, le_F, lt_T, lt_F, eq_T, eq_F, m1_lt, m1_le, lt_m1, le_m1, eq_m1, m1_eq, nI_add, nI_sub, nI_dec, nI_mul, nI_or, nI_and, nI_div, nI_mod, and_255, and_31, and_1, and_63, nI_shl, nI_shr, bI_F, bI_1, vp_T, cl_T, true_implies, false_implies, not_true_eq_false, not_false_eq_true, true_and, and_true, false_and, and_false, Bool.false_eq_true, Bool.true_eq_false, reduceCtorEq, implies_true]
            refine ⟨_, hend, ?_⟩
            simp (disch := omega) only [q_lit, le_T, le_F, lt_T, lt_F, eq_T, eq_F, m1_lt, m1_le, lt_m1, le_m1, eq_m1, m1_eq, nI_add, nI_sub, nI_dec, nI_mul, nI_or, nI_and, nI_div, nI_mod, and_255, and_31, and_1, and_63, nI_shl, nI_shr, bI_F, bI_1, vp_T, cl_T, true_implies, false_implies, not_true_eq_false, not_false_eq_true, true_and, and_true, false_and, and_false, Bool.false_eq_true, Bool.true_eq_false, reduceCtorEq, implies_true]
            refine ⟨_, hel2, ?_⟩
            rw [hT]
            simp (disch := omega) only [q_lit, le_T, le_F, lt_T, lt_F, eq_T, eq_F, m1_lt, m1_le, lt_m1, le_m1, eq_m1, m1_eq, nI_add, nI_sub, nI_dec, nI_mul, nI_or, nI_and, nI_div, nI_mod, and_255, and_31, and_1, and_63, nI_shl, nI_shr, bI_F, bI_1, vp_T, cl_T, true_implies, false_implies, not_true_eq_false, not_false_eq_true, true_and, and_true, false_and, and_false, Bool.false_eq_true, Bool.true_eq_false, reduceCtorEq, implies_true]
        · rw [List.drop_eq_nil_of_le (show (bd bs t).length ≤ p + 1 by omega)]
          simp only
          refine ⟨1, ?_⟩
          simp (disch := omega) only [T_Book_isBody, S_Book_isBody, B_Book_isBody_12, q_lit, le_T, le_F, lt_T, lt_F, eq_T, eq_F, m1_lt, m1_le, lt_m1, le_m1, eq_m1, m1_eq, nI_add, nI_sub, nI_dec, nI_mul, nI_or, nI_and, nI_div, nI_mod, and_255, and_31, and_1, and_63, nI_shl, nI_shr, bI_F, bI_1, vp_T, cl_T, true_implies, false_implies, not_true_eq_false, not_false_eq_true, true_and, and_true, false_and, and_false, Bool.false_eq_true, Bool.true_eq_false, reduceCtorEq, implies_true, q_lc_eq, q_lc_ge, q_lc_gt, q_lc_le, lN_or, lN_and, lN_shl, lN_shr, nI_L, lN_I, l_0]
          refine ⟨_, hend, ?_⟩
          simp (disch := omega) only [q_lit, le_T, le_F, lt_T, lt_F, eq_T, eq_F, m1_lt, m1_le, lt_m1, le_m1, eq_m1, m1_eq, nI_add, nI_sub, nI_dec, nI_mul, nI_or, nI_and, nI_div, nI_mod, and_255, and_31, and_1, and_63, nI_shl, nI_shr, bI_F, bI_1, vp_T, cl_T, true_implies, false_implies, not_true_eq_false, not_false_eq_true, true_and, and_true, false_and, and_false, Bool.false_eq_true, Bool.true_eq_false, reduceCtorEq, implies_true]
          refine ⟨_, hel, ?_⟩
          simp (disch := omega) only [q_lit, le_T, le_F, lt_T, lt_F, eq_T, eq_F, m1_lt, m1_le, lt_m1, le_m1, eq_m1, m1_eq, nI_add, nI_sub, nI_dec, nI_mul, nI_or, nI_and, nI_div, nI_mod, and_255, and_31, and_1, and_63, nI_shl, nI_shr, bI_F, bI_1, vp_T, cl_T, true_implies, false_implies, not_true_eq_false, not_false_eq_true, true_and, and_true, false_and, and_false, Bool.false_eq_true, Bool.true_eq_false, reduceCtorEq, implies_true]
          refine ⟨_, hend, ?_⟩
          simp (disch := omega) only [q_lit, le_T, le_F, lt_T, lt_F, eq_T, eq_F, m1_lt, m1_le, lt_m1, le_m1, eq_m1, m1_eq, nI_add, nI_sub, nI_dec, nI_mul, nI_or, nI_and, nI_div, nI_mod, and_255, and_31, and_1, and_63, nI_shl, nI_shr, bI_F, bI_1, vp_T, cl_T, true_implies, false_implies, not_true_eq_false, not_false_eq_true, true_and, and_true, false_and, and_false, Bool.false_eq_true, Bool.true_eq_false, reduceCtorEq, implies_true]
      · rw [if_neg e2]
        have hmf := cb_may (bf := bf) (x := (bd bs t).getD p 0) hbf hv
        cases hm : mayF bf ((bd bs t).getD p 0) with
        | false =>
          rw [hm] at hmf
          simp only [Bool.false_and]
          refine ⟨1, ?_⟩
          simp (disch := omega) only [T_Book_isBody, S_Book_isBody, B_Book_isBody_12, q_lit, le_T, le_F, lt_T, lt_F, eq_T, eq_F, m1_lt, m1_le, lt_m1, le_m1, eq_m1, m1_eq, nI_add, nI_sub, nI_dec, nI_mul, nI_or, nI_and, nI_div, nI_mod, and_255, and_31, and_1, and_63, nI_shl, nI_shr, bI_F, bI_1, vp_T, cl_T, true_implies, false_implies, not_true_eq_false, not_false_eq_true, true_and, and_true, false_and, and_false, Bool.false_eq_true, Bool.true_eq_false, reduceCtorEq, implies_true, q_lc_eq, q_lc_ge, q_lc_gt, q_lc_le, lN_or, lN_and, lN_shl, lN_shr, nI_L, lN_I, l_0]
          refine ⟨_, hend, ?_⟩
          simp (disch := omega) only [q_lit, le_T, le_F, lt_T, lt_F, eq_T, eq_F, m1_lt, m1_le, lt_m1, le_m1, eq_m1, m1_eq, nI_add, nI_sub, nI_dec, nI_mul, nI_or, nI_and, nI_div, nI_mod, and_255, and_31, and_1, and_63, nI_shl, nI_shr, bI_F, bI_1, vp_T, cl_T, true_implies, false_implies, not_true_eq_false, not_false_eq_true, true_and, and_true, false_and, and_false, Bool.false_eq_true, Bool.true_eq_false, reduceCtorEq, implies_true]
          refine ⟨_, hel, ?_⟩
          simp (disch := omega) only [q_lit, le_T, le_F, lt_T, lt_F, eq_T, eq_F, m1_lt, m1_le, lt_m1, le_m1, eq_m1, m1_eq, nI_add, nI_sub, nI_dec, nI_mul, nI_or, nI_and, nI_div, nI_mod, and_255, and_31, and_1, and_63, nI_shl, nI_shr, bI_F, bI_1, vp_T, cl_T, true_implies, false_implies, not_true_eq_false, not_false_eq_true, true_and, and_true, false_and, and_false, Bool.false_eq_true, Bool.true_eq_false, reduceCtorEq, implies_true]
          refine ⟨_, hmf, ?_⟩
          simp (disch := omega) only [q_lit, le_T, le_F, lt_T, lt_F, eq_T, eq_F, m1_lt, m1_le, lt_m1, le_m1, eq_m1, m1_eq, nI_add, nI_sub, nI_dec, nI_mul, nI_or, nI_and, nI_div, nI_mod, and_255, and_31, and_1, and_63, nI_shl, nI_shr, bI_F, bI_1, vp_T, cl_T, true_implies, false_implies, not_true_eq_false, not_false_eq_true, true_and, and_true, false_and, and_false, Bool.false_eq_true, Bool.true_eq_false, reduceCtorEq, implies_true]
        | true =>
          rw [hm] at hmf
          simp only [Bool.true_and]
          by_cases e3 : (bd bs t).getD p 0 = 10
          · cases em with
            | true =>
              rw [decide_eq_true e3]
              simp only [Bool.true_and, Bool.not_true, Bool.false_and]
              refine ⟨1, ?_⟩
              simp (disch := omega) only [T_Book_isBody, S_Book_isBody, B_Book_isBody_12, q_lit, le_T, le_F, lt_T, lt_F, eq_T, eq_F, m1_lt, m1_le, lt_m1, le_m1, eq_m1, m1_eq, nI_add, nI_sub, nI_dec, nI_mul, nI_or, nI_and, nI_div, nI_mod, and_255, and_31, and_1, and_63, nI_shl, nI_shr, bI_F, bI_1, vp_T, cl_T, true_implies, false_implies, not_true_eq_false, not_false_eq_true, true_and, and_true, false_and, and_false, Bool.false_eq_true, Bool.true_eq_false, reduceCtorEq, implies_true, q_lc_eq, q_lc_ge, q_lc_gt, q_lc_le, lN_or, lN_and, lN_shl, lN_shr, nI_L, lN_I, l_0]
              refine ⟨_, hend, ?_⟩
              simp (disch := omega) only [q_lit, le_T, le_F, lt_T, lt_F, eq_T, eq_F, m1_lt, m1_le, lt_m1, le_m1, eq_m1, m1_eq, nI_add, nI_sub, nI_dec, nI_mul, nI_or, nI_and, nI_div, nI_mod, and_255, and_31, and_1, and_63, nI_shl, nI_shr, bI_F, bI_1, vp_T, cl_T, true_implies, false_implies, not_true_eq_false, not_false_eq_true, true_and, and_true, false_and, and_false, Bool.false_eq_true, Bool.true_eq_false, reduceCtorEq, implies_true]
              refine ⟨_, hel, ?_⟩
              simp (disch := omega) only [q_lit, le_T, le_F, lt_T, lt_F, eq_T, eq_F, m1_lt, m1_le, lt_m1, le_m1, eq_m1, m1_eq, nI_add, nI_sub, nI_dec, nI_mul, nI_or, nI_and, nI_div, nI_mod, and_255, and_31, and_1, and_63, nI_shl, nI_shr, bI_F, bI_1, vp_T, cl_T, true_implies, false_implies, not_true_eq_false, not_false_eq_true, true_and, and_true, false_and, and_false, Bool.false_eq_true, Bool.true_eq_false, reduceCtorEq, implies_true]
              exact ⟨_, hmf⟩
            | false =>
              simp only [Bool.and_false, Bool.not_false, Bool.true_and]
              obtain ⟨q, hq⟩ := t_isBody h ht hl (p + 1) h1 ((bd bs t).getD p 0) hv false
              refine ⟨q + 2, ?_⟩
              simp (disch := omega) only [T_Book_isBody, S_Book_isBody, B_Book_isBody_12, q_lit, le_T, le_F, lt_T, lt_F, eq_T, eq_F, m1_lt, m1_le, lt_m1, le_m1, eq_m1, m1_eq, nI_add, nI_sub, nI_dec, nI_mul, nI_or, nI_and, nI_div, nI_mod, and_255, and_31, and_1, and_63, nI_shl, nI_shr, bI_F, bI_1, vp_T, cl_T, true_implies, false_implies, not_true_eq_false, not_false_eq_true, true_and, and_true, false_and, and_false, Bool.false_eq_true, Bool.true_eq_false, reduceCtorEq, implies_true, q_lc_eq, q_lc_ge, q_lc_gt, q_lc_le, lN_or, lN_and, lN_shl, lN_shr, nI_L, lN_I, l_0]
              refine ⟨_, hend, ?_⟩
              simp (disch := omega) only [q_lit, le_T, le_F, lt_T, lt_F, eq_T, eq_F, m1_lt, m1_le, lt_m1, le_m1, eq_m1, m1_eq, nI_add, nI_sub, nI_dec, nI_mul, nI_or, nI_and, nI_div, nI_mod, and_255, and_31, and_1, and_63, nI_shl, nI_shr, bI_F, bI_1, vp_T, cl_T, true_implies, false_implies, not_true_eq_false, not_false_eq_true, true_and, and_true, false_and, and_false, Bool.false_eq_true, Bool.true_eq_false, reduceCtorEq, implies_true]
              refine ⟨_, hel, ?_⟩
              simp (disch := omega) only [q_lit, le_T, le_F, lt_T, lt_F, eq_T, eq_F, m1_lt, m1_le, lt_m1, le_m1, eq_m1, m1_eq, nI_add, nI_sub, nI_dec, nI_mul, nI_or, nI_and, nI_div, nI_mod, and_255, and_31, and_1, and_63, nI_shl, nI_shr, bI_F, bI_1, vp_T, cl_T, true_implies, false_implies, not_true_eq_false, not_false_eq_true, true_and, and_true, false_and, and_false, Bool.false_eq_true, Bool.true_eq_false, reduceCtorEq, implies_true]
              refine ⟨_, hmf, ?_⟩
              simp (disch := omega) only [S_Book_isBody, B_Book_isBody_111, q_lit, le_T, le_F, lt_T, lt_F, eq_T, eq_F, m1_lt, m1_le, lt_m1, le_m1, eq_m1, m1_eq, nI_add, nI_sub, nI_dec, nI_mul, nI_or, nI_and, nI_div, nI_mod, and_255, and_31, and_1, and_63, nI_shl, nI_shr, bI_F, bI_1, vp_T, cl_T, true_implies, false_implies, not_true_eq_false, not_false_eq_true, true_and, and_true, false_and, and_false, Bool.false_eq_true, Bool.true_eq_false, reduceCtorEq, implies_true]
              exact hq
          · rw [decide_eq_false e3]
            simp only [Bool.false_and, Bool.not_false, Bool.true_and]
            obtain ⟨q, hq⟩ := t_isBody h ht hl (p + 1) h1 ((bd bs t).getD p 0) hv em
            refine ⟨q + 2, ?_⟩
            simp (disch := omega) only [T_Book_isBody, S_Book_isBody, B_Book_isBody_12, q_lit, le_T, le_F, lt_T, lt_F, eq_T, eq_F, m1_lt, m1_le, lt_m1, le_m1, eq_m1, m1_eq, nI_add, nI_sub, nI_dec, nI_mul, nI_or, nI_and, nI_div, nI_mod, and_255, and_31, and_1, and_63, nI_shl, nI_shr, bI_F, bI_1, vp_T, cl_T, true_implies, false_implies, not_true_eq_false, not_false_eq_true, true_and, and_true, false_and, and_false, Bool.false_eq_true, Bool.true_eq_false, reduceCtorEq, implies_true, q_lc_eq, q_lc_ge, q_lc_gt, q_lc_le, lN_or, lN_and, lN_shl, lN_shr, nI_L, lN_I, l_0]
            refine ⟨_, hend, ?_⟩
            simp (disch := omega) only [q_lit, le_T, le_F, lt_T, lt_F, eq_T, eq_F, m1_lt, m1_le, lt_m1, le_m1, eq_m1, m1_eq, nI_add, nI_sub, nI_dec, nI_mul, nI_or, nI_and, nI_div, nI_mod, and_255, and_31, and_1, and_63, nI_shl, nI_shr, bI_F, bI_1, vp_T, cl_T, true_implies, false_implies, not_true_eq_false, not_false_eq_true, true_and, and_true, false_and, and_false, Bool.false_eq_true, Bool.true_eq_false, reduceCtorEq, implies_true]
            refine ⟨_, hel, ?_⟩
            simp (disch := omega) only [q_lit, le_T, le_F, lt_T, lt_F, eq_T, eq_F, m1_lt, m1_le, lt_m1, le_m1, eq_m1, m1_eq, nI_add, nI_sub, nI_dec, nI_mul, nI_or, nI_and, nI_div, nI_mod, and_255, and_31, and_1, and_63, nI_shl, nI_shr, bI_F, bI_1, vp_T, cl_T, true_implies, false_implies, not_true_eq_false, not_false_eq_true, true_and, and_true, false_and, and_false, Bool.false_eq_true, Bool.true_eq_false, reduceCtorEq, implies_true]
            refine ⟨_, hmf, ?_⟩
            simp (disch := omega) only [S_Book_isBody, B_Book_isBody_111, q_lit, le_T, le_F, lt_T, lt_F, eq_T, eq_F, m1_lt, m1_le, lt_m1, le_m1, eq_m1, m1_eq, nI_add, nI_sub, nI_dec, nI_mul, nI_or, nI_and, nI_div, nI_mod, and_255, and_31, and_1, and_63, nI_shl, nI_shr, bI_F, bI_1, vp_T, cl_T, true_implies, false_implies, not_true_eq_false, not_false_eq_true, true_and, and_true, false_and, and_false, Bool.false_eq_true, Bool.true_eq_false, reduceCtorEq, implies_true]
            exact hq
  · rw [List.drop_eq_nil_of_le (by omega), bOk]
    refine ⟨1, ?_⟩
    by_cases h2 : bf = 10
    · rw [decide_eq_true h2]
      simp (disch := omega) only [T_Book_isBody, S_Book_isBody, B_Book_isBody_12, q_lit, le_T, le_F, lt_T, lt_F, eq_T, eq_F, m1_lt, m1_le, lt_m1, le_m1, eq_m1, m1_eq, nI_add, nI_sub, nI_dec, nI_mul, nI_or, nI_and, nI_div, nI_mod, and_255, and_31, and_1, and_63, nI_shl, nI_shr, bI_F, bI_1, vp_T, cl_T, true_implies, false_implies, not_true_eq_false, not_false_eq_true, true_and, and_true, false_and, and_false, Bool.false_eq_true, Bool.true_eq_false, reduceCtorEq, implies_true, q_lc_eq, q_lc_ge, q_lc_gt, q_lc_le, lN_or, lN_and, lN_shl, lN_shr, nI_L, lN_I, l_0]
      refine ⟨_, hend, ?_⟩
      simp (disch := omega) only [q_lit, le_T, le_F, lt_T, lt_F, eq_T, eq_F, m1_lt, m1_le, lt_m1, le_m1, eq_m1, m1_eq, nI_add, nI_sub, nI_dec, nI_mul, nI_or, nI_and, nI_div, nI_mod, and_255, and_31, and_1, and_63, nI_shl, nI_shr, bI_F, bI_1, vp_T, cl_T, true_implies, false_implies, not_true_eq_false, not_false_eq_true, true_and, and_true, false_and, and_false, Bool.false_eq_true, Bool.true_eq_false, reduceCtorEq, implies_true]
      refine ⟨_, hlen, ?_⟩
      simp (disch := omega) only [q_lit, le_T, le_F, lt_T, lt_F, eq_T, eq_F, m1_lt, m1_le, lt_m1, le_m1, eq_m1, m1_eq, nI_add, nI_sub, nI_dec, nI_mul, nI_or, nI_and, nI_div, nI_mod, and_255, and_31, and_1, and_63, nI_shl, nI_shr, bI_F, bI_1, vp_T, cl_T, true_implies, false_implies, not_true_eq_false, not_false_eq_true, true_and, and_true, false_and, and_false, Bool.false_eq_true, Bool.true_eq_false, reduceCtorEq, implies_true]
    · rw [decide_eq_false h2]
      simp (disch := omega) only [T_Book_isBody, S_Book_isBody, B_Book_isBody_12, q_lit, le_T, le_F, lt_T, lt_F, eq_T, eq_F, m1_lt, m1_le, lt_m1, le_m1, eq_m1, m1_eq, nI_add, nI_sub, nI_dec, nI_mul, nI_or, nI_and, nI_div, nI_mod, and_255, and_31, and_1, and_63, nI_shl, nI_shr, bI_F, bI_1, vp_T, cl_T, true_implies, false_implies, not_true_eq_false, not_false_eq_true, true_and, and_true, false_and, and_false, Bool.false_eq_true, Bool.true_eq_false, reduceCtorEq, implies_true, q_lc_eq, q_lc_ge, q_lc_gt, q_lc_le, lN_or, lN_and, lN_shl, lN_shr, nI_L, lN_I, l_0]
      refine ⟨_, hend, ?_⟩
      simp (disch := omega) only [q_lit, le_T, le_F, lt_T, lt_F, eq_T, eq_F, m1_lt, m1_le, lt_m1, le_m1, eq_m1, m1_eq, nI_add, nI_sub, nI_dec, nI_mul, nI_or, nI_and, nI_div, nI_mod, and_255, and_31, and_1, and_63, nI_shl, nI_shr, bI_F, bI_1, vp_T, cl_T, true_implies, false_implies, not_true_eq_false, not_false_eq_true, true_and, and_true, false_and, and_false, Bool.false_eq_true, Bool.true_eq_false, reduceCtorEq, implies_true]
termination_by (bd bs t).length - p
decreasing_by all_goals omega
theorem cb_isBody {S BE : Nat → Int32} {BC T : Int32} {bs : List (List Nat)} (h : CB S BE BC T bs) {t : Nat} (ht : t < bs.length) (hl : (bd bs t).length ≤ 255) : D_Book_isBody 2550 (nI t) S BE BC T (bOk bs.length 10 false (bd bs t)) := by
  obtain ⟨q, hq⟩ := t_isBody h ht hl 0 (by omega) 10 (by omega) false
  exact ⟨q, _, cb_start h ht, by simpa [q_lit] using hq⟩
def NmW (ns : List (List Nat)) : Prop := ∀ v ∈ ns, q_Wd v ∧ v.length ≤ 6
set_option maxRecDepth 100000 in
theorem t_named2 {bN : Nat → Int64} {ns : List (List Nat)} (hl : ns.length ≤ 10) (hN : ∀ t, t < ns.length → bN t = lN (enc (bd ns t))) (hok : NmW ns) {w : List Nat} (hw : q_Wd w) (hwl : w.length ≤ 12) (t : Nat) (ht : t ≤ ns.length) : ∃ m, T_Book_topicNamed bN (nI ns.length) (oI (nmAt w (ns.drop t) t)) m (lN (enc w)) (nI t) := by
  by_cases h : t < ns.length
  · have e := hN t h
    have hv := hok _ (bd_mem h)
    have a1 := enc_lt w
    have a2 := enc_lt (bd ns t)
    rw [nmAt_drop h]
    by_cases h1 : bd ns t = w
    · rw [if_pos h1]
      refine ⟨1, ?_⟩
      simp (disch := omega) only [T_Book_topicNamed, S_Book_topicNamed, B_Book_topicNamed_2, e, h1, oI, q_lit, le_T, le_F, lt_T, lt_F, eq_T, eq_F, m1_lt, m1_le, lt_m1, le_m1, eq_m1, m1_eq, nI_add, nI_sub, nI_dec, nI_mul, nI_or, nI_and, nI_div, nI_mod, and_255, and_31, and_1, and_63, nI_shl, nI_shr, bI_F, bI_1, vp_T, cl_T, true_implies, false_implies, not_true_eq_false, not_false_eq_true, true_and, and_true, false_and, and_false, Bool.false_eq_true, Bool.true_eq_false, reduceCtorEq, implies_true, q_lc_eq, q_lc_ge, q_lc_gt, q_lc_le, lN_or, lN_and, lN_shl, lN_shr, nI_L, lN_I, l_0]
    · rw [if_neg h1]
      obtain ⟨m, hm⟩ := t_named2 hl hN hok hw hwl (t + 1) h
      have h2 : ¬ enc (bd ns t) = enc w := fun h3 => h1 (enc_inj hv.1 hw (by omega) hwl h3)
      refine ⟨m + 1, ?_⟩
      simp (disch := omega) only [T_Book_topicNamed, S_Book_topicNamed, B_Book_topicNamed_2, e, h2, q_lit, le_T, le_F, lt_T, lt_F, eq_T, eq_F, m1_lt, m1_le, lt_m1, le_m1, eq_m1, m1_eq, nI_add, nI_sub, nI_dec, nI_mul, nI_or, nI_and, nI_div, nI_mod, and_255, and_31, and_1, and_63, nI_shl, nI_shr, bI_F, bI_1, vp_T, cl_T, true_implies, false_implies, not_true_eq_false, not_false_eq_true, true_and, and_true, false_and, and_false, Bool.false_eq_true, Bool.true_eq_false, reduceCtorEq, implies_true, q_lc_eq, q_lc_ge, q_lc_gt, q_lc_le, lN_or, lN_and, lN_shl, lN_shr, nI_L, lN_I, l_0]
      exact hm
  · refine ⟨1, ?_⟩
    rw [List.drop_eq_nil_of_le (by omega)]
    simp (disch := omega) only [T_Book_topicNamed, S_Book_topicNamed, B_Book_topicNamed_2, nmAt, oI, q_lit, le_T, le_F, lt_T, lt_F, eq_T, eq_F, m1_lt, m1_le, lt_m1, le_m1, eq_m1, m1_eq, nI_add, nI_sub, nI_dec, nI_mul, nI_or, nI_and, nI_div, nI_mod, and_255, and_31, and_1, and_63, nI_shl, nI_shr, bI_F, bI_1, vp_T, cl_T, true_implies, false_implies, not_true_eq_false, not_false_eq_true, true_and, and_true, false_and, and_false, Bool.false_eq_true, Bool.true_eq_false, reduceCtorEq, implies_true, q_lc_eq, q_lc_ge, q_lc_gt, q_lc_le, lN_or, lN_and, lN_shl, lN_shr, nI_L, lN_I, l_0]
termination_by ns.length - t
decreasing_by all_goals omega
theorem cb_named2 {bN : Nat → Int64} {ns : List (List Nat)} (hl : ns.length ≤ 10) (hN : ∀ t, t < ns.length → bN t = lN (enc (bd ns t))) (hok : NmW ns) {w : List Nat} (hw : q_Wd w) (hwl : w.length ≤ 12) : D_Book_topicNamed (lN (enc w)) bN (nI ns.length) (oI (nmAt w ns 0)) := by
  have := t_named2 hl hN hok hw hwl 0 (by omega)
  simpa [D_Book_topicNamed, q_lit] using this
theorem enc_0 {w : List Nat} (hw : q_Wd w) : enc w = 0 ↔ w = [] := by
  constructor
  · intro h
    cases w with
    | nil => rfl
    | cons x r =>
      have h1 := hw x (by simp)
      have := encA_pos (p := 12) (w := r) (x := x) (by omega) (by omega)
      exfalso
      unfold enc at h; omega
  · intro h; rw [h]; rfl
/-- a book as it is read -/
def RdOk (ns bs : List (List Nat)) (ks : q_M2) : Prop := ns.length = bs.length ∧ 1 ≤ bs.length ∧ bs.length ≤ 10 ∧ NmW ns ∧ (∀ b ∈ bs, q_By b ∧ b.length ≤ 255) ∧ Srt (codes ks) ∧ ∀ e ∈ ks, q_Wd e.1 ∧ e.1.length ≤ 8 ∧ e.2 < 65536
def q_PT (ns bs : List (List Nat)) (t : Nat) : Prop := bd ns t ≠ [] ∧ nmAt (bd ns t) ns 0 = some t ∧ bOk bs.length 10 false (bd bs t) = true
def q_PK (n : Nat) (ks : q_M2) (k : Nat) : Prop := mw ks k ≠ [] ∧ 1 ≤ mb ks k ∧ mb ks k < 2 ^ n
theorem lz {a : Nat} (h : a < 1152921504606846976) : (lg_cmp (lN a) 0 = nI 0) = (a = 0) := by
  rw [l_0, q_lc_eq (by omega) (by omega)]
set_option maxRecDepth 100000 in
theorem of1 {N : Nat → Int64} {S BE : Nat → Int32} {BC : Int32} {KW : Nat → Int64} {KT : Nat → Int32} {KC T : Int32} {ns bs : List (List Nat)} {ks : q_M2} (h : q_DB N S BE BC KW KT KC T ns bs ks) (hr : RdOk ns bs ks) (k : Nat) (hk : k ≤ ks.length) : ∃ res, (∃ q, T_Book_isOfSource 2550 252 N S BE BC KW KT KC T res q 1 (nI k)) ∧ (res = true ↔ (∀ j, k ≤ j → j < ks.length → q_PK bs.length ks j) ∧ ks.length ≤ 250) := by
  obtain ⟨d1, d2, d3, d4, d5⟩ := h
  obtain ⟨r1, r2, r3, r4, r5, r6, r7⟩ := hr
  have hT := d1.1
  have hK : KC = nI ks.length := by rw [d4.1, codes_len2]
  have hK2 : ks.length ≤ 252 := by have := d4.2.1; rw [codes_len2] at this; exact this
  have hev : ((nI 1 <<< (T &&& nI 31)) - nI 1 : Int32) = nI (2 ^ bs.length - 1) := by
    rw [hT]
    have : bs.length % 32 = bs.length := Nat.mod_eq_of_lt (by omega)
    simp (disch := omega) only [this, q_lit, le_T, le_F, lt_T, lt_F, eq_T, eq_F, m1_lt, m1_le, lt_m1, le_m1, eq_m1, m1_eq, nI_add, nI_sub, nI_dec, nI_mul, nI_or, nI_and, nI_div, nI_mod, and_255, and_31, and_1, and_63, nI_shl, nI_shr, bI_F, bI_1, vp_T, cl_T, true_implies, false_implies, not_true_eq_false, not_false_eq_true, true_and, and_true, false_and, and_false, Bool.false_eq_true, Bool.true_eq_false, reduceCtorEq, implies_true]
    have h2 : 1 ≤ 1 <<< bs.length := (shl_lt (t := bs.length) (n := bs.length + 1) (by omega)).1
    rw [nI_sub h2, Nat.one_shiftLeft]
  have h2p : 2 ^ bs.length ≤ 1024 := Nat.le_trans (Nat.pow_le_pow_right (by omega) r3) (by decide)
  have h2q : 1 ≤ 2 ^ bs.length := Nat.one_le_two_pow
  by_cases h1 : k < ks.length
  · have hw := wl_wordM d4 h1
    have ht := wl_topicsM d4 h1
    obtain ⟨e1, e2, e3⟩ := r7 _ (mget h1)
    have e3' : mb ks k < 65536 := e3
    have he := enc_lt (mw ks k)
    by_cases g1 : mw ks k = []
    · refine ⟨false, ⟨1, ?_⟩, by simp only [Bool.false_eq_true, false_iff]; intro h9; exact (h9.1 k (Nat.le_refl _) h1).1 g1⟩
      rw [T_Book_isOfSource]
      simp (disch := omega) only [S_Book_isOfSource, B_Book_isOfSource_53, hK, q_lit, le_T, le_F, lt_T, lt_F, eq_T, eq_F, m1_lt, m1_le, lt_m1, le_m1, eq_m1, m1_eq, nI_add, nI_sub, nI_dec, nI_mul, nI_or, nI_and, nI_div, nI_mod, and_255, and_31, and_1, and_63, nI_shl, nI_shr, bI_F, bI_1, vp_T, cl_T, true_implies, false_implies, not_true_eq_false, not_false_eq_true, true_and, and_true, false_and, and_false, Bool.false_eq_true, Bool.true_eq_false, reduceCtorEq, implies_true]
      refine ⟨_, hK ▸ ht, _, hK ▸ hw, ?_⟩
      simp only [← q_lit]
      rw [show (lg_cmp (lN (enc (mw ks k))) 0 = 0) = (enc (mw ks k) = 0) by simpa only [q_lit] using lz he, (enc_0 e1).mpr g1]
      simp
    · have g1' : ¬ enc (mw ks k) = 0 := fun h9 => g1 ((enc_0 e1).mp h9)
      by_cases g2 : mb ks k = 0
      · refine ⟨false, ⟨1, ?_⟩, by simp only [Bool.false_eq_true, false_iff]; intro h9; have := (h9.1 k (Nat.le_refl _) h1).2.1; omega⟩
        rw [T_Book_isOfSource]
        simp (disch := omega) only [S_Book_isOfSource, B_Book_isOfSource_53, hK, q_lit, le_T, le_F, lt_T, lt_F, eq_T, eq_F, m1_lt, m1_le, lt_m1, le_m1, eq_m1, m1_eq, nI_add, nI_sub, nI_dec, nI_mul, nI_or, nI_and, nI_div, nI_mod, and_255, and_31, and_1, and_63, nI_shl, nI_shr, bI_F, bI_1, vp_T, cl_T, true_implies, false_implies, not_true_eq_false, not_false_eq_true, true_and, and_true, false_and, and_false, Bool.false_eq_true, Bool.true_eq_false, reduceCtorEq, implies_true]
        refine ⟨_, hK ▸ ht, _, hK ▸ hw, ?_⟩
        simp only [show (lg_cmp (lN (enc (mw ks k))) 0 = nI 0) = False by rw [lz he]; exact eq_false g1']
        simp (disch := omega) only [q_lit, le_T, le_F, lt_T, lt_F, eq_T, eq_F, m1_lt, m1_le, lt_m1, le_m1, eq_m1, m1_eq, nI_add, nI_sub, nI_dec, nI_mul, nI_or, nI_and, nI_div, nI_mod, and_255, and_31, and_1, and_63, nI_shl, nI_shr, bI_F, bI_1, vp_T, cl_T, true_implies, false_implies, not_true_eq_false, not_false_eq_true, true_and, and_true, false_and, and_false, Bool.false_eq_true, Bool.true_eq_false, reduceCtorEq, implies_true]
      · by_cases g3 : mb ks k < 2 ^ bs.length
        · obtain ⟨res, ⟨q, hq⟩, hi⟩ := of1 ⟨d1, d2, d3, d4, d5⟩ ⟨r1, r2, r3, r4, r5, r6, r7⟩ (k + 1) h1
          refine ⟨res, ⟨q + 1, ?_⟩, ?_⟩
          · rw [T_Book_isOfSource]
            simp only [S_Book_isOfSource, B_Book_isOfSource_53]
            rw [hK] at hq ⊢
            simp (disch := omega) only [q_lit, le_T, le_F, lt_T, lt_F, eq_T, eq_F, m1_lt, m1_le, lt_m1, le_m1, eq_m1, m1_eq, nI_add, nI_sub, nI_dec, nI_mul, nI_or, nI_and, nI_div, nI_mod, and_255, and_31, and_1, and_63, nI_shl, nI_shr, bI_F, bI_1, vp_T, cl_T, true_implies, false_implies, not_true_eq_false, not_false_eq_true, true_and, and_true, false_and, and_false, Bool.false_eq_true, Bool.true_eq_false, reduceCtorEq, implies_true]
            refine ⟨_, hK ▸ ht, _, hK ▸ hw, ?_⟩
            simp only [show (lg_cmp (lN (enc (mw ks k))) 0 = nI 0) = False by rw [lz he]; exact eq_false g1', hev]
            simp (disch := omega) only [q_lit, le_T, le_F, lt_T, lt_F, eq_T, eq_F, m1_lt, m1_le, lt_m1, le_m1, eq_m1, m1_eq, nI_add, nI_sub, nI_dec, nI_mul, nI_or, nI_and, nI_div, nI_mod, and_255, and_31, and_1, and_63, nI_shl, nI_shr, bI_F, bI_1, vp_T, cl_T, true_implies, false_implies, not_true_eq_false, not_false_eq_true, true_and, and_true, false_and, and_false, Bool.false_eq_true, Bool.true_eq_false, reduceCtorEq, implies_true]
            exact hq
          · rw [hi]
            constructor
            · intro h9
              refine ⟨fun j h8 h7 => ?_, h9.2⟩
              by_cases h6 : j = k
              · rw [h6]; exact ⟨g1, by omega, g3⟩
              · exact h9.1 j (by omega) h7
            · intro h9; exact ⟨fun j h8 h7 => h9.1 j (by omega) h7, h9.2⟩
        · refine ⟨false, ⟨1, ?_⟩, by simp only [Bool.false_eq_true, false_iff]; intro h9; exact g3 (h9.1 k (Nat.le_refl _) h1).2.2⟩
          rw [T_Book_isOfSource]
          simp only [S_Book_isOfSource, B_Book_isOfSource_53]
          rw [hK]
          simp (disch := omega) only [q_lit, le_T, le_F, lt_T, lt_F, eq_T, eq_F, m1_lt, m1_le, lt_m1, le_m1, eq_m1, m1_eq, nI_add, nI_sub, nI_dec, nI_mul, nI_or, nI_and, nI_div, nI_mod, and_255, and_31, and_1, and_63, nI_shl, nI_shr, bI_F, bI_1, vp_T, cl_T, true_implies, false_implies, not_true_eq_false, not_false_eq_true, true_and, and_true, false_and, and_false, Bool.false_eq_true, Bool.true_eq_false, reduceCtorEq, implies_true]
          refine ⟨_, hK ▸ ht, _, hK ▸ hw, ?_⟩
          simp only [show (lg_cmp (lN (enc (mw ks k))) 0 = nI 0) = False by rw [lz he]; exact eq_false g1', hev]
          simp (disch := omega) only [q_lit, le_T, le_F, lt_T, lt_F, eq_T, eq_F, m1_lt, m1_le, lt_m1, le_m1, eq_m1, m1_eq, nI_add, nI_sub, nI_dec, nI_mul, nI_or, nI_and, nI_div, nI_mod, and_255, and_31, and_1, and_63, nI_shl, nI_shr, bI_F, bI_1, vp_T, cl_T, true_implies, false_implies, not_true_eq_false, not_false_eq_true, true_and, and_true, false_and, and_false, Bool.false_eq_true, Bool.true_eq_false, reduceCtorEq, implies_true]
  · by_cases g1 : ks.length ≤ 250
    · refine ⟨true, ⟨1, ?_⟩, by simp only [true_iff]; exact ⟨fun j h8 h7 => by omega, g1⟩⟩
      rw [T_Book_isOfSource]
      simp (disch := omega) only [S_Book_isOfSource, B_Book_isOfSource_53, hK, hT, q_lit, le_T, le_F, lt_T, lt_F, eq_T, eq_F, m1_lt, m1_le, lt_m1, le_m1, eq_m1, m1_eq, nI_add, nI_sub, nI_dec, nI_mul, nI_or, nI_and, nI_div, nI_mod, and_255, and_31, and_1, and_63, nI_shl, nI_shr, bI_F, bI_1, vp_T, cl_T, true_implies, false_implies, not_true_eq_false, not_false_eq_true, true_and, and_true, false_and, and_false, Bool.false_eq_true, Bool.true_eq_false, reduceCtorEq, implies_true]
    · refine ⟨false, ⟨1, ?_⟩, by simp only [Bool.false_eq_true, false_iff]; intro h9; exact g1 h9.2⟩
      rw [T_Book_isOfSource]
      simp (disch := omega) only [S_Book_isOfSource, B_Book_isOfSource_53, hK, hT, q_lit, le_T, le_F, lt_T, lt_F, eq_T, eq_F, m1_lt, m1_le, lt_m1, le_m1, eq_m1, m1_eq, nI_add, nI_sub, nI_dec, nI_mul, nI_or, nI_and, nI_div, nI_mod, and_255, and_31, and_1, and_63, nI_shl, nI_shr, bI_F, bI_1, vp_T, cl_T, true_implies, false_implies, not_true_eq_false, not_false_eq_true, true_and, and_true, false_and, and_false, Bool.false_eq_true, Bool.true_eq_false, reduceCtorEq, implies_true]
termination_by ks.length - k
decreasing_by all_goals omega
set_option maxRecDepth 100000 in
theorem of0 {N : Nat → Int64} {S BE : Nat → Int32} {BC : Int32} {KW : Nat → Int64} {KT : Nat → Int32} {KC T : Int32} {ns bs : List (List Nat)} {ks : q_M2} (h : q_DB N S BE BC KW KT KC T ns bs ks) (hr : RdOk ns bs ks) (t : Nat) (ht : t ≤ bs.length) : ∃ res, (∃ q, T_Book_isOfSource 2550 252 N S BE BC KW KT KC T res q 0 (nI t)) ∧ (res = true ↔ (∀ u, t ≤ u → u < bs.length → q_PT ns bs u) ∧ (∀ j, j < ks.length → q_PK bs.length ks j) ∧ ks.length ≤ 250) := by
  have h' := h
  have hr' := hr
  obtain ⟨d1, d2, d3, d4, d5⟩ := h
  obtain ⟨r1, r2, r3, r4, r5, r6, r7⟩ := hr
  have hT := d1.1
  by_cases h1 : t < bs.length
  · have hn := d3 t h1
    have hv := r4 _ (bd_mem (show t < ns.length by omega))
    have he := enc_lt (bd ns t)
    have hnm := cb_named2 (bN := N) (ns := ns) (by omega) (fun u hu => d3 u (by omega)) r4 hv.1 (by omega)
    have hT2 : T = nI ns.length := by rw [hT, r1]
    rw [← hT2] at hnm
    have hbl := (r5 _ (bd_mem h1)).2
    have hbd := cb_isBody d1 h1 hbl
    by_cases g1 : bd ns t = []
    · refine ⟨false, ⟨1, ?_⟩, by simp only [Bool.false_eq_true, false_iff]; intro h9; exact (h9.1 t (Nat.le_refl _) h1).1 g1⟩
      rw [T_Book_isOfSource, hT]
      simp only [S_Book_isOfSource, B_Book_isOfSource_2]
      simp (disch := omega) only [q_lit, le_T, le_F, lt_T, lt_F, eq_T, eq_F, m1_lt, m1_le, lt_m1, le_m1, eq_m1, m1_eq, nI_add, nI_sub, nI_dec, nI_mul, nI_or, nI_and, nI_div, nI_mod, and_255, and_31, and_1, and_63, nI_shl, nI_shr, bI_F, bI_1, vp_T, cl_T, true_implies, false_implies, not_true_eq_false, not_false_eq_true, true_and, and_true, false_and, and_false, Bool.false_eq_true, Bool.true_eq_false, reduceCtorEq, implies_true]
      rw [hn]
      simp only [show (lg_cmp (lN (enc (bd ns t))) 0 = nI 0) = True by rw [lz he]; exact eq_true ((enc_0 hv.1).mpr g1)]
      simp (disch := omega) only [q_lit, le_T, le_F, lt_T, lt_F, eq_T, eq_F, m1_lt, m1_le, lt_m1, le_m1, eq_m1, m1_eq, nI_add, nI_sub, nI_dec, nI_mul, nI_or, nI_and, nI_div, nI_mod, and_255, and_31, and_1, and_63, nI_shl, nI_shr, bI_F, bI_1, vp_T, cl_T, true_implies, false_implies, not_true_eq_false, not_false_eq_true, true_and, and_true, false_and, and_false, Bool.false_eq_true, Bool.true_eq_false, reduceCtorEq, implies_true]
    · have g1' : (lg_cmp (lN (enc (bd ns t))) 0 = nI 0) = False := by rw [lz he]; exact eq_false (fun h9 => g1 ((enc_0 hv.1).mp h9))
      cases hq : nmAt (bd ns t) ns 0 with
      | none => exact absurd rfl (nmAt_none hq _ (bd_mem (show t < ns.length by omega)))
      | some u =>
        have hu := nmAt_some hq
        rw [hq] at hnm
        by_cases g2 : u = t
        · subst g2
          cases hb : bOk bs.length 10 false (bd bs u) with
          | false =>
            rw [hb] at hbd
            refine ⟨false, ⟨1, ?_⟩, by simp only [Bool.false_eq_true, false_iff]; intro h9; have := (h9.1 u (Nat.le_refl _) h1).2.2; rw [hb] at this; cases this⟩
            rw [T_Book_isOfSource]
            simp only [S_Book_isOfSource, B_Book_isOfSource_2]
            rw [hT] at hnm hbd ⊢
            simp (disch := omega) only [q_lit, le_T, le_F, lt_T, lt_F, eq_T, eq_F, m1_lt, m1_le, lt_m1, le_m1, eq_m1, m1_eq, nI_add, nI_sub, nI_dec, nI_mul, nI_or, nI_and, nI_div, nI_mod, and_255, and_31, and_1, and_63, nI_shl, nI_shr, bI_F, bI_1, vp_T, cl_T, true_implies, false_implies, not_true_eq_false, not_false_eq_true, true_and, and_true, false_and, and_false, Bool.false_eq_true, Bool.true_eq_false, reduceCtorEq, implies_true]
            rw [hn]
            simp only [g1']
            simp (disch := omega) only [q_lit, le_T, le_F, lt_T, lt_F, eq_T, eq_F, m1_lt, m1_le, lt_m1, le_m1, eq_m1, m1_eq, nI_add, nI_sub, nI_dec, nI_mul, nI_or, nI_and, nI_div, nI_mod, and_255, and_31, and_1, and_63, nI_shl, nI_shr, bI_F, bI_1, vp_T, cl_T, true_implies, false_implies, not_true_eq_false, not_false_eq_true, true_and, and_true, false_and, and_false, Bool.false_eq_true, Bool.true_eq_false, reduceCtorEq, implies_true]
            refine ⟨_, hnm, ?_⟩
            simp (disch := omega) only [oI, q_lit, le_T, le_F, lt_T, lt_F, eq_T, eq_F, m1_lt, m1_le, lt_m1, le_m1, eq_m1, m1_eq, nI_add, nI_sub, nI_dec, nI_mul, nI_or, nI_and, nI_div, nI_mod, and_255, and_31, and_1, and_63, nI_shl, nI_shr, bI_F, bI_1, vp_T, cl_T, true_implies, false_implies, not_true_eq_false, not_false_eq_true, true_and, and_true, false_and, and_false, Bool.false_eq_true, Bool.true_eq_false, reduceCtorEq, implies_true]
            refine ⟨_, hbd, ?_⟩
            simp (disch := omega) only [q_lit, le_T, le_F, lt_T, lt_F, eq_T, eq_F, m1_lt, m1_le, lt_m1, le_m1, eq_m1, m1_eq, nI_add, nI_sub, nI_dec, nI_mul, nI_or, nI_and, nI_div, nI_mod, and_255, and_31, and_1, and_63, nI_shl, nI_shr, bI_F, bI_1, vp_T, cl_T, true_implies, false_implies, not_true_eq_false, not_false_eq_true, true_and, and_true, false_and, and_false, Bool.false_eq_true, Bool.true_eq_false, reduceCtorEq, implies_true]
          | true =>
            rw [hb] at hbd
            obtain ⟨res, ⟨q, hq2⟩, hi⟩ := of0 h' hr' (u + 1) h1
            refine ⟨res, ⟨q + 1, ?_⟩, ?_⟩
            · rw [T_Book_isOfSource]
              simp only [S_Book_isOfSource, B_Book_isOfSource_2]
              rw [hT] at hnm hbd hq2 ⊢
              simp (disch := omega) only [q_lit, le_T, le_F, lt_T, lt_F, eq_T, eq_F, m1_lt, m1_le, lt_m1, le_m1, eq_m1, m1_eq, nI_add, nI_sub, nI_dec, nI_mul, nI_or, nI_and, nI_div, nI_mod, and_255, and_31, and_1, and_63, nI_shl, nI_shr, bI_F, bI_1, vp_T, cl_T, true_implies, false_implies, not_true_eq_false, not_false_eq_true, true_and, and_true, false_and, and_false, Bool.false_eq_true, Bool.true_eq_false, reduceCtorEq, implies_true]
              rw [hn]
              simp only [g1']
              simp (disch := omega) only [q_lit, le_T, le_F, lt_T, lt_F, eq_T, eq_F, m1_lt, m1_le, lt_m1, le_m1, eq_m1, m1_eq, nI_add, nI_sub, nI_dec, nI_mul, nI_or, nI_and, nI_div, nI_mod, and_255, and_31, and_1, and_63, nI_shl, nI_shr, bI_F, bI_1, vp_T, cl_T, true_implies, false_implies, not_true_eq_false, not_false_eq_true, true_and, and_true, false_and, and_false, Bool.false_eq_true, Bool.true_eq_false, reduceCtorEq, implies_true]
              refine ⟨_, hnm, ?_⟩
              simp (disch := omega) only [oI, q_lit, le_T, le_F, lt_T, lt_F, eq_T, eq_F, m1_lt, m1_le, lt_m1, le_m1, eq_m1, m1_eq, nI_add, nI_sub, nI_dec, nI_mul, nI_or, nI_and, nI_div, nI_mod, and_255, and_31, and_1, and_63, nI_shl, nI_shr, bI_F, bI_1, vp_T, cl_T, true_implies, false_implies, not_true_eq_false, not_false_eq_true, true_and, and_true, false_and, and_false, Bool.false_eq_true, Bool.true_eq_false, reduceCtorEq, implies_true]
              refine ⟨_, hbd, ?_⟩
              simp (disch := omega) only [q_lit, le_T, le_F, lt_T, lt_F, eq_T, eq_F, m1_lt, m1_le, lt_m1, le_m1, eq_m1, m1_eq, nI_add, nI_sub, nI_dec, nI_mul, nI_or, nI_and, nI_div, nI_mod, and_255, and_31, and_1, and_63, nI_shl, nI_shr, bI_F, bI_1, vp_T, cl_T, true_implies, false_implies, not_true_eq_false, not_false_eq_true, true_and, and_true, false_and, and_false, Bool.false_eq_true, Bool.true_eq_false, reduceCtorEq, implies_true]
              exact hq2
            · rw [hi]
              constructor
              · intro h9
                refine ⟨fun j h8 h7 => ?_, h9.2⟩
                by_cases h6 : j = u
                · rw [h6]; exact ⟨g1, hq, hb⟩
                · exact h9.1 j (by omega) h7
              · intro h9; exact ⟨fun j h8 h7 => h9.1 j (by omega) h7, h9.2⟩
        · refine ⟨false, ⟨1, ?_⟩, by simp only [Bool.false_eq_true, false_iff]; intro h9; have := (h9.1 t (Nat.le_refl _) h1).2.1; rw [hq] at this; simp only [Option.some.injEq] at this; exact g2 this⟩
          rw [T_Book_isOfSource]
          simp only [S_Book_isOfSource, B_Book_isOfSource_2]
          rw [hT] at hnm ⊢
          simp (disch := omega) only [q_lit, le_T, le_F, lt_T, lt_F, eq_T, eq_F, m1_lt, m1_le, lt_m1, le_m1, eq_m1, m1_eq, nI_add, nI_sub, nI_dec, nI_mul, nI_or, nI_and, nI_div, nI_mod, and_255, and_31, and_1, and_63, nI_shl, nI_shr, bI_F, bI_1, vp_T, cl_T, true_implies, false_implies, not_true_eq_false, not_false_eq_true, true_and, and_true, false_and, and_false, Bool.false_eq_true, Bool.true_eq_false, reduceCtorEq, implies_true]
          rw [hn]
          simp only [g1']
          simp (disch := omega) only [q_lit, le_T, le_F, lt_T, lt_F, eq_T, eq_F, m1_lt, m1_le, lt_m1, le_m1, eq_m1, m1_eq, nI_add, nI_sub, nI_dec, nI_mul, nI_or, nI_and, nI_div, nI_mod, and_255, and_31, and_1, and_63, nI_shl, nI_shr, bI_F, bI_1, vp_T, cl_T, true_implies, false_implies, not_true_eq_false, not_false_eq_true, true_and, and_true, false_and, and_false, Bool.false_eq_true, Bool.true_eq_false, reduceCtorEq, implies_true]
          refine ⟨_, hnm, ?_⟩
          simp (disch := omega) only [oI, q_lit, le_T, le_F, lt_T, lt_F, eq_T, eq_F, m1_lt, m1_le, lt_m1, le_m1, eq_m1, m1_eq, nI_add, nI_sub, nI_dec, nI_mul, nI_or, nI_and, nI_div, nI_mod, and_255, and_31, and_1, and_63, nI_shl, nI_shr, bI_F, bI_1, vp_T, cl_T, true_implies, false_implies, not_true_eq_false, not_false_eq_true, true_and, and_true, false_and, and_false, Bool.false_eq_true, Bool.true_eq_false, reduceCtorEq, implies_true]
  · obtain ⟨res, ⟨q, hq⟩, hi⟩ := of1 h' hr' 0 (by omega)
    refine ⟨res, ⟨q + 1, ?_⟩, ?_⟩
    · rw [T_Book_isOfSource]
      simp only [S_Book_isOfSource, B_Book_isOfSource_2]
      rw [hT] at hq ⊢
      simp (disch := omega) only [q_lit, le_T, le_F, lt_T, lt_F, eq_T, eq_F, m1_lt, m1_le, lt_m1, le_m1, eq_m1, m1_eq, nI_add, nI_sub, nI_dec, nI_mul, nI_or, nI_and, nI_div, nI_mod, and_255, and_31, and_1, and_63, nI_shl, nI_shr, bI_F, bI_1, vp_T, cl_T, true_implies, false_implies, not_true_eq_false, not_false_eq_true, true_and, and_true, false_and, and_false, Bool.false_eq_true, Bool.true_eq_false, reduceCtorEq, implies_true]
      exact hq
    · rw [hi]
      constructor
      · intro h9; exact ⟨fun u h8 h7 => by omega, fun j hj => h9.1 j (by omega) hj, h9.2⟩
      · intro h9; exact ⟨fun j _ hj => h9.2.1 j hj, h9.2.2⟩
termination_by bs.length - t
decreasing_by all_goals omega
