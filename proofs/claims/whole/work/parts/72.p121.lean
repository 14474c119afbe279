/-! Pure: whether a body is one, the reference. -/
set_option maxRecDepth 100000 in
theorem ib_F {Bo Le : Nat → Int32} {t : Nat} (ht : t < 10) {b : List Nat} (hl : Le t = nI b.length) (h255 : b.length ≤ 255) (hB : Bt t Bo b) (hy : q_By b) {tn : Nat} (htn : tn ≤ 10) (p : Nat) (hp : p ≤ b.length + 1) (em : Bool) (bf : Int32) : ∃ q, T_Model_isBody (nI tn) Bo Le false q 0 (nI t) false em bf (nI p) (nI 0) := by
  by_cases h1 : p < b.length
  · have e1 := hB p h1
    have v1 := hy.getD p
    by_cases k2 : b.getD p 0 = 2
    · obtain ⟨q, hq⟩ := ib_F ht hl h255 hB hy htn (p + 2) (by omega) em (nI (b.getD p 0))
      refine ⟨q + 4, ?_⟩
      simp (disch := omega) only [T_Model_isBody, S_Model_isBody, B_Model_isBody_11, B_Model_isBody_97, B_Model_isBody_99, B_Model_isBody_243, hl, e1, q_lit, le_T, le_F, lt_T, lt_F, eq_T, eq_F, m1_lt, m1_le, lt_m1, le_m1, eq_m1, m1_eq, nI_add, nI_sub, nI_dec, nI_mul, nI_or, nI_and, nI_div, nI_mod, and_255, and_31, and_1, and_63, nI_shl, nI_shr, bI_F, bI_1, vp_T, cl_T, true_implies, false_implies, not_true_eq_false, not_false_eq_true, true_and, and_true, false_and, and_false, Bool.false_eq_true, Bool.true_eq_false, reduceCtorEq, implies_true, q_lc_eq, q_lc_ge, q_lc_gt, q_lc_le, lN_or, lN_and, lN_shl, lN_shr, nI_L, lN_I, l_0]
      exact hq
    · obtain ⟨q, hq⟩ := ib_F ht hl h255 hB hy htn (p + 1) (by omega) em (nI (b.getD p 0))
      by_cases k10 : b.getD p 0 = 10
      · refine ⟨q + 4, ?_⟩
        simp (disch := omega) only [T_Model_isBody, S_Model_isBody, B_Model_isBody_11, B_Model_isBody_135, B_Model_isBody_137, B_Model_isBody_243, hl, e1, q_lit, le_T, le_F, lt_T, lt_F, eq_T, eq_F, m1_lt, m1_le, lt_m1, le_m1, eq_m1, m1_eq, nI_add, nI_sub, nI_dec, nI_mul, nI_or, nI_and, nI_div, nI_mod, and_255, and_31, and_1, and_63, nI_shl, nI_shr, bI_F, bI_1, vp_T, cl_T, true_implies, false_implies, not_true_eq_false, not_false_eq_true, true_and, and_true, false_and, and_false, Bool.false_eq_true, Bool.true_eq_false, reduceCtorEq, implies_true, q_lc_eq, q_lc_ge, q_lc_gt, q_lc_le, lN_or, lN_and, lN_shl, lN_shr, nI_L, lN_I, l_0]
        exact hq
      · by_cases k32 : b.getD p 0 = 32
        · refine ⟨q + 4, ?_⟩
          simp (disch := omega) only [T_Model_isBody, S_Model_isBody, B_Model_isBody_11, B_Model_isBody_169, B_Model_isBody_171, B_Model_isBody_243, hl, e1, q_lit, le_T, le_F, lt_T, lt_F, eq_T, eq_F, m1_lt, m1_le, lt_m1, le_m1, eq_m1, m1_eq, nI_add, nI_sub, nI_dec, nI_mul, nI_or, nI_and, nI_div, nI_mod, and_255, and_31, and_1, and_63, nI_shl, nI_shr, bI_F, bI_1, vp_T, cl_T, true_implies, false_implies, not_true_eq_false, not_false_eq_true, true_and, and_true, false_and, and_false, Bool.false_eq_true, Bool.true_eq_false, reduceCtorEq, implies_true, q_lc_eq, q_lc_ge, q_lc_gt, q_lc_le, lN_or, lN_and, lN_shl, lN_shr, nI_L, lN_I, l_0]
          exact hq
        · by_cases k1 : b.getD p 0 = 1
          · obtain ⟨q, hq⟩ := ib_F ht hl h255 hB hy htn (p + 1) (by omega) (!em) (nI (b.getD p 0))
            refine ⟨q + 4, ?_⟩
            cases em with
            | true =>
              simp (disch := omega) only [T_Model_isBody, S_Model_isBody, B_Model_isBody_11, B_Model_isBody_194, B_Model_isBody_241, B_Model_isBody_243, hl, e1, q_lit, le_T, le_F, lt_T, lt_F, eq_T, eq_F, m1_lt, m1_le, lt_m1, le_m1, eq_m1, m1_eq, nI_add, nI_sub, nI_dec, nI_mul, nI_or, nI_and, nI_div, nI_mod, and_255, and_31, and_1, and_63, nI_shl, nI_shr, bI_F, bI_1, vp_T, cl_T, true_implies, false_implies, not_true_eq_false, not_false_eq_true, true_and, and_true, false_and, and_false, Bool.false_eq_true, Bool.true_eq_false, reduceCtorEq, implies_true, q_lc_eq, q_lc_ge, q_lc_gt, q_lc_le, lN_or, lN_and, lN_shl, lN_shr, nI_L, lN_I, l_0]
              exact hq
            | false =>
              simp (disch := omega) only [T_Model_isBody, S_Model_isBody, B_Model_isBody_11, B_Model_isBody_194, B_Model_isBody_241, B_Model_isBody_243, hl, e1, q_lit, le_T, le_F, lt_T, lt_F, eq_T, eq_F, m1_lt, m1_le, lt_m1, le_m1, eq_m1, m1_eq, nI_add, nI_sub, nI_dec, nI_mul, nI_or, nI_and, nI_div, nI_mod, and_255, and_31, and_1, and_63, nI_shl, nI_shr, bI_F, bI_1, vp_T, cl_T, true_implies, false_implies, not_true_eq_false, not_false_eq_true, true_and, and_true, false_and, and_false, Bool.false_eq_true, Bool.true_eq_false, reduceCtorEq, implies_true, q_lc_eq, q_lc_ge, q_lc_gt, q_lc_le, lN_or, lN_and, lN_shl, lN_shr, nI_L, lN_I, l_0]
              exact hq
          · refine ⟨q + 4, ?_⟩
            simp (disch := omega) only [T_Model_isBody, S_Model_isBody, B_Model_isBody_11, B_Model_isBody_194, B_Model_isBody_241, B_Model_isBody_243, hl, e1, q_lit, le_T, le_F, lt_T, lt_F, eq_T, eq_F, m1_lt, m1_le, lt_m1, le_m1, eq_m1, m1_eq, nI_add, nI_sub, nI_dec, nI_mul, nI_or, nI_and, nI_div, nI_mod, and_255, and_31, and_1, and_63, nI_shl, nI_shr, bI_F, bI_1, vp_T, cl_T, true_implies, false_implies, not_true_eq_false, not_false_eq_true, true_and, and_true, false_and, and_false, Bool.false_eq_true, Bool.true_eq_false, reduceCtorEq, implies_true, q_lc_eq, q_lc_ge, q_lc_gt, q_lc_le, lN_or, lN_and, lN_shl, lN_shr, nI_L, lN_I, l_0]
            exact hq
  · refine ⟨1, ?_⟩
    simp (disch := omega) only [T_Model_isBody, S_Model_isBody, B_Model_isBody_11, hl, q_lit, le_T, le_F, lt_T, lt_F, eq_T, eq_F, m1_lt, m1_le, lt_m1, le_m1, eq_m1, m1_eq, nI_add, nI_sub, nI_dec, nI_mul, nI_or, nI_and, nI_div, nI_mod, and_255, and_31, and_1, and_63, nI_shl, nI_shr, bI_F, bI_1, vp_T, cl_T, true_implies, false_implies, not_true_eq_false, not_false_eq_true, true_and, and_true, false_and, and_false, Bool.false_eq_true, Bool.true_eq_false, reduceCtorEq, implies_true, q_lc_eq, q_lc_ge, q_lc_gt, q_lc_le, lN_or, lN_and, lN_shl, lN_shr, nI_L, lN_I, l_0]
termination_by b.length + 1 - p
decreasing_by all_goals omega
set_option maxRecDepth 100000 in
theorem ib_T {Bo Le : Nat → Int32} {t : Nat} (ht : t < 10) {b : List Nat} (hl : Le t = nI b.length) (h255 : b.length ≤ 255) (hB : Bt t Bo b) (hy : q_By b) {tn : Nat} (htn : tn ≤ 10) (p : Nat) (hp : p ≤ b.length) (em : Bool) (bf : Nat) (hbf : bf < 2147483648) : ∃ q, T_Model_isBody (nI tn) Bo Le (bOk tn bf em (b.drop p)) q 0 (nI t) true em (nI bf) (nI p) (nI 0) := by
  by_cases h1 : p < b.length
  · have e1 := hB p h1
    have v1 := hy.getD p
    rw [drop_s h1, bOk_cons]
    by_cases k1 : b.getD p 0 = 1
    · rw [if_pos k1]
      obtain ⟨q, hq⟩ := ib_T ht hl h255 hB hy htn (p + 1) h1 (!em) 1 (by omega)
      rw [k1] at e1
      refine ⟨q + 4, ?_⟩
      cases em with
      | true =>
        simp (disch := omega) only [T_Model_isBody, S_Model_isBody, B_Model_isBody_11, B_Model_isBody_194, B_Model_isBody_237, B_Model_isBody_243, hl, e1, q_lit, le_T, le_F, lt_T, lt_F, eq_T, eq_F, m1_lt, m1_le, lt_m1, le_m1, eq_m1, m1_eq, nI_add, nI_sub, nI_dec, nI_mul, nI_or, nI_and, nI_div, nI_mod, and_255, and_31, and_1, and_63, nI_shl, nI_shr, bI_F, bI_1, vp_T, cl_T, true_implies, false_implies, not_true_eq_false, not_false_eq_true, true_and, and_true, false_and, and_false, Bool.false_eq_true, Bool.true_eq_false, reduceCtorEq, implies_true, q_lc_eq, q_lc_ge, q_lc_gt, q_lc_le, lN_or, lN_and, lN_shl, lN_shr, nI_L, lN_I, l_0]
        exact hq
      | false =>
        simp (disch := omega) only [T_Model_isBody, S_Model_isBody, B_Model_isBody_11, B_Model_isBody_194, B_Model_isBody_237, B_Model_isBody_243, hl, e1, q_lit, le_T, le_F, lt_T, lt_F, eq_T, eq_F, m1_lt, m1_le, lt_m1, le_m1, eq_m1, m1_eq, nI_add, nI_sub, nI_dec, nI_mul, nI_or, nI_and, nI_div, nI_mod, and_255, and_31, and_1, and_63, nI_shl, nI_shr, bI_F, bI_1, vp_T, cl_T, true_implies, false_implies, not_true_eq_false, not_false_eq_true, true_and, and_true, false_and, and_false, Bool.false_eq_true, Bool.true_eq_false, reduceCtorEq, implies_true, q_lc_eq, q_lc_ge, q_lc_gt, q_lc_le, lN_or, lN_and, lN_shl, lN_shr, nI_L, lN_I, l_0]
        exact hq
    · rw [if_neg k1]
      by_cases k2 : b.getD p 0 = 2
      · rw [if_pos k2]
        rw [k2] at e1
        by_cases h2 : p + 1 < b.length
        · have e2 := hB (p + 1) h2
          rw [← Nat.add_assoc] at e2
          have v2 := hy.getD (p + 1)
          rw [drop_s h2]
          simp only
          by_cases h3 : b.getD (p + 1) 0 < tn
          · rw [decide_eq_true h3, Bool.true_and]
            obtain ⟨q, hq⟩ := ib_T ht hl h255 hB hy htn (p + 2) (by omega) em 2 (by omega)
            refine ⟨q + 4, ?_⟩
            simp (disch := omega) only [T_Model_isBody, S_Model_isBody, B_Model_isBody_11, B_Model_isBody_93, B_Model_isBody_99, B_Model_isBody_243, hl, e1, ← Nat.add_assoc, e2, q_lit, le_T, le_F, lt_T, lt_F, eq_T, eq_F, m1_lt, m1_le, lt_m1, le_m1, eq_m1, m1_eq, nI_add, nI_sub, nI_dec, nI_mul, nI_or, nI_and, nI_div, nI_mod, and_255, and_31, and_1, and_63, nI_shl, nI_shr, bI_F, bI_1, vp_T, cl_T, true_implies, false_implies, not_true_eq_false, not_false_eq_true, true_and, and_true, false_and, and_false, Bool.false_eq_true, Bool.true_eq_false, reduceCtorEq, implies_true, q_lc_eq, q_lc_ge, q_lc_gt, q_lc_le, lN_or, lN_and, lN_shl, lN_shr, nI_L, lN_I, l_0]
            exact hq
          · rw [decide_eq_false h3, Bool.false_and]
            obtain ⟨q, hq⟩ := ib_F ht hl h255 hB hy htn (p + 2) (by omega) em (nI 2)
            refine ⟨q + 4, ?_⟩
            simp (disch := omega) only [T_Model_isBody, S_Model_isBody, B_Model_isBody_11, B_Model_isBody_97, B_Model_isBody_99, B_Model_isBody_243, hl, e1, ← Nat.add_assoc, e2, q_lit, le_T, le_F, lt_T, lt_F, eq_T, eq_F, m1_lt, m1_le, lt_m1, le_m1, eq_m1, m1_eq, nI_add, nI_sub, nI_dec, nI_mul, nI_or, nI_and, nI_div, nI_mod, and_255, and_31, and_1, and_63, nI_shl, nI_shr, bI_F, bI_1, vp_T, cl_T, true_implies, false_implies, not_true_eq_false, not_false_eq_true, true_and, and_true, false_and, and_false, Bool.false_eq_true, Bool.true_eq_false, reduceCtorEq, implies_true, q_lc_eq, q_lc_ge, q_lc_gt, q_lc_le, lN_or, lN_and, lN_shl, lN_shr, nI_L, lN_I, l_0]
            exact hq
        · rw [List.drop_eq_nil_of_le (show b.length ≤ p + 1 by omega)]
          simp only
          obtain ⟨q, hq⟩ := ib_F ht hl h255 hB hy htn (p + 2) (by omega) em (nI 2)
          refine ⟨q + 4, ?_⟩
          simp (disch := omega) only [T_Model_isBody, S_Model_isBody, B_Model_isBody_11, B_Model_isBody_97, B_Model_isBody_99, B_Model_isBody_243, hl, e1, q_lit, le_T, le_F, lt_T, lt_F, eq_T, eq_F, m1_lt, m1_le, lt_m1, le_m1, eq_m1, m1_eq, nI_add, nI_sub, nI_dec, nI_mul, nI_or, nI_and, nI_div, nI_mod, and_255, and_31, and_1, and_63, nI_shl, nI_shr, bI_F, bI_1, vp_T, cl_T, true_implies, false_implies, not_true_eq_false, not_false_eq_true, true_and, and_true, false_and, and_false, Bool.false_eq_true, Bool.true_eq_false, reduceCtorEq, implies_true, q_lc_eq, q_lc_ge, q_lc_gt, q_lc_le, lN_or, lN_and, lN_shl, lN_shr, nI_L, lN_I, l_0]
          exact hq
      · rw [if_neg k2]
        have bad : mayF bf (b.getD p 0) = false → ∃ q, T_Model_isBody (nI tn) Bo Le false q 0 (nI t) true em (nI bf) (nI p) (nI 0) := by
          intro hm
          obtain ⟨q, hq⟩ := ib_F ht hl h255 hB hy htn (p + 1) (by omega) em (nI (b.getD p 0))
          unfold mayF at hm
          by_cases k10 : b.getD p 0 = 10
          · rw [if_pos (Or.inr k10)] at hm
            simp only [decide_eq_false_iff_not] at hm
            refine ⟨q + 4, ?_⟩
            by_cases g1 : bf = 10
            · simp (disch := omega) only [T_Model_isBody, S_Model_isBody, B_Model_isBody_11, B_Model_isBody_135, B_Model_isBody_137, B_Model_isBody_243, hl, e1, q_lit, le_T, le_F, lt_T, lt_F, eq_T, eq_F, m1_lt, m1_le, lt_m1, le_m1, eq_m1, m1_eq, nI_add, nI_sub, nI_dec, nI_mul, nI_or, nI_and, nI_div, nI_mod, and_255, and_31, and_1, and_63, nI_shl, nI_shr, bI_F, bI_1, vp_T, cl_T, true_implies, false_implies, not_true_eq_false, not_false_eq_true, true_and, and_true, false_and, and_false, Bool.false_eq_true, Bool.true_eq_false, reduceCtorEq, implies_true, q_lc_eq, q_lc_ge, q_lc_gt, q_lc_le, lN_or, lN_and, lN_shl, lN_shr, nI_L, lN_I, l_0]
              exact hq
            · simp (disch := omega) only [T_Model_isBody, S_Model_isBody, B_Model_isBody_11, B_Model_isBody_135, B_Model_isBody_137, B_Model_isBody_243, hl, e1, q_lit, le_T, le_F, lt_T, lt_F, eq_T, eq_F, m1_lt, m1_le, lt_m1, le_m1, eq_m1, m1_eq, nI_add, nI_sub, nI_dec, nI_mul, nI_or, nI_and, nI_div, nI_mod, and_255, and_31, and_1, and_63, nI_shl, nI_shr, bI_F, bI_1, vp_T, cl_T, true_implies, false_implies, not_true_eq_false, not_false_eq_true, true_and, and_true, false_and, and_false, Bool.false_eq_true, Bool.true_eq_false, reduceCtorEq, implies_true, q_lc_eq, q_lc_ge, q_lc_gt, q_lc_le, lN_or, lN_and, lN_shl, lN_shr, nI_L, lN_I, l_0]
              exact hq
          · by_cases k32 : b.getD p 0 = 32
            · rw [if_pos (Or.inl k32)] at hm
              simp only [decide_eq_false_iff_not] at hm
              refine ⟨q + 4, ?_⟩
              by_cases g1 : bf = 10
              · simp (disch := omega) only [T_Model_isBody, S_Model_isBody, B_Model_isBody_11, B_Model_isBody_169, B_Model_isBody_171, B_Model_isBody_243, hl, e1, q_lit, le_T, le_F, lt_T, lt_F, eq_T, eq_F, m1_lt, m1_le, lt_m1, le_m1, eq_m1, m1_eq, nI_add, nI_sub, nI_dec, nI_mul, nI_or, nI_and, nI_div, nI_mod, and_255, and_31, and_1, and_63, nI_shl, nI_shr, bI_F, bI_1, vp_T, cl_T, true_implies, false_implies, not_true_eq_false, not_false_eq_true, true_and, and_true, false_and, and_false, Bool.false_eq_true, Bool.true_eq_false, reduceCtorEq, implies_true, q_lc_eq, q_lc_ge, q_lc_gt, q_lc_le, lN_or, lN_and, lN_shl, lN_shr, nI_L, lN_I, l_0]
                exact hq
              · simp (disch := omega) only [T_Model_isBody, S_Model_isBody, B_Model_isBody_11, B_Model_isBody_169, B_Model_isBody_171, B_Model_isBody_243, hl, e1, q_lit, le_T, le_F, lt_T, lt_F, eq_T, eq_F, m1_lt, m1_le, lt_m1, le_m1, eq_m1, m1_eq, nI_add, nI_sub, nI_dec, nI_mul, nI_or, nI_and, nI_div, nI_mod, and_255, and_31, and_1, and_63, nI_shl, nI_shr, bI_F, bI_1, vp_T, cl_T, true_implies, false_implies, not_true_eq_false, not_false_eq_true, true_and, and_true, false_and, and_false, Bool.false_eq_true, Bool.true_eq_false, reduceCtorEq, implies_true, q_lc_eq, q_lc_ge, q_lc_gt, q_lc_le, lN_or, lN_and, lN_shl, lN_shr, nI_L, lN_I, l_0]
                exact hq
            · rw [if_neg (by omega)] at hm
              simp only [decide_eq_false_iff_not] at hm
              have hin := mo_in (x := b.getD p 0) (a := 33) (b := 126) (by omega) (by omega) (by omega)
              refine ⟨q + 4, ?_⟩
              simp (disch := omega) only [T_Model_isBody, S_Model_isBody, B_Model_isBody_11, B_Model_isBody_194, hl, e1, q_lit, le_T, le_F, lt_T, lt_F, eq_T, eq_F, m1_lt, m1_le, lt_m1, le_m1, eq_m1, m1_eq, nI_add, nI_sub, nI_dec, nI_mul, nI_or, nI_and, nI_div, nI_mod, and_255, and_31, and_1, and_63, nI_shl, nI_shr, bI_F, bI_1, vp_T, cl_T, true_implies, false_implies, not_true_eq_false, not_false_eq_true, true_and, and_true, false_and, and_false, Bool.false_eq_true, Bool.true_eq_false, reduceCtorEq, implies_true, q_lc_eq, q_lc_ge, q_lc_gt, q_lc_le, lN_or, lN_and, lN_shl, lN_shr, nI_L, lN_I, l_0]
              refine ⟨_, hin, ?_⟩
              by_cases g1 : 33 ≤ b.getD p 0 ∧ b.getD p 0 ≤ 126
              · rw [decide_eq_true g1.1, decide_eq_true g1.2, Bool.true_and]
                by_cases g2 : b.getD p 0 = 42
                · simp (disch := omega) only [T_Model_isBody, S_Model_isBody, B_Model_isBody_241, B_Model_isBody_243, q_lit, le_T, le_F, lt_T, lt_F, eq_T, eq_F, m1_lt, m1_le, lt_m1, le_m1, eq_m1, m1_eq, nI_add, nI_sub, nI_dec, nI_mul, nI_or, nI_and, nI_div, nI_mod, and_255, and_31, and_1, and_63, nI_shl, nI_shr, bI_F, bI_1, vp_T, cl_T, true_implies, false_implies, not_true_eq_false, not_false_eq_true, true_and, and_true, false_and, and_false, Bool.false_eq_true, Bool.true_eq_false, reduceCtorEq, implies_true, q_lc_eq, q_lc_ge, q_lc_gt, q_lc_le, lN_or, lN_and, lN_shl, lN_shr, nI_L, lN_I, l_0]
                  exact hq
                · by_cases g3 : b.getD p 0 = 91
                  · simp (disch := omega) only [T_Model_isBody, S_Model_isBody, B_Model_isBody_241, B_Model_isBody_243, q_lit, le_T, le_F, lt_T, lt_F, eq_T, eq_F, m1_lt, m1_le, lt_m1, le_m1, eq_m1, m1_eq, nI_add, nI_sub, nI_dec, nI_mul, nI_or, nI_and, nI_div, nI_mod, and_255, and_31, and_1, and_63, nI_shl, nI_shr, bI_F, bI_1, vp_T, cl_T, true_implies, false_implies, not_true_eq_false, not_false_eq_true, true_and, and_true, false_and, and_false, Bool.false_eq_true, Bool.true_eq_false, reduceCtorEq, implies_true, q_lc_eq, q_lc_ge, q_lc_gt, q_lc_le, lN_or, lN_and, lN_shl, lN_shr, nI_L, lN_I, l_0]
                    exact hq
                  · simp (disch := omega) only [T_Model_isBody, S_Model_isBody, B_Model_isBody_241, B_Model_isBody_243, q_lit, le_T, le_F, lt_T, lt_F, eq_T, eq_F, m1_lt, m1_le, lt_m1, le_m1, eq_m1, m1_eq, nI_add, nI_sub, nI_dec, nI_mul, nI_or, nI_and, nI_div, nI_mod, and_255, and_31, and_1, and_63, nI_shl, nI_shr, bI_F, bI_1, vp_T, cl_T, true_implies, false_implies, not_true_eq_false, not_false_eq_true, true_and, and_true, false_and, and_false, Bool.false_eq_true, Bool.true_eq_false, reduceCtorEq, implies_true, q_lc_eq, q_lc_ge, q_lc_gt, q_lc_le, lN_or, lN_and, lN_shl, lN_shr, nI_L, lN_I, l_0]
                    exact hq
              · have : (decide (33 ≤ b.getD p 0) && decide (b.getD p 0 ≤ 126)) = false := by
                  simp only [Bool.and_eq_false_iff, decide_eq_false_iff_not]; omega
                rw [this]
                simp (disch := omega) only [T_Model_isBody, S_Model_isBody, B_Model_isBody_241, B_Model_isBody_243, q_lit, le_T, le_F, lt_T, lt_F, eq_T, eq_F, m1_lt, m1_le, lt_m1, le_m1, eq_m1, m1_eq, nI_add, nI_sub, nI_dec, nI_mul, nI_or, nI_and, nI_div, nI_mod, and_255, and_31, and_1, and_63, nI_shl, nI_shr, bI_F, bI_1, vp_T, cl_T, true_implies, false_implies, not_true_eq_false, not_false_eq_true, true_and, and_true, false_and, and_false, Bool.false_eq_true, Bool.true_eq_false, reduceCtorEq, implies_true, q_lc_eq, q_lc_ge, q_lc_gt, q_lc_le, lN_or, lN_and, lN_shl, lN_shr, nI_L, lN_I, l_0]
                exact hq
        cases hm : mayF bf (b.getD p 0) with
        | false => simp only [Bool.false_and]; exact bad hm
        | true =>
          simp only [Bool.true_and]
          unfold mayF at hm
          by_cases k10 : b.getD p 0 = 10
          · rw [if_pos (Or.inr k10)] at hm
            simp only [decide_eq_true_eq] at hm
            rw [decide_eq_true k10]
            cases em with
            | true =>
              simp only [Bool.true_and, Bool.not_true, Bool.false_and]
              obtain ⟨q, hq⟩ := ib_F ht hl h255 hB hy htn (p + 1) (by omega) true (nI (b.getD p 0))
              refine ⟨q + 4, ?_⟩
              simp (disch := omega) only [T_Model_isBody, S_Model_isBody, B_Model_isBody_11, B_Model_isBody_135, B_Model_isBody_137, B_Model_isBody_243, hl, e1, q_lit, le_T, le_F, lt_T, lt_F, eq_T, eq_F, m1_lt, m1_le, lt_m1, le_m1, eq_m1, m1_eq, nI_add, nI_sub, nI_dec, nI_mul, nI_or, nI_and, nI_div, nI_mod, and_255, and_31, and_1, and_63, nI_shl, nI_shr, bI_F, bI_1, vp_T, cl_T, true_implies, false_implies, not_true_eq_false, not_false_eq_true, true_and, and_true, false_and, and_false, Bool.false_eq_true, Bool.true_eq_false, reduceCtorEq, implies_true, q_lc_eq, q_lc_ge, q_lc_gt, q_lc_le, lN_or, lN_and, lN_shl, lN_shr, nI_L, lN_I, l_0]
              exact hq
            | false =>
              simp only [Bool.and_false, Bool.not_false, Bool.true_and]
              obtain ⟨q, hq⟩ := ib_T ht hl h255 hB hy htn (p + 1) h1 false (b.getD p 0) (by omega)
              refine ⟨q + 3, ?_⟩
              simp (disch := omega) only [T_Model_isBody, S_Model_isBody, B_Model_isBody_11, B_Model_isBody_137, B_Model_isBody_243, hl, e1, q_lit, le_T, le_F, lt_T, lt_F, eq_T, eq_F, m1_lt, m1_le, lt_m1, le_m1, eq_m1, m1_eq, nI_add, nI_sub, nI_dec, nI_mul, nI_or, nI_and, nI_div, nI_mod, and_255, and_31, and_1, and_63, nI_shl, nI_shr, bI_F, bI_1, vp_T, cl_T, true_implies, false_implies, not_true_eq_false, not_false_eq_true, true_and, and_true, false_and, and_false, Bool.false_eq_true, Bool.true_eq_false, reduceCtorEq, implies_true, q_lc_eq, q_lc_ge, q_lc_gt, q_lc_le, lN_or, lN_and, lN_shl, lN_shr, nI_L, lN_I, l_0]
              exact hq
          · rw [decide_eq_false k10]
            simp only [Bool.false_and, Bool.not_false, Bool.true_and]
            obtain ⟨q, hq⟩ := ib_T ht hl h255 hB hy htn (p + 1) h1 em (b.getD p 0) (by omega)
            by_cases k32 : b.getD p 0 = 32
            · rw [if_pos (Or.inl k32)] at hm
              simp only [decide_eq_true_eq] at hm
              refine ⟨q + 3, ?_⟩
              simp (disch := omega) only [T_Model_isBody, S_Model_isBody, B_Model_isBody_11, B_Model_isBody_171, B_Model_isBody_243, hl, e1, q_lit, le_T, le_F, lt_T, lt_F, eq_T, eq_F, m1_lt, m1_le, lt_m1, le_m1, eq_m1, m1_eq, nI_add, nI_sub, nI_dec, nI_mul, nI_or, nI_and, nI_div, nI_mod, and_255, and_31, and_1, and_63, nI_shl, nI_shr, bI_F, bI_1, vp_T, cl_T, true_implies, false_implies, not_true_eq_false, not_false_eq_true, true_and, and_true, false_and, and_false, Bool.false_eq_true, Bool.true_eq_false, reduceCtorEq, implies_true, q_lc_eq, q_lc_ge, q_lc_gt, q_lc_le, lN_or, lN_and, lN_shl, lN_shr, nI_L, lN_I, l_0]
              exact hq
            · rw [if_neg (by omega)] at hm
              simp only [decide_eq_true_eq] at hm
              have hin := mo_in (x := b.getD p 0) (a := 33) (b := 126) (by omega) (by omega) (by omega)
              rw [decide_eq_true hm.1, decide_eq_true hm.2.1, Bool.true_and] at hin
              refine ⟨q + 4, ?_⟩
              simp (disch := omega) only [T_Model_isBody, S_Model_isBody, B_Model_isBody_11, B_Model_isBody_194, hl, e1, q_lit, le_T, le_F, lt_T, lt_F, eq_T, eq_F, m1_lt, m1_le, lt_m1, le_m1, eq_m1, m1_eq, nI_add, nI_sub, nI_dec, nI_mul, nI_or, nI_and, nI_div, nI_mod, and_255, and_31, and_1, and_63, nI_shl, nI_shr, bI_F, bI_1, vp_T, cl_T, true_implies, false_implies, not_true_eq_false, not_false_eq_true, true_and, and_true, false_and, and_false, Bool.false_eq_true, Bool.true_eq_false, reduceCtorEq, implies_true, q_lc_eq, q_lc_ge, q_lc_gt, q_lc_le, lN_or, lN_and, lN_shl, lN_shr, nI_L, lN_I, l_0]
              refine ⟨_, hin, ?_⟩
              simp (disch := omega) only [T_Model_isBody, S_Model_isBody, B_Model_isBody_237, B_Model_isBody_243, q_lit, le_T, le_F, lt_T, lt_F, eq_T, eq_F, m1_lt, m1_le, lt_m1, le_m1, eq_m1, m1_eq, nI_add, nI_sub, nI_dec, nI_mul, nI_or, nI_and, nI_div, nI_mod, and_255, and_31, and_1, and_63, nI_shl, nI_shr, bI_F, bI_1, vp_T, cl_T, true_implies, false_implies, not_true_eq_false, not_false_eq_true, true_and, and_true, false_and, and_false, Bool.false_eq_true, Bool.true_eq_false, reduceCtorEq, implies_true, q_lc_eq, q_lc_ge, q_lc_gt, q_lc_le, lN_or, lN_and, lN_shl, lN_shr, nI_L, lN_I, l_0]
              exact hq
  · rw [List.drop_eq_nil_of_le (by omega), bOk]
    refine ⟨1, ?_⟩
    by_cases h2 : bf = 10
    · rw [decide_eq_true h2]
      simp (disch := omega) only [T_Model_isBody, S_Model_isBody, B_Model_isBody_11, hl, q_lit, le_T, le_F, lt_T, lt_F, eq_T, eq_F, m1_lt, m1_le, lt_m1, le_m1, eq_m1, m1_eq, nI_add, nI_sub, nI_dec, nI_mul, nI_or, nI_and, nI_div, nI_mod, and_255, and_31, and_1, and_63, nI_shl, nI_shr, bI_F, bI_1, vp_T, cl_T, true_implies, false_implies, not_true_eq_false, not_false_eq_true, true_and, and_true, false_and, and_false, Bool.false_eq_true, Bool.true_eq_false, reduceCtorEq, implies_true, q_lc_eq, q_lc_ge, q_lc_gt, q_lc_le, lN_or, lN_and, lN_shl, lN_shr, nI_L, lN_I, l_0]
    · rw [decide_eq_false h2]
      simp (disch := omega) only [T_Model_isBody, S_Model_isBody, B_Model_isBody_11, hl, q_lit, le_T, le_F, lt_T, lt_F, eq_T, eq_F, m1_lt, m1_le, lt_m1, le_m1, eq_m1, m1_eq, nI_add, nI_sub, nI_dec, nI_mul, nI_or, nI_and, nI_div, nI_mod, and_255, and_31, and_1, and_63, nI_shl, nI_shr, bI_F, bI_1, vp_T, cl_T, true_implies, false_implies, not_true_eq_false, not_false_eq_true, true_and, and_true, false_and, and_false, Bool.false_eq_true, Bool.true_eq_false, reduceCtorEq, implies_true, q_lc_eq, q_lc_ge, q_lc_gt, q_lc_le, lN_or, lN_and, lN_shl, lN_shr, nI_L, lN_I, l_0]
termination_by b.length - p
decreasing_by all_goals omega
theorem mo_isBody {Bo Le : Nat → Int32} {t : Nat} (ht : t < 10) {b : List Nat} (hl : Le t = nI b.length) (h255 : b.length ≤ 255) (hB : Bt t Bo b) (hy : q_By b) {tn : Nat} (htn : tn ≤ 10) : D_Model_isBody (nI t) (nI tn) Bo Le (bOk tn 10 false b) := by
  obtain ⟨q, hq⟩ := ib_T ht hl h255 hB hy htn 0 (by omega) false 10 (by omega)
  exact ⟨q, by simpa [q_lit] using hq⟩
