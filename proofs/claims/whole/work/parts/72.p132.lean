/-! Pure: about, keyword, search. -/
theorem pr_about {bbN : Nat → Int64} {bbS bbBE : Nat → Int32} {bbBC : Int32} {bbKW : Nat → Int64} {bbKT : Nat → Int32} {bbKC : Int32} {bbVW : Nat → Int64} {bbVT : Nat → Int32} {bbVC bbT sT : Int32} {q_sN sB sL : Nat → Int32} {sK : Int32} {sKL sKG sKB : Nat → Int32} {sW : Int32} {sWL sWG sWB : Nat → Int32} {ns bs : List (List Nat)} {ks : q_M2} (h : q_OC bbN bbS bbBE bbBC bbKW bbKT bbKC bbVW bbVT bbVC bbT sT q_sN sB sL sK sKL sKG sKB sW sWL sWG sWB ns bs ks) {BE : Nat → Int32} {BC : Int32} {FE : Nat → Int32} {FC T mT mC : Int32} {mB : Nat → Int32} {mFC : Int32} {mF : Nat → Int32} (hv : q_VI bs.length BE BC FE FC T mT mC mB mFC mF) (a th lk : Int32) :
    (∃ r lk', D_HelpFile_about 2550 a true BC FC T bbS bbBE bbBC bbT r ∧ D_Model_about a th lk true sT sB sL mT mC mFC r (nI 0) lk') ∨ (X_HelpFile_about 2550 a true T bbS bbBE bbBC bbT "java/lang/IllegalArgumentException" ∧ D_Model_about a th lk true sT sB sL mT mC mFC (nI 0) (nI 2) lk) := by
  obtain ⟨h1, h2, h3, h4⟩ := h
  have h10 := h1.2.2.1
  obtain ⟨Bk, Fw, tp, q1, q2, q3, q4, rfl, rfl, q7, q8, q9⟩ := hv
  obtain ⟨_, _, hlk⟩ := h1.body q7
  have hmt := mo_linkOf h4.2.2.1 q7 hlk (nI 0) lk
  have hcl := cb_links h2.1 q7 hlk
  have hln := cb_len h2.1 q7
  have hT : bbT = nI bs.length := h2.1.1
  have hsT : sT = nI bs.length := h4.1
  obtain ⟨e1, e2, e3⟩ := h4.2.2.1.2 tp q7
  have bad : D_Model_in a (nI 0) (nI 5) false → D_Model_about a th lk true sT sB sL (nI tp) mC mFC (nI 0) (nI 2) lk := by
    intro hin
    refine ⟨0, ?_⟩
    simp (disch := omega) only [q_lit, le_T, le_F, lt_T, lt_F, eq_T, eq_F, m1_lt, m1_le, lt_m1, le_m1, eq_m1, m1_eq, nI_add, nI_sub, nI_dec, nI_mul, nI_or, nI_and, nI_div, nI_mod, and_255, and_31, and_1, and_63, nI_shl, nI_shr, bI_F, bI_1, vp_T, cl_T, true_implies, false_implies, not_true_eq_false, not_false_eq_true, true_and, and_true, false_and, and_false, Bool.false_eq_true, Bool.true_eq_false, reduceCtorEq, implies_true]
    refine ⟨_, hin, ?_⟩
    simp (disch := omega) only [q_lit, le_T, le_F, lt_T, lt_F, eq_T, eq_F, m1_lt, m1_le, lt_m1, le_m1, eq_m1, m1_eq, nI_add, nI_sub, nI_dec, nI_mul, nI_or, nI_and, nI_div, nI_mod, and_255, and_31, and_1, and_63, nI_shl, nI_shr, bI_F, bI_1, vp_T, cl_T, true_implies, false_implies, not_true_eq_false, not_false_eq_true, true_and, and_true, false_and, and_false, Bool.false_eq_true, Bool.true_eq_false, reduceCtorEq, implies_true]
    exact ⟨_, _, rf01 th, by simp (disch := omega) only [q_lit, le_T, le_F, lt_T, lt_F, eq_T, eq_F, m1_lt, m1_le, lt_m1, le_m1, eq_m1, m1_eq, nI_add, nI_sub, nI_dec, nI_mul, nI_or, nI_and, nI_div, nI_mod, and_255, and_31, and_1, and_63, nI_shl, nI_shr, bI_F, bI_1, vp_T, cl_T, true_implies, false_implies, not_true_eq_false, not_false_eq_true, true_and, and_true, false_and, and_false, Bool.false_eq_true, Bool.true_eq_false, reduceCtorEq, implies_true]⟩
  rcases sgn_cases a with ha | ⟨j, hj, rfl⟩
  · refine Or.inr ⟨Or.inl ⟨rq_T, ?_⟩, bad (in_neg ha (by omega) _)⟩
    simp only [q_lit, neg_ne ha 0 (by omega), neg_ne ha 1 (by omega), neg_ne ha 2 (by omega), neg_ne ha 3 (by omega), neg_ne ha 4 (by omega), neg_ne ha 5 (by omega), false_implies, not_false_eq_true, true_implies, true_and]
  · have hin := mo_in (x := j) (a := 0) (b := 5) hj (by omega) (by omega)
    by_cases h5 : j ≤ 5
    · rw [decide_eq_true h5, decide_eq_true (by omega), Bool.and_true] at hin
      have mod : ∀ r, (T_Model_about true sT sB sL (nI tp) mC mFC r (nI 0) (nI (lnks (bd bs tp)).length) 1 (nI j) (nI 0) lk) → D_Model_about (nI j) th lk true sT sB sL (nI tp) mC mFC r (nI 0) (nI (lnks (bd bs tp)).length) := by
        intro r hr
        refine ⟨1, ?_⟩
        simp (disch := omega) only [q_lit, le_T, le_F, lt_T, lt_F, eq_T, eq_F, m1_lt, m1_le, lt_m1, le_m1, eq_m1, m1_eq, nI_add, nI_sub, nI_dec, nI_mul, nI_or, nI_and, nI_div, nI_mod, and_255, and_31, and_1, and_63, nI_shl, nI_shr, bI_F, bI_1, vp_T, cl_T, true_implies, false_implies, not_true_eq_false, not_false_eq_true, true_and, and_true, false_and, and_false, Bool.false_eq_true, Bool.true_eq_false, reduceCtorEq, implies_true]
        refine ⟨_, hin, ?_⟩
        simp (disch := omega) only [q_lit, le_T, le_F, lt_T, lt_F, eq_T, eq_F, m1_lt, m1_le, lt_m1, le_m1, eq_m1, m1_eq, nI_add, nI_sub, nI_dec, nI_mul, nI_or, nI_and, nI_div, nI_mod, and_255, and_31, and_1, and_63, nI_shl, nI_shr, bI_F, bI_1, vp_T, cl_T, true_implies, false_implies, not_true_eq_false, not_false_eq_true, true_and, and_true, false_and, and_false, Bool.false_eq_true, Bool.true_eq_false, reduceCtorEq, implies_true]
        refine ⟨_, _, rf00 th, ?_⟩
        simp (disch := omega) only [q_lit, le_T, le_F, lt_T, lt_F, eq_T, eq_F, m1_lt, m1_le, lt_m1, le_m1, eq_m1, m1_eq, nI_add, nI_sub, nI_dec, nI_mul, nI_or, nI_and, nI_div, nI_mod, and_255, and_31, and_1, and_63, nI_shl, nI_shr, bI_F, bI_1, vp_T, cl_T, true_implies, false_implies, not_true_eq_false, not_false_eq_true, true_and, and_true, false_and, and_false, Bool.false_eq_true, Bool.true_eq_false, reduceCtorEq, implies_true]
        exact hr
      refine Or.inl ?_
      rcases (show j = 0 ∨ j = 1 ∨ j = 2 ∨ j = 3 ∨ j = 4 ∨ j = 5 by omega) with e | e | e | e | e | e <;> subst e
      · refine ⟨nI tp, _, ⟨rq_T, ?_⟩, mod _ ?_⟩
        · simp (disch := omega) only [q_lit, le_T, le_F, lt_T, lt_F, eq_T, eq_F, m1_lt, m1_le, lt_m1, le_m1, eq_m1, m1_eq, nI_add, nI_sub, nI_dec, nI_mul, nI_or, nI_and, nI_div, nI_mod, and_255, and_31, and_1, and_63, nI_shl, nI_shr, bI_F, bI_1, vp_T, cl_T, true_implies, false_implies, not_true_eq_false, not_false_eq_true, true_and, and_true, false_and, and_false, Bool.false_eq_true, Bool.true_eq_false, reduceCtorEq, implies_true]
        · simp (disch := omega) only [T_Model_about, S_Model_about, B_Model_about_42, q_lit, le_T, le_F, lt_T, lt_F, eq_T, eq_F, m1_lt, m1_le, lt_m1, le_m1, eq_m1, m1_eq, nI_add, nI_sub, nI_dec, nI_mul, nI_or, nI_and, nI_div, nI_mod, and_255, and_31, and_1, and_63, nI_shl, nI_shr, bI_F, bI_1, vp_T, cl_T, true_implies, false_implies, not_true_eq_false, not_false_eq_true, true_and, and_true, false_and, and_false, Bool.false_eq_true, Bool.true_eq_false, reduceCtorEq, implies_true, q_lc_eq, q_lc_ge, q_lc_gt, q_lc_le, lN_or, lN_and, lN_shl, lN_shr, nI_L, lN_I, l_0]
          exact ⟨_, _, hmt, by simp (disch := omega) only [q_lit, le_T, le_F, lt_T, lt_F, eq_T, eq_F, m1_lt, m1_le, lt_m1, le_m1, eq_m1, m1_eq, nI_add, nI_sub, nI_dec, nI_mul, nI_or, nI_and, nI_div, nI_mod, and_255, and_31, and_1, and_63, nI_shl, nI_shr, bI_F, bI_1, vp_T, cl_T, true_implies, false_implies, not_true_eq_false, not_false_eq_true, true_and, and_true, false_and, and_false, Bool.false_eq_true, Bool.true_eq_false, reduceCtorEq, implies_true]⟩
      · refine ⟨bbT, _, ⟨rq_T, ?_⟩, mod _ ?_⟩
        · simp (disch := omega) only [q_lit, le_T, le_F, lt_T, lt_F, eq_T, eq_F, m1_lt, m1_le, lt_m1, le_m1, eq_m1, m1_eq, nI_add, nI_sub, nI_dec, nI_mul, nI_or, nI_and, nI_div, nI_mod, and_255, and_31, and_1, and_63, nI_shl, nI_shr, bI_F, bI_1, vp_T, cl_T, true_implies, false_implies, not_true_eq_false, not_false_eq_true, true_and, and_true, false_and, and_false, Bool.false_eq_true, Bool.true_eq_false, reduceCtorEq, implies_true]
        · simp (disch := omega) only [T_Model_about, S_Model_about, B_Model_about_42, q_lit, le_T, le_F, lt_T, lt_F, eq_T, eq_F, m1_lt, m1_le, lt_m1, le_m1, eq_m1, m1_eq, nI_add, nI_sub, nI_dec, nI_mul, nI_or, nI_and, nI_div, nI_mod, and_255, and_31, and_1, and_63, nI_shl, nI_shr, bI_F, bI_1, vp_T, cl_T, true_implies, false_implies, not_true_eq_false, not_false_eq_true, true_and, and_true, false_and, and_false, Bool.false_eq_true, Bool.true_eq_false, reduceCtorEq, implies_true, q_lc_eq, q_lc_ge, q_lc_gt, q_lc_le, lN_or, lN_and, lN_shl, lN_shr, nI_L, lN_I, l_0]
          rw [hT, hsT]
          exact ⟨_, _, hmt, by simp (disch := omega) only [q_lit, le_T, le_F, lt_T, lt_F, eq_T, eq_F, m1_lt, m1_le, lt_m1, le_m1, eq_m1, m1_eq, nI_add, nI_sub, nI_dec, nI_mul, nI_or, nI_and, nI_div, nI_mod, and_255, and_31, and_1, and_63, nI_shl, nI_shr, bI_F, bI_1, vp_T, cl_T, true_implies, false_implies, not_true_eq_false, not_false_eq_true, true_and, and_true, false_and, and_false, Bool.false_eq_true, Bool.true_eq_false, reduceCtorEq, implies_true]⟩
      · refine ⟨nI (lnks (bd bs tp)).length, _, ⟨rq_T, ?_⟩, mod _ ?_⟩
        · simp (disch := omega) only [q_lit, le_T, le_F, lt_T, lt_F, eq_T, eq_F, m1_lt, m1_le, lt_m1, le_m1, eq_m1, m1_eq, nI_add, nI_sub, nI_dec, nI_mul, nI_or, nI_and, nI_div, nI_mod, and_255, and_31, and_1, and_63, nI_shl, nI_shr, bI_F, bI_1, vp_T, cl_T, true_implies, false_implies, not_true_eq_false, not_false_eq_true, true_and, and_true, false_and, and_false, Bool.false_eq_true, Bool.true_eq_false, reduceCtorEq, implies_true]
          exact ⟨_, hcl, rfl⟩
        · simp (disch := omega) only [T_Model_about, S_Model_about, B_Model_about_42, q_lit, le_T, le_F, lt_T, lt_F, eq_T, eq_F, m1_lt, m1_le, lt_m1, le_m1, eq_m1, m1_eq, nI_add, nI_sub, nI_dec, nI_mul, nI_or, nI_and, nI_div, nI_mod, and_255, and_31, and_1, and_63, nI_shl, nI_shr, bI_F, bI_1, vp_T, cl_T, true_implies, false_implies, not_true_eq_false, not_false_eq_true, true_and, and_true, false_and, and_false, Bool.false_eq_true, Bool.true_eq_false, reduceCtorEq, implies_true, q_lc_eq, q_lc_ge, q_lc_gt, q_lc_le, lN_or, lN_and, lN_shl, lN_shr, nI_L, lN_I, l_0]
          exact ⟨_, _, hmt, by simp (disch := omega) only [q_lit, le_T, le_F, lt_T, lt_F, eq_T, eq_F, m1_lt, m1_le, lt_m1, le_m1, eq_m1, m1_eq, nI_add, nI_sub, nI_dec, nI_mul, nI_or, nI_and, nI_div, nI_mod, and_255, and_31, and_1, and_63, nI_shl, nI_shr, bI_F, bI_1, vp_T, cl_T, true_implies, false_implies, not_true_eq_false, not_false_eq_true, true_and, and_true, false_and, and_false, Bool.false_eq_true, Bool.true_eq_false, reduceCtorEq, implies_true]⟩
      · refine ⟨BC, _, ⟨rq_T, ?_⟩, mod _ ?_⟩
        · simp (disch := omega) only [q_lit, le_T, le_F, lt_T, lt_F, eq_T, eq_F, m1_lt, m1_le, lt_m1, le_m1, eq_m1, m1_eq, nI_add, nI_sub, nI_dec, nI_mul, nI_or, nI_and, nI_div, nI_mod, and_255, and_31, and_1, and_63, nI_shl, nI_shr, bI_F, bI_1, vp_T, cl_T, true_implies, false_implies, not_true_eq_false, not_false_eq_true, true_and, and_true, false_and, and_false, Bool.false_eq_true, Bool.true_eq_false, reduceCtorEq, implies_true]
        · simp (disch := omega) only [T_Model_about, S_Model_about, B_Model_about_42, q_lit, le_T, le_F, lt_T, lt_F, eq_T, eq_F, m1_lt, m1_le, lt_m1, le_m1, eq_m1, m1_eq, nI_add, nI_sub, nI_dec, nI_mul, nI_or, nI_and, nI_div, nI_mod, and_255, and_31, and_1, and_63, nI_shl, nI_shr, bI_F, bI_1, vp_T, cl_T, true_implies, false_implies, not_true_eq_false, not_false_eq_true, true_and, and_true, false_and, and_false, Bool.false_eq_true, Bool.true_eq_false, reduceCtorEq, implies_true, q_lc_eq, q_lc_ge, q_lc_gt, q_lc_le, lN_or, lN_and, lN_shl, lN_shr, nI_L, lN_I, l_0]
          rw [q1.1, q2.1]
          exact ⟨_, _, hmt, by simp (disch := omega) only [q_lit, le_T, le_F, lt_T, lt_F, eq_T, eq_F, m1_lt, m1_le, lt_m1, le_m1, eq_m1, m1_eq, nI_add, nI_sub, nI_dec, nI_mul, nI_or, nI_and, nI_div, nI_mod, and_255, and_31, and_1, and_63, nI_shl, nI_shr, bI_F, bI_1, vp_T, cl_T, true_implies, false_implies, not_true_eq_false, not_false_eq_true, true_and, and_true, false_and, and_false, Bool.false_eq_true, Bool.true_eq_false, reduceCtorEq, implies_true]⟩
      · refine ⟨FC, _, ⟨rq_T, ?_⟩, mod _ ?_⟩
        · simp (disch := omega) only [q_lit, le_T, le_F, lt_T, lt_F, eq_T, eq_F, m1_lt, m1_le, lt_m1, le_m1, eq_m1, m1_eq, nI_add, nI_sub, nI_dec, nI_mul, nI_or, nI_and, nI_div, nI_mod, and_255, and_31, and_1, and_63, nI_shl, nI_shr, bI_F, bI_1, vp_T, cl_T, true_implies, false_implies, not_true_eq_false, not_false_eq_true, true_and, and_true, false_and, and_false, Bool.false_eq_true, Bool.true_eq_false, reduceCtorEq, implies_true]
        · simp (disch := omega) only [T_Model_about, S_Model_about, B_Model_about_42, q_lit, le_T, le_F, lt_T, lt_F, eq_T, eq_F, m1_lt, m1_le, lt_m1, le_m1, eq_m1, m1_eq, nI_add, nI_sub, nI_dec, nI_mul, nI_or, nI_and, nI_div, nI_mod, and_255, and_31, and_1, and_63, nI_shl, nI_shr, bI_F, bI_1, vp_T, cl_T, true_implies, false_implies, not_true_eq_false, not_false_eq_true, true_and, and_true, false_and, and_false, Bool.false_eq_true, Bool.true_eq_false, reduceCtorEq, implies_true, q_lc_eq, q_lc_ge, q_lc_gt, q_lc_le, lN_or, lN_and, lN_shl, lN_shr, nI_L, lN_I, l_0]
          rw [q3.1, q4.1]
          exact ⟨_, _, hmt, by simp (disch := omega) only [q_lit, le_T, le_F, lt_T, lt_F, eq_T, eq_F, m1_lt, m1_le, lt_m1, le_m1, eq_m1, m1_eq, nI_add, nI_sub, nI_dec, nI_mul, nI_or, nI_and, nI_div, nI_mod, and_255, and_31, and_1, and_63, nI_shl, nI_shr, bI_F, bI_1, vp_T, cl_T, true_implies, false_implies, not_true_eq_false, not_false_eq_true, true_and, and_true, false_and, and_false, Bool.false_eq_true, Bool.true_eq_false, reduceCtorEq, implies_true]⟩
      · refine ⟨nI (bd bs tp).length, _, ⟨rq_T, ?_⟩, mod _ ?_⟩
        · simp (disch := omega) only [q_lit, le_T, le_F, lt_T, lt_F, eq_T, eq_F, m1_lt, m1_le, lt_m1, le_m1, eq_m1, m1_eq, nI_add, nI_sub, nI_dec, nI_mul, nI_or, nI_and, nI_div, nI_mod, and_255, and_31, and_1, and_63, nI_shl, nI_shr, bI_F, bI_1, vp_T, cl_T, true_implies, false_implies, not_true_eq_false, not_false_eq_true, true_and, and_true, false_and, and_false, Bool.false_eq_true, Bool.true_eq_false, reduceCtorEq, implies_true]
          exact ⟨_, hln, rfl⟩
        · simp (disch := omega) only [T_Model_about, S_Model_about, B_Model_about_42, q_lit, le_T, le_F, lt_T, lt_F, eq_T, eq_F, m1_lt, m1_le, lt_m1, le_m1, eq_m1, m1_eq, nI_add, nI_sub, nI_dec, nI_mul, nI_or, nI_and, nI_div, nI_mod, and_255, and_31, and_1, and_63, nI_shl, nI_shr, bI_F, bI_1, vp_T, cl_T, true_implies, false_implies, not_true_eq_false, not_false_eq_true, true_and, and_true, false_and, and_false, Bool.false_eq_true, Bool.true_eq_false, reduceCtorEq, implies_true, q_lc_eq, q_lc_ge, q_lc_gt, q_lc_le, lN_or, lN_and, lN_shl, lN_shr, nI_L, lN_I, l_0]
          exact ⟨_, _, hmt, by simp (disch := omega) only [e1, q_lit, le_T, le_F, lt_T, lt_F, eq_T, eq_F, m1_lt, m1_le, lt_m1, le_m1, eq_m1, m1_eq, nI_add, nI_sub, nI_dec, nI_mul, nI_or, nI_and, nI_div, nI_mod, and_255, and_31, and_1, and_63, nI_shl, nI_shr, bI_F, bI_1, vp_T, cl_T, true_implies, false_implies, not_true_eq_false, not_false_eq_true, true_and, and_true, false_and, and_false, Bool.false_eq_true, Bool.true_eq_false, reduceCtorEq, implies_true]⟩
    · rw [decide_eq_false h5, Bool.and_false] at hin
      refine Or.inr ⟨Or.inl ⟨rq_T, ?_⟩, bad hin⟩
      simp (disch := omega) only [q_lit, le_T, le_F, lt_T, lt_F, eq_T, eq_F, m1_lt, m1_le, lt_m1, le_m1, eq_m1, m1_eq, nI_add, nI_sub, nI_dec, nI_mul, nI_or, nI_and, nI_div, nI_mod, and_255, and_31, and_1, and_63, nI_shl, nI_shr, bI_F, bI_1, vp_T, cl_T, true_implies, false_implies, not_true_eq_false, not_false_eq_true, true_and, and_true, false_and, and_false, Bool.false_eq_true, Bool.true_eq_false, reduceCtorEq, implies_true]
theorem pr_aboutC {a th lk sT mT mC mFC : Int32} {sB sL : Nat → Int32} {T : Int32} {bbS bbBE : Nat → Int32} {bbBC bbT : Int32} : X_HelpFile_about 2550 a false T bbS bbBE bbBC bbT "java/lang/IllegalStateException" ∧ D_Model_about a th lk false sT sB sL mT mC mFC (nI 0) (nI 1) lk := by
  refine ⟨Or.inr rq_X, 0, ?_⟩
  simp (disch := omega) only [q_lit, le_T, le_F, lt_T, lt_F, eq_T, eq_F, m1_lt, m1_le, lt_m1, le_m1, eq_m1, m1_eq, nI_add, nI_sub, nI_dec, nI_mul, nI_or, nI_and, nI_div, nI_mod, and_255, and_31, and_1, and_63, nI_shl, nI_shr, bI_F, bI_1, vp_T, cl_T, true_implies, false_implies, not_true_eq_false, not_false_eq_true, true_and, and_true, false_and, and_false, Bool.false_eq_true, Bool.true_eq_false, reduceCtorEq, implies_true]
  exact ⟨_, _, rf10 th, by simp (disch := omega) only [q_lit, le_T, le_F, lt_T, lt_F, eq_T, eq_F, m1_lt, m1_le, lt_m1, le_m1, eq_m1, m1_eq, nI_add, nI_sub, nI_dec, nI_mul, nI_or, nI_and, nI_div, nI_mod, and_255, and_31, and_1, and_63, nI_shl, nI_shr, bI_F, bI_1, vp_T, cl_T, true_implies, false_implies, not_true_eq_false, not_false_eq_true, true_and, and_true, false_and, and_false, Bool.false_eq_true, Bool.true_eq_false, reduceCtorEq, implies_true]⟩
/-! keyword -/
set_option maxRecDepth 100000 in
theorem mk1 {Q : List Nat} {mq : Nat → Int32} {mC : Int32} (hq : Rw 40 mq mC Q) (hqv : ∀ x ∈ Q, 32 ≤ x ∧ x ≤ 126) {sK : Int32} {sKL sKG sKB : Nat → Int32} {m : q_M2} (hm : MW 8 250 sKL sKG sKB sK m) (hs : Srt (codes m)) {th : Int32} {op : Bool} (k : Nat) (hk : k ≤ Q.length) (HL : Int32) (H : Nat → Int32) (hh : q_Hd H HL ((ltrs (Q.take k)).map smL)) (V : Int32) :
    ∃ HL' H', ∃ q, T_Model_keyword op sK sKL sKG sKB mq (nI (q_bitsOf (enc (ltrs Q)) (codes m))) th HL' H' (nI 0) (nI (if m.length = 0 then 0 else wayN (codes m) (enc (ltrs Q)) (topE m.length) 0)) q 1 (nI k) th HL H mC V := by
  have h40 := hq.2.1
  have hC := hq.1
  by_cases h1 : k < Q.length
  · have e1 := hq.2.2.2 k h1
    have hx := hqv _ (getD_mem h1 0)
    have hlet := mo_isLetter (x := Q.getD k 0) (by omega)
    have hsm := mo_small (x := Q.getD k 0) (by omega)
    have hsn := ltrs_snoc Q h1
    have hll := ltrs_len Q k
    cases hl : isLet (Q.getD k 0) with
    | false =>
      rw [hl] at hlet
      rw [hl, if_neg (by simp)] at hsn
      rw [← hsn] at hh
      obtain ⟨HL', H', q, hq2⟩ := mk1 hq hqv hm hs (th := th) (op := op) (k + 1) h1 HL H hh V
      refine ⟨HL', H', q + 1, ?_⟩
      rw [T_Model_keyword]
      rw [hC] at hq2 ⊢
      simp (disch := omega) only [S_Model_keyword, B_Model_keyword_29, e1, q_lit, le_T, le_F, lt_T, lt_F, eq_T, eq_F, m1_lt, m1_le, lt_m1, le_m1, eq_m1, m1_eq, nI_add, nI_sub, nI_dec, nI_mul, nI_or, nI_and, nI_div, nI_mod, and_255, and_31, and_1, and_63, nI_shl, nI_shr, bI_F, bI_1, vp_T, cl_T, true_implies, false_implies, not_true_eq_false, not_false_eq_true, true_and, and_true, false_and, and_false, Bool.false_eq_true, Bool.true_eq_false, reduceCtorEq, implies_true]
      exact ⟨_, hlet, by simp (disch := omega) only [q_lit, le_T, le_F, lt_T, lt_F, eq_T, eq_F, m1_lt, m1_le, lt_m1, le_m1, eq_m1, m1_eq, nI_add, nI_sub, nI_dec, nI_mul, nI_or, nI_and, nI_div, nI_mod, and_255, and_31, and_1, and_63, nI_shl, nI_shr, bI_F, bI_1, vp_T, cl_T, true_implies, false_implies, not_true_eq_false, not_false_eq_true, true_and, and_true, false_and, and_false, Bool.false_eq_true, Bool.true_eq_false, reduceCtorEq, implies_true]; exact hq2⟩
    | true =>
      rw [hl] at hlet
      rw [hl, if_pos rfl] at hsn
      have hHL := hh.1
      have hlen : ((ltrs (Q.take k)).map smL).length = (ltrs (Q.take k)).length := by simp
      have hh2 := hh.app (by rw [hlen]; omega) (smL (Q.getD k 0))
      have e2 : (ltrs (Q.take (k + 1))).map smL = (ltrs (Q.take k)).map smL ++ [smL (Q.getD k 0)] := by rw [hsn]; simp
      rw [← e2] at hh2
      obtain ⟨HL', H', q, hq2⟩ := mk1 hq hqv hm hs (th := th) (op := op) (k + 1) h1 _ _ hh2 V
      refine ⟨HL', H', q + 1, ?_⟩
      rw [T_Model_keyword]
      rw [hC] at hq2 ⊢
      rw [hHL]
      rw [hlen] at hq2 ⊢
      simp (disch := omega) only [S_Model_keyword, B_Model_keyword_29, e1, q_lit, le_T, le_F, lt_T, lt_F, eq_T, eq_F, m1_lt, m1_le, lt_m1, le_m1, eq_m1, m1_eq, nI_add, nI_sub, nI_dec, nI_mul, nI_or, nI_and, nI_div, nI_mod, and_255, and_31, and_1, and_63, nI_shl, nI_shr, bI_F, bI_1, vp_T, cl_T, true_implies, false_implies, not_true_eq_false, not_false_eq_true, true_and, and_true, false_and, and_false, Bool.false_eq_true, Bool.true_eq_false, reduceCtorEq, implies_true]
      exact ⟨_, hlet, by simp (disch := omega) only [q_lit, le_T, le_F, lt_T, lt_F, eq_T, eq_F, m1_lt, m1_le, lt_m1, le_m1, eq_m1, m1_eq, nI_add, nI_sub, nI_dec, nI_mul, nI_or, nI_and, nI_div, nI_mod, and_255, and_31, and_1, and_63, nI_shl, nI_shr, bI_F, bI_1, vp_T, cl_T, true_implies, false_implies, not_true_eq_false, not_false_eq_true, true_and, and_true, false_and, and_false, Bool.false_eq_true, Bool.true_eq_false, reduceCtorEq, implies_true]; exact ⟨_, hsm, hq2⟩⟩
  · have hke : k = Q.length := by omega
    subst hke
    rw [List.take_length] at hh
    have hwd : q_Wd ((ltrs Q).map smL) := q_Wd.sm (fun x hx => by unfold ltrs at hx; exact (List.mem_filter.mp hx).2)
    have hm2 := hm.2.1
    by_cases h0 : m.length = 0
    · refine ⟨HL, H, 1, ?_⟩
      rw [T_Model_keyword, if_pos h0, hC, hm.1]
      have hb : q_bitsOf (enc (ltrs Q)) (codes m) = 0 := by
        unfold q_bitsOf
        rw [if_neg (by rw [codes_len2]; omega)]
      rw [hb]
      simp (disch := omega) only [S_Model_keyword, B_Model_keyword_29, q_lit, le_T, le_F, lt_T, lt_F, eq_T, eq_F, m1_lt, m1_le, lt_m1, le_m1, eq_m1, m1_eq, nI_add, nI_sub, nI_dec, nI_mul, nI_or, nI_and, nI_div, nI_mod, and_255, and_31, and_1, and_63, nI_shl, nI_shr, bI_F, bI_1, vp_T, cl_T, true_implies, false_implies, not_true_eq_false, not_false_eq_true, true_and, and_true, false_and, and_false, Bool.false_eq_true, Bool.true_eq_false, reduceCtorEq, implies_true]
    · have hd := mo_descend hh hwd hm h0 (nI 0)
      rw [enc_sm] at hd
      have hw := wayB_eq (l := codes m) hs (by rw [codes_len2]; exact hm2) (enc (ltrs Q))
      rw [codes_len2] at hw
      rw [hw] at hd
      refine ⟨HL, H, 1, ?_⟩
      rw [T_Model_keyword, if_neg h0, hC]
      rw [hm.1] at hd ⊢
      simp (disch := omega) only [S_Model_keyword, B_Model_keyword_29, q_lit, le_T, le_F, lt_T, lt_F, eq_T, eq_F, m1_lt, m1_le, lt_m1, le_m1, eq_m1, m1_eq, nI_add, nI_sub, nI_dec, nI_mul, nI_or, nI_and, nI_div, nI_mod, and_255, and_31, and_1, and_63, nI_shl, nI_shr, bI_F, bI_1, vp_T, cl_T, true_implies, false_implies, not_true_eq_false, not_false_eq_true, true_and, and_true, false_and, and_false, Bool.false_eq_true, Bool.true_eq_false, reduceCtorEq, implies_true]
      exact ⟨_, _, hd, rfl, rfl⟩
termination_by Q.length - k
decreasing_by all_goals omega
theorem pr_kwd {bbN : Nat → Int64} {bbS bbBE : Nat → Int32} {bbBC : Int32} {bbKW : Nat → Int64} {bbKT : Nat → Int32} {bbKC : Int32} {bbVW : Nat → Int64} {bbVT : Nat → Int32} {bbVC bbT sT : Int32} {q_sN sB sL : Nat → Int32} {sK : Int32} {sKL sKG sKB : Nat → Int32} {sW : Int32} {sWL sWG sWB : Nat → Int32} {ns bs : List (List Nat)} {ks : q_M2} (h : q_OC bbN bbS bbBE bbBC bbKW bbKT bbKC bbVW bbVT bbVC bbT sT q_sN sB sL sK sKL sKG sKB sW sWL sWG sWB ns bs ks) {Q : List Nat} {E mE : Nat → Int32} {C mC : Int32} (hq : Rw 40 E C Q) (hm : Rw 40 mE mC Q) (hqv : ∀ x ∈ Q, 32 ≤ x ∧ x ≤ 126) (O : Bool) (Y th HL : Int32) (H : Nat → Int32) (V : Int32) :
    ∃ r Y' HL' H', D_HelpFile_keyword 40 252 true Y E C O bbKW bbKT bbKC r Y' (nI 0) false ∧ D_Model_keyword th HL H true sK sKL sKG sKB mC mE V r (nI 0) HL' H' (nI 0) Y' := by
  obtain ⟨h1, h2, h3, h4⟩ := h
  have hqv2 : ∀ i, Q.getD i 0 < 2147483648 := fun i => by
    by_cases hi : i < Q.length
    · have := hqv _ (getD_mem hi 0); omega
    · rw [getD_ge (by omega)]; omega
  have ha := qu_alone hq hqv2
  have hcut := row_clr hq O
  have hn := tr_nodes h2.2.2.2.1 (Sml.codes ks) (by rw [codes_len2]; exact h1.2.2.2.2.2.2.1) (x := enc (ltrs Q)) (enc_lt _)
  have hto := wl_topicsOf h2.2.2.2.1 h2.2.2.2.2 (Sml.codes ks) (x := enc (ltrs Q)) (enc_lt _)
  obtain ⟨HL', H', q, hk⟩ := mk1 hm hqv h4.2.2.2.1 h2.2.2.2.2 (th := nI 0) (op := true) 0 (by omega) (nI 0) H ⟨rfl, by simp [ltrs], fun j hj => by simp [ltrs] at hj⟩ V
  rw [codes_len2] at hn
  refine ⟨_, _, HL', H', ⟨rq_T, _, ha, _, _, hcut, _, hn, _, hto, rfl, rfl, rfl, rfl⟩, q + 1, ?_⟩
  simp (disch := omega) only [q_lit, le_T, le_F, lt_T, lt_F, eq_T, eq_F, m1_lt, m1_le, lt_m1, le_m1, eq_m1, m1_eq, nI_add, nI_sub, nI_dec, nI_mul, nI_or, nI_and, nI_div, nI_mod, and_255, and_31, and_1, and_63, nI_shl, nI_shr, bI_F, bI_1, vp_T, cl_T, true_implies, false_implies, not_true_eq_false, not_false_eq_true, true_and, and_true, false_and, and_false, Bool.false_eq_true, Bool.true_eq_false, reduceCtorEq, implies_true]
  refine ⟨_, _, rf00 th, ?_⟩
  simp (disch := omega) only [q_lit, le_T, le_F, lt_T, lt_F, eq_T, eq_F, m1_lt, m1_le, lt_m1, le_m1, eq_m1, m1_eq, nI_add, nI_sub, nI_dec, nI_mul, nI_or, nI_and, nI_div, nI_mod, and_255, and_31, and_1, and_63, nI_shl, nI_shr, bI_F, bI_1, vp_T, cl_T, true_implies, false_implies, not_true_eq_false, not_false_eq_true, true_and, and_true, false_and, and_false, Bool.false_eq_true, Bool.true_eq_false, reduceCtorEq, implies_true]
  rw [T_Model_keyword]
  simp (disch := omega) only [S_Model_keyword, B_Model_keyword_22, q_lit, le_T, le_F, lt_T, lt_F, eq_T, eq_F, m1_lt, m1_le, lt_m1, le_m1, eq_m1, m1_eq, nI_add, nI_sub, nI_dec, nI_mul, nI_or, nI_and, nI_div, nI_mod, and_255, and_31, and_1, and_63, nI_shl, nI_shr, bI_F, bI_1, vp_T, cl_T, true_implies, false_implies, not_true_eq_false, not_false_eq_true, true_and, and_true, false_and, and_false, Bool.false_eq_true, Bool.true_eq_false, reduceCtorEq, implies_true]
  exact hk
theorem pr_kwdC {E : Nat → Int32} {C th HL : Int32} {H : Nat → Int32} {sK : Int32} {sKL sKG sKB : Nat → Int32} {mC : Int32} {mE : Nat → Int32} {V : Int32} : X_HelpFile_keyword 40 false E C "java/lang/IllegalStateException" ∧ D_Model_keyword th HL H false sK sKL sKG sKB mC mE V (nI 0) (nI 1) HL H mC V := by
  refine ⟨Or.inr rq_X, 0, ?_⟩
  simp (disch := omega) only [q_lit, le_T, le_F, lt_T, lt_F, eq_T, eq_F, m1_lt, m1_le, lt_m1, le_m1, eq_m1, m1_eq, nI_add, nI_sub, nI_dec, nI_mul, nI_or, nI_and, nI_div, nI_mod, and_255, and_31, and_1, and_63, nI_shl, nI_shr, bI_F, bI_1, vp_T, cl_T, true_implies, false_implies, not_true_eq_false, not_false_eq_true, true_and, and_true, false_and, and_false, Bool.false_eq_true, Bool.true_eq_false, reduceCtorEq, implies_true]
  exact ⟨_, _, rf10 th, by simp (disch := omega) only [q_lit, le_T, le_F, lt_T, lt_F, eq_T, eq_F, m1_lt, m1_le, lt_m1, le_m1, eq_m1, m1_eq, nI_add, nI_sub, nI_dec, nI_mul, nI_or, nI_and, nI_div, nI_mod, and_255, and_31, and_1, and_63, nI_shl, nI_shr, bI_F, bI_1, vp_T, cl_T, true_implies, false_implies, not_true_eq_false, not_false_eq_true, true_and, and_true, false_and, and_false, Bool.false_eq_true, Bool.true_eq_false, reduceCtorEq, implies_true]⟩
/-! search -/
theorem pr_search {bbN : Nat → Int64} {bbS bbBE : Nat → Int32} {bbBC : Int32} {bbKW : Nat → Int64} {bbKT : Nat → Int32} {bbKC : Int32} {bbVW : Nat → Int64} {bbVT : Nat → Int32} {bbVC bbT sT : Int32} {q_sN sB sL : Nat → Int32} {sK : Int32} {sKL sKG sKB : Nat → Int32} {sW : Int32} {sWL sWG sWB : Nat → Int32} {ns bs : List (List Nat)} {ks : q_M2} (h : q_OC bbN bbS bbBE bbBC bbKW bbKT bbKC bbVW bbVT bbVC bbT sT q_sN sB sL sK sKL sKG sKB sW sWL sWG sWB ns bs ks) {Q : List Nat} {E mE : Nat → Int32} {C mC : Int32} (hq : Rw 40 E C Q) (hm : Rw 40 mE mC Q) (hqv : ∀ x ∈ Q, 32 ≤ x ∧ x ≤ 126) (O : Bool) (F J N : Nat → Int32) (e Lv : Int32) (D : Bool) (th HL : Int32) (H Va : Nat → Int32) (vc : Int32) (Sg : Nat → Int32) (gc : Int32) :
    ∃ r F' J' N' e' L' D' HL' H' V' vc' G' gc', D_HelpFile_search 40 1275 true E C O F J N e Lv D bbVW bbVT bbVC bbT r (nI 0) false F' J' N' e' L' D' ∧ D_Model_search th HL H true sT sW sWL sWG sWB mC mE Va vc Sg gc r (nI 0) HL' H' (nI 0) V' vc' G' gc' := by
  obtain ⟨h1, h2, h3, h4⟩ := h
  have hqv2 : ∀ i, Q.getD i 0 < 2147483648 := fun i => by
    by_cases hi : i < Q.length
    · have := hqv _ (getD_mem hi 0); omega
    · rw [getD_ge (by omega)]; omega
  have hsr := gwA_srt bs
  have hbits : ∀ x, q_bitsOf x (codes (gwA bs 0 [])) < 2 ^ bs.length := by
    intro x
    unfold q_bitsOf
    split
    · rename_i h5
      have h6 : plc x (codes (gwA bs 0 [])) < (gwA bs 0 []).length := by have := h5.1; rw [codes_len2] at this; exact this
      rw [codes_cb]
      exact ((gwA_kw bs).at h6).2.2.2.2
    · exact Nat.two_pow_pos _
  obtain ⟨r, ⟨F', J', N', E', L', D', a1⟩, HL', H', V', vc', G', gc', b1⟩ := qu_find (tn := bs.length) h1.2.2.1 (ws := gwA bs 0 []) ⟨hq, hqv2, h3, hsr, Sml.codes _⟩ ⟨hm, hqv2, h4.2.2.2.2, hsr, h1.2.2.1, hbits⟩ F J N e Lv D HL H Va Sg vc gc
  have hT : bbT = nI bs.length := h2.1.1
  have hsT : sT = nI bs.length := h4.1
  rw [← hT] at a1
  rw [← hsT] at b1
  refine ⟨r, F', J', N', E', L', D', HL', H', V', vc', G', gc', ⟨rq_T, _, _, _, _, _, _, _, a1, _, _, row_clr hq O, rfl, rfl, rfl, rfl, rfl, rfl, rfl, rfl, rfl⟩, 1, ?_⟩
  simp (disch := omega) only [q_lit, le_T, le_F, lt_T, lt_F, eq_T, eq_F, m1_lt, m1_le, lt_m1, le_m1, eq_m1, m1_eq, nI_add, nI_sub, nI_dec, nI_mul, nI_or, nI_and, nI_div, nI_mod, and_255, and_31, and_1, and_63, nI_shl, nI_shr, bI_F, bI_1, vp_T, cl_T, true_implies, false_implies, not_true_eq_false, not_false_eq_true, true_and, and_true, false_and, and_false, Bool.false_eq_true, Bool.true_eq_false, reduceCtorEq, implies_true]
  refine ⟨_, _, rf00 th, ?_⟩
  simp (disch := omega) only [T_Model_search, S_Model_search, B_Model_search_22, q_lit, le_T, le_F, lt_T, lt_F, eq_T, eq_F, m1_lt, m1_le, lt_m1, le_m1, eq_m1, m1_eq, nI_add, nI_sub, nI_dec, nI_mul, nI_or, nI_and, nI_div, nI_mod, and_255, and_31, and_1, and_63, nI_shl, nI_shr, bI_F, bI_1, vp_T, cl_T, true_implies, false_implies, not_true_eq_false, not_false_eq_true, true_and, and_true, false_and, and_false, Bool.false_eq_true, Bool.true_eq_false, reduceCtorEq, implies_true, q_lc_eq, q_lc_ge, q_lc_gt, q_lc_le, lN_or, lN_and, lN_shl, lN_shr, nI_L, lN_I, l_0]
  exact ⟨_, _, _, _, _, _, _, b1, rfl, rfl, rfl, rfl, rfl, rfl, rfl⟩
theorem pr_searchC {th HL : Int32} {H : Nat → Int32} {sT sW : Int32} {sWL sWG sWB : Nat → Int32} {mC : Int32} {mE Va : Nat → Int32} {vc : Int32} {Sg : Nat → Int32} {gc : Int32} : X_HelpFile_search false "java/lang/IllegalStateException" ∧ D_Model_search th HL H false sT sW sWL sWG sWB mC mE Va vc Sg gc (nI 0) (nI 1) HL H mC Va vc Sg gc := by
  refine ⟨Or.inr rq_X, 0, ?_⟩
  simp (disch := omega) only [q_lit, le_T, le_F, lt_T, lt_F, eq_T, eq_F, m1_lt, m1_le, lt_m1, le_m1, eq_m1, m1_eq, nI_add, nI_sub, nI_dec, nI_mul, nI_or, nI_and, nI_div, nI_mod, and_255, and_31, and_1, and_63, nI_shl, nI_shr, bI_F, bI_1, vp_T, cl_T, true_implies, false_implies, not_true_eq_false, not_false_eq_true, true_and, and_true, false_and, and_false, Bool.false_eq_true, Bool.true_eq_false, reduceCtorEq, implies_true]
  exact ⟨_, _, rf10 th, by simp (disch := omega) only [q_lit, le_T, le_F, lt_T, lt_F, eq_T, eq_F, m1_lt, m1_le, lt_m1, le_m1, eq_m1, m1_eq, nI_add, nI_sub, nI_dec, nI_mul, nI_or, nI_and, nI_div, nI_mod, and_255, and_31, and_1, and_63, nI_shl, nI_shr, bI_F, bI_1, vp_T, cl_T, true_implies, false_implies, not_true_eq_false, not_false_eq_true, true_and, and_true, false_and, and_false, Bool.false_eq_true, Bool.true_eq_false, reduceCtorEq, implies_true]⟩
