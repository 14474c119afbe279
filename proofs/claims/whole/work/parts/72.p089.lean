/-! Pure: a line of the source is read, the class. -/
def keepT (c c' : q_CC) : Prop := c'.1 = c.1 ∧ c'.2.2.2.2.2.2.2.1 = c.2.2.2.2.2.2.2.1 ∧ c'.2.2.2.2.2.2.2.2.1 = c.2.2.2.2.2.2.2.2.1 ∧ c'.2.2.2.2.2.2.2.2.2.2.2.2.1 = c.2.2.2.2.2.2.2.2.2.2.2.2.1 ∧ c'.2.2.2.2.2.2.2.2.2.2.2.2.2.2.2.2.2.1 = c.2.2.2.2.2.2.2.2.2.2.2.2.2.2.2.2.2.1 ∧ c'.2.2.2.2.2.2.2.2.2.2.2.2.2.2.2.2.2.2.1 = c.2.2.2.2.2.2.2.2.2.2.2.2.2.2.2.2.2.2.1 ∧ c'.2.2.2.2.2.2.2.2.2.2.2.2.2.2.2.2.2.2.2.1 = c.2.2.2.2.2.2.2.2.2.2.2.2.2.2.2.2.2.2.2.1 ∧ c'.2.2.2.2.2.2.2.2.2.2.2.2.2.2.2.2.2.2.2.2 = c.2.2.2.2.2.2.2.2.2.2.2.2.2.2.2.2.2.2.2.2 ∧ c'.2.2.2.2.2.2.2.2.2.2.2.2.2.2.2.2.1 = c.2.2.2.2.2.2.2.2.2.2.2.2.2.2.2.2.1
theorem dueB_ne {a : q_Cs} (h : a.2.1 ≠ []) : (dueB a).2.1 ≠ [] := by
  simp only [dueB]; split
  · exact addB_ne _ _
  · exact h
theorem dueB_len {a : q_Cs} (h : a.2.1 ≠ []) : (dueB a).2.1.flatten.length ≤ a.2.1.flatten.length + 1 := by
  simp only [dueB]; split
  · rw [addB_flat h]; simp
  · omega
theorem sgn_ne {a : q_Cs} (h : a.2.1 ≠ []) (x ln : Nat) : (q_sgn x ln a).2.1 ≠ [] := by
  simp only [q_sgn]; split
  · exact h
  · split <;> exact addB_ne _ _
theorem sgn_len {a : q_Cs} (h : a.2.1 ≠ []) (x ln : Nat) : (q_sgn x ln a).2.1.flatten.length ≤ a.2.1.flatten.length + 1 := by
  simp only [q_sgn]; split
  · simp only [blm]; omega
  · split <;> (simp only; rw [addB_flat h]; simp)
theorem sgn_lk (a : q_Cs) (x ln : Nat) : (q_sgn x ln a).2.2.2.2.1 = a.2.2.2.2.1 := by
  simp only [q_sgn]; split
  · rfl
  · split <;> rfl
theorem ci_txt {L : List Nat} {sE : Nat → Int32} {sC : Int32} (hs : Rw 700 sE sC L) (hv : ∀ i, L.getD i 0 < 2147483648) {f ln : Nat} (hf : f ≤ L.length) (k : Nat) (a : q_Cs) (c : q_CC) (h : q_CI L c a) (hW : c.2.2.2.2.2.2.2.1 = nI ln) (hne : a.2.1 ≠ []) (hb : a.2.1.flatten.length ≤ 2 * k + 2) (hlk : 3 * a.2.2.2.2.1.length ≤ k) (hkf : k ≤ f + 1) :
    ∃ c', (∃ m, T_Compiler_readText 700 2550 c.2.2.2.2.2.2.2.1 sE sC c.2.2.2.2.2.2.2.2.2.2.2.2.2.2.2.2.2.2.2.2 c'.2.1 c'.2.2.1 c'.2.2.2.1 c'.2.2.2.2.1 c'.2.2.2.2.2.1 c'.2.2.2.2.2.2.1 c'.2.2.2.2.2.2.2.2.1 c'.2.2.2.2.2.2.2.2.2.1 c'.2.2.2.2.2.2.2.2.2.2.1 c'.2.2.2.2.2.2.2.2.2.2.2.1 c'.2.2.2.2.2.2.2.2.2.2.2.2.2.1 c'.2.2.2.2.2.2.2.2.2.2.2.2.2.2.1 c'.2.2.2.2.2.2.2.2.2.2.2.2.2.2.2.1 c'.2.2.2.2.2.2.2.2.2.2.2.2.2.2.2.2.1 m (nI f) (nI k) c.2.1 c.2.2.1 c.2.2.2.1 c.2.2.2.2.1 c.2.2.2.2.2.1 c.2.2.2.2.2.2.1 c.2.2.2.2.2.2.2.2.1 c.2.2.2.2.2.2.2.2.2.1 c.2.2.2.2.2.2.2.2.2.2.1 c.2.2.2.2.2.2.2.2.2.2.2.1 c.2.2.2.2.2.2.2.2.2.2.2.2.2.1 c.2.2.2.2.2.2.2.2.2.2.2.2.2.2.1 c.2.2.2.2.2.2.2.2.2.2.2.2.2.2.2.1 c.2.2.2.2.2.2.2.2.2.2.2.2.2.2.2.2.1) ∧ q_CI L c' (q_txt L f ln a k) ∧ keepT c c' := by
  have hL7 := hs.2.1
  have hF := h.1
  have hF2 := h.2.1
  rw [q_txt]
  by_cases h1 : k < f
  · by_cases h2 : a.2.2.2.2.2.1 = 0
    · rw [if_pos ⟨h1, h2⟩]
      have hF0 : c.2.2.2.2.2.1 = nI 0 := by rw [hF, h2]
      have hel := row_el hs (k := k) (by omega)
      have hvk := hv k
      by_cases h32 : L.getD k 0 = 32
      · rw [if_pos h32]
        have h' : q_CI L ((c.1, c.2.1, c.2.2.1, c.2.2.2.1, c.2.2.2.2.1, c.2.2.2.2.2.1, c.2.2.2.2.2.2.1, c.2.2.2.2.2.2.2.1, c.2.2.2.2.2.2.2.2.1, c.2.2.2.2.2.2.2.2.2.1, c.2.2.2.2.2.2.2.2.2.1, c.2.2.2.2.2.2.2.2.2.2.2.1, c.2.2.2.2.2.2.2.2.2.2.2.2.1, c.2.2.2.2.2.2.2.2.2.2.2.2.2.1, c.2.2.2.2.2.2.2.2.2.2.2.2.2.2.1, c.2.2.2.2.2.2.2.2.2.2.2.2.2.2.2.1, c.2.2.2.2.2.2.2.2.2.2.2.2.2.2.2.2.1, c.2.2.2.2.2.2.2.2.2.2.2.2.2.2.2.2.2.1, c.2.2.2.2.2.2.2.2.2.2.2.2.2.2.2.2.2.2.1, c.2.2.2.2.2.2.2.2.2.2.2.2.2.2.2.2.2.2.2.1, c.2.2.2.2.2.2.2.2.2.2.2.2.2.2.2.2.2.2.2.2) : q_CC) ((a.1, a.2.1, a.2.2.1, a.2.2.2.1, a.2.2.2.2.1, a.2.2.2.2.2.1, a.2.2.2.2.2.2.1, a.2.2.2.2.2.2.2.1, a.2.2.2.2.2.2.2.2.1, a.2.2.2.2.2.2.2.1, a.2.2.2.2.2.2.2.2.2.2) : q_Cs) := by
          obtain ⟨z1, z2, z3, z4, z5, z6, z7, z8, z9, z10⟩ := h
          exact ⟨z1, z2, z3, z4, z5, z5, z7, z8, z9, z10⟩
        obtain ⟨c', ⟨m, hm⟩, d2, d3⟩ := ci_txt hs hv hf (k + 1) ((a.1, a.2.1, a.2.2.1, a.2.2.2.1, a.2.2.2.2.1, a.2.2.2.2.2.1, a.2.2.2.2.2.2.1, a.2.2.2.2.2.2.2.1, a.2.2.2.2.2.2.2.2.1, a.2.2.2.2.2.2.2.1, a.2.2.2.2.2.2.2.2.2.2) : q_Cs) ((c.1, c.2.1, c.2.2.1, c.2.2.2.1, c.2.2.2.2.1, c.2.2.2.2.2.1, c.2.2.2.2.2.2.1, c.2.2.2.2.2.2.2.1, c.2.2.2.2.2.2.2.2.1, c.2.2.2.2.2.2.2.2.2.1, c.2.2.2.2.2.2.2.2.2.1, c.2.2.2.2.2.2.2.2.2.2.2.1, c.2.2.2.2.2.2.2.2.2.2.2.2.1, c.2.2.2.2.2.2.2.2.2.2.2.2.2.1, c.2.2.2.2.2.2.2.2.2.2.2.2.2.2.1, c.2.2.2.2.2.2.2.2.2.2.2.2.2.2.2.1, c.2.2.2.2.2.2.2.2.2.2.2.2.2.2.2.2.1, c.2.2.2.2.2.2.2.2.2.2.2.2.2.2.2.2.2.1, c.2.2.2.2.2.2.2.2.2.2.2.2.2.2.2.2.2.2.1, c.2.2.2.2.2.2.2.2.2.2.2.2.2.2.2.2.2.2.2.1, c.2.2.2.2.2.2.2.2.2.2.2.2.2.2.2.2.2.2.2.2) : q_CC) h' hW hne (by simp only; omega) (by simp only; omega) (by omega)
        refine ⟨c', ⟨m + 1, ?_⟩, d2, d3⟩
        rw [hF0] at hm ⊢
        simp (disch := omega) only [T_Compiler_readText, S_Compiler_readText, B_Compiler_readText_18, q_lit, le_T, le_F, lt_T, lt_F, eq_T, eq_F, m1_lt, m1_le, lt_m1, le_m1, eq_m1, m1_eq, nI_add, nI_sub, nI_dec, nI_mul, nI_or, nI_and, nI_div, nI_mod, and_255, and_31, and_1, and_63, nI_shl, nI_shr, bI_F, bI_1, vp_T, cl_T, true_implies, false_implies, not_true_eq_false, not_false_eq_true, true_and, and_true, false_and, and_false, Bool.false_eq_true, Bool.true_eq_false, reduceCtorEq, implies_true, q_lc_eq, q_lc_ge, q_lc_gt, q_lc_le, lN_or, lN_and, lN_shl, lN_shr, nI_L, lN_I, l_0]
        refine ⟨_, hel, ?_⟩
        simp (disch := omega) only [h32, q_lit, le_T, le_F, lt_T, lt_F, eq_T, eq_F, m1_lt, m1_le, lt_m1, le_m1, eq_m1, m1_eq, nI_add, nI_sub, nI_dec, nI_mul, nI_or, nI_and, nI_div, nI_mod, and_255, and_31, and_1, and_63, nI_shl, nI_shr, bI_F, bI_1, vp_T, cl_T, true_implies, false_implies, not_true_eq_false, not_false_eq_true, true_and, and_true, false_and, and_false, Bool.false_eq_true, Bool.true_eq_false, reduceCtorEq, implies_true]
        exact hm
      · rw [if_neg h32]
        obtain ⟨S1, BE1, BC1, e1, e2⟩ := ci_due h hne (by omega)
        have hne1 := dueB_ne hne
        have hl1 := dueB_len hne
        by_cases h91 : L.getD k 0 = 91
        · rw [if_pos h91]
          obtain ⟨N2, L2, P2, K2, F2, E2, S2, BE2, BC2, g1, g2⟩ := ci_link hs hv (ln := ln) e2 hne1 (by omega) (by simp only [dueB]; omega) h1 hf hW
          have he := letEnd_ge L (k + 1) f
          have he2 := letEnd_le (L := L) (k := k + 1) (f := f) (by omega)
          cases hok : lkOkS L k f with
          | true =>
            simp only [hok, if_true] at g1 g2 ⊢
            have hlt : letEnd L (k + 1) f < f ∧ 0 < letEnd L (k + 1) f - (k + 1) := by
              simp only [lkOkS, isWdS, Bool.and_eq_true, decide_eq_true_eq] at hok
              omega
            obtain ⟨c', ⟨m, hm⟩, d2, d3⟩ := ci_txt hs hv hf (letEnd L (k + 1) f + 1) _ _ g2 hW (by simp only [lnkA]; exact addB_ne _ _) (by
              simp only [lnkA]
              rw [addB_flat (addB_ne _ _), addB_flat hne1]
              simp only [List.length_append, List.length_cons, List.length_nil]
              omega) (by simp only [lnkA, List.length_append, List.length_cons, List.length_nil, dueB]; omega) (by omega)
            refine ⟨c', ⟨m + 1, ?_⟩, d2, d3⟩
            rw [hF0] at g1 ⊢
            simp (disch := omega) only [T_Compiler_readText, S_Compiler_readText, B_Compiler_readText_18, q_lit, le_T, le_F, lt_T, lt_F, eq_T, eq_F, m1_lt, m1_le, lt_m1, le_m1, eq_m1, m1_eq, nI_add, nI_sub, nI_dec, nI_mul, nI_or, nI_and, nI_div, nI_mod, and_255, and_31, and_1, and_63, nI_shl, nI_shr, bI_F, bI_1, vp_T, cl_T, true_implies, false_implies, not_true_eq_false, not_false_eq_true, true_and, and_true, false_and, and_false, Bool.false_eq_true, Bool.true_eq_false, reduceCtorEq, implies_true, q_lc_eq, q_lc_ge, q_lc_gt, q_lc_le, lN_or, lN_and, lN_shl, lN_shr, nI_L, lN_I, l_0]
            refine ⟨_, hel, ?_⟩
            simp (disch := omega) only [h91, q_lit, le_T, le_F, lt_T, lt_F, eq_T, eq_F, m1_lt, m1_le, lt_m1, le_m1, eq_m1, m1_eq, nI_add, nI_sub, nI_dec, nI_mul, nI_or, nI_and, nI_div, nI_mod, and_255, and_31, and_1, and_63, nI_shl, nI_shr, bI_F, bI_1, vp_T, cl_T, true_implies, false_implies, not_true_eq_false, not_false_eq_true, true_and, and_true, false_and, and_false, Bool.false_eq_true, Bool.true_eq_false, reduceCtorEq, implies_true]
            exact ⟨true, false, S1, BE1, BC1, c.2.2.2.2.2.2.2.2.2.2.2.2.2.2.2.2.1, e1, nI (letEnd L (k + 1) f), N2, L2, P2, K2, F2, E2, S2, BE2, BC2, c.2.2.2.2.2.2.2.2.2.2.2.2.2.2.2.2.1, g1, by simp (disch := omega) only [q_lit, le_T, le_F, lt_T, lt_F, eq_T, eq_F, m1_lt, m1_le, lt_m1, le_m1, eq_m1, m1_eq, nI_add, nI_sub, nI_dec, nI_mul, nI_or, nI_and, nI_div, nI_mod, and_255, and_31, and_1, and_63, nI_shl, nI_shr, bI_F, bI_1, vp_T, cl_T, true_implies, false_implies, not_true_eq_false, not_false_eq_true, true_and, and_true, false_and, and_false, Bool.false_eq_true, Bool.true_eq_false, reduceCtorEq, implies_true]; exact hm⟩
          | false =>
            simp only [hok, Bool.false_eq_true, if_false] at g1 g2 ⊢
            obtain ⟨c', ⟨m, hm⟩, d2, d3⟩ := ci_txt hs hv hf (k + 1) _ _ g2 hW (by simp only [blm]; exact hne1) (by simp only [blm]; omega) (by simp only [blm, dueB]; omega) (by omega)
            refine ⟨c', ⟨m + 1, ?_⟩, d2, d3⟩
            rw [hF0] at g1 ⊢
            simp (disch := omega) only [T_Compiler_readText, S_Compiler_readText, B_Compiler_readText_18, q_lit, le_T, le_F, lt_T, lt_F, eq_T, eq_F, m1_lt, m1_le, lt_m1, le_m1, eq_m1, m1_eq, nI_add, nI_sub, nI_dec, nI_mul, nI_or, nI_and, nI_div, nI_mod, and_255, and_31, and_1, and_63, nI_shl, nI_shr, bI_F, bI_1, vp_T, cl_T, true_implies, false_implies, not_true_eq_false, not_false_eq_true, true_and, and_true, false_and, and_false, Bool.false_eq_true, Bool.true_eq_false, reduceCtorEq, implies_true, q_lc_eq, q_lc_ge, q_lc_gt, q_lc_le, lN_or, lN_and, lN_shl, lN_shr, nI_L, lN_I, l_0]
            refine ⟨_, hel, ?_⟩
            simp (disch := omega) only [h91, q_lit, le_T, le_F, lt_T, lt_F, eq_T, eq_F, m1_lt, m1_le, lt_m1, le_m1, eq_m1, m1_eq, nI_add, nI_sub, nI_dec, nI_mul, nI_or, nI_and, nI_div, nI_mod, and_255, and_31, and_1, and_63, nI_shl, nI_shr, bI_F, bI_1, vp_T, cl_T, true_implies, false_implies, not_true_eq_false, not_false_eq_true, true_and, and_true, false_and, and_false, Bool.false_eq_true, Bool.true_eq_false, reduceCtorEq, implies_true]
            exact ⟨true, false, S1, BE1, BC1, c.2.2.2.2.2.2.2.2.2.2.2.2.2.2.2.2.1, e1, nI k, N2, L2, P2, K2, F2, E2, S2, BE2, BC2, c.2.2.2.2.2.2.2.2.2.2.2.2.2.2.2.2.1, g1, by simp (disch := omega) only [q_lit, le_T, le_F, lt_T, lt_F, eq_T, eq_F, m1_lt, m1_le, lt_m1, le_m1, eq_m1, m1_eq, nI_add, nI_sub, nI_dec, nI_mul, nI_or, nI_and, nI_div, nI_mod, and_255, and_31, and_1, and_63, nI_shl, nI_shr, bI_F, bI_1, vp_T, cl_T, true_implies, false_implies, not_true_eq_false, not_false_eq_true, true_and, and_true, false_and, and_false, Bool.false_eq_true, Bool.true_eq_false, reduceCtorEq, implies_true]; exact hm⟩
        · rw [if_neg h91]
          obtain ⟨F2, E2, q_M2, S2, BE2, BC2, g1, g2⟩ := ci_sign e2 hne1 (by omega) (x := L.getD k 0) (ln := ln) hvk hW
          have hl2 := sgn_len hne1 (L.getD k 0) ln
          obtain ⟨c', ⟨m, hm⟩, d2, d3⟩ := ci_txt hs hv hf (k + 1) _ _ g2 hW (sgn_ne hne1 _ _) (by omega) (by rw [sgn_lk]; simp only [dueB]; omega) (by omega)
          refine ⟨c', ⟨m + 1, ?_⟩, d2, d3⟩
          rw [hF0] at g1 ⊢
          simp (disch := omega) only [T_Compiler_readText, S_Compiler_readText, B_Compiler_readText_18, q_lit, le_T, le_F, lt_T, lt_F, eq_T, eq_F, m1_lt, m1_le, lt_m1, le_m1, eq_m1, m1_eq, nI_add, nI_sub, nI_dec, nI_mul, nI_or, nI_and, nI_div, nI_mod, and_255, and_31, and_1, and_63, nI_shl, nI_shr, bI_F, bI_1, vp_T, cl_T, true_implies, false_implies, not_true_eq_false, not_false_eq_true, true_and, and_true, false_and, and_false, Bool.false_eq_true, Bool.true_eq_false, reduceCtorEq, implies_true, q_lc_eq, q_lc_ge, q_lc_gt, q_lc_le, lN_or, lN_and, lN_shl, lN_shr, nI_L, lN_I, l_0]
          refine ⟨_, hel, ?_⟩
          simp (disch := omega) only [q_lit, le_T, le_F, lt_T, lt_F, eq_T, eq_F, m1_lt, m1_le, lt_m1, le_m1, eq_m1, m1_eq, nI_add, nI_sub, nI_dec, nI_mul, nI_or, nI_and, nI_div, nI_mod, and_255, and_31, and_1, and_63, nI_shl, nI_shr, bI_F, bI_1, vp_T, cl_T, true_implies, false_implies, not_true_eq_false, not_false_eq_true, true_and, and_true, false_and, and_false, Bool.false_eq_true, Bool.true_eq_false, reduceCtorEq, implies_true]
          exact ⟨true, false, S1, BE1, BC1, c.2.2.2.2.2.2.2.2.2.2.2.2.2.2.2.2.1, e1, F2, E2, q_M2, S2, BE2, BC2, c.2.2.2.2.2.2.2.2.2.2.2.2.2.2.2.2.1, g1, hm⟩
    · rw [if_neg (fun h9 => h2 h9.2)]
      refine ⟨c, ⟨1, ?_⟩, h, rfl, rfl, rfl, rfl, rfl, rfl, rfl, rfl, rfl⟩
      rw [hF]
      simp (disch := omega) only [T_Compiler_readText, S_Compiler_readText, B_Compiler_readText_18, q_lit, le_T, le_F, lt_T, lt_F, eq_T, eq_F, m1_lt, m1_le, lt_m1, le_m1, eq_m1, m1_eq, nI_add, nI_sub, nI_dec, nI_mul, nI_or, nI_and, nI_div, nI_mod, and_255, and_31, and_1, and_63, nI_shl, nI_shr, bI_F, bI_1, vp_T, cl_T, true_implies, false_implies, not_true_eq_false, not_false_eq_true, true_and, and_true, false_and, and_false, Bool.false_eq_true, Bool.true_eq_false, reduceCtorEq, implies_true, q_lc_eq, q_lc_ge, q_lc_gt, q_lc_le, lN_or, lN_and, lN_shl, lN_shr, nI_L, lN_I, l_0]
  · rw [if_neg (fun h9 => h1 h9.1)]
    refine ⟨c, ⟨1, ?_⟩, h, rfl, rfl, rfl, rfl, rfl, rfl, rfl, rfl, rfl⟩
    simp (disch := omega) only [T_Compiler_readText, S_Compiler_readText, B_Compiler_readText_18, q_lit, le_T, le_F, lt_T, lt_F, eq_T, eq_F, m1_lt, m1_le, lt_m1, le_m1, eq_m1, m1_eq, nI_add, nI_sub, nI_dec, nI_mul, nI_or, nI_and, nI_div, nI_mod, and_255, and_31, and_1, and_63, nI_shl, nI_shr, bI_F, bI_1, vp_T, cl_T, true_implies, false_implies, not_true_eq_false, not_false_eq_true, true_and, and_true, false_and, and_false, Bool.false_eq_true, Bool.true_eq_false, reduceCtorEq, implies_true, q_lc_eq, q_lc_ge, q_lc_gt, q_lc_le, lN_or, lN_and, lN_shl, lN_shr, nI_L, lN_I, l_0]
termination_by f - k
decreasing_by
  · omega
  · have := letEnd_ge L (k + 1) f; omega
  · omega
  · omega
/-- where a name stands among the names -/
def nmAt (w : List Nat) : List (List Nat) → Nat → Option Nat
  | [], _ => none
  | v :: r, k => if v = w then some k else nmAt w r (k + 1)
theorem nmAt_some {w : List Nat} {ns : List (List Nat)} {k t : Nat} (h : nmAt w ns k = some t) : k ≤ t ∧ t < k + ns.length ∧ bd ns (t - k) = w := by
  induction ns generalizing k with
  | nil => simp [nmAt] at h
  | cons v r ih =>
    simp only [nmAt] at h
    split at h
    · rename_i h1
      cases h
      simp [bd, h1]
    · have := ih h
      simp only [List.length_cons]
      refine ⟨by omega, by omega, ?_⟩
      rw [show t - k = (t - (k + 1)) + 1 by omega, bd_cons_s]; exact this.2.2
theorem nmAt_none {w : List Nat} {ns : List (List Nat)} {k : Nat} (h : nmAt w ns k = none) : ∀ v ∈ ns, ¬ v = w := by
  induction ns generalizing k with
  | nil => intro v hv; simp at hv
  | cons v r ih =>
    simp only [nmAt] at h
    split at h
    · cases h
    · rename_i h1
      intro x hx
      simp only [List.mem_cons] at hx
      rcases hx with hx | hx
      · rw [hx]; exact h1
      · exact ih h x hx
theorem bd_mem {ns : List (List Nat)} {t : Nat} (h : t < ns.length) : bd ns t ∈ ns := by
  simp only [bd, List.getD_eq_getElem?_getD, List.getElem?_eq_getElem h, Option.getD_some]
  exact List.getElem_mem h
/-- names that a heading may give -/
def NmOk (ns : List (List Nat)) : Prop := ∀ v ∈ ns, q_Wd v ∧ v.length ≤ 6 ∧ 0 < v.length
theorem nmAt_drop {w : List Nat} {ns : List (List Nat)} {t : Nat} (ht : t < ns.length) (k : Nat) : nmAt w (ns.drop t) k = if bd ns t = w then some k else nmAt w (ns.drop (t + 1)) (k + 1) := by
  rw [List.drop_eq_getElem_cons ht]
  simp [nmAt, bd, List.getD_eq_getElem?_getD, List.getElem?_eq_getElem ht]
theorem t_named {bN : Nat → Int64} {ns : List (List Nat)} (hl : ns.length ≤ 10) (hN : ∀ t, t < ns.length → bN t = lN (enc (bd ns t))) (hok : NmOk ns) {w : List Nat} (hw : q_Wd w) (hwl : w.length ≤ 12) (t : Nat) (ht : t ≤ ns.length) : ∃ m, T_Book_topicNamed bN (nI ns.length) (oI (nmAt w (ns.drop t) t)) m (lN (enc w)) (nI t) := by
  by_cases h : t < ns.length
  · have e := hN t h
    have hv := hok _ (bd_mem h)
    have a1 := enc_lt w
    have a2 := enc_lt (bd ns t)
    rw [nmAt_drop h]
    by_cases h1 : bd ns t = w
    · rw [if_pos h1]
      refine ⟨1, ?_⟩
      simp (disch := omega) only [T_Book_topicNamed, S_Book_topicNamed, B_Book_topicNamed_2, e, h1, oI, q_lit, le_T, le_F, lt_T, lt_F, eq_T, eq_F, m1_lt, m1_le, lt_m1, le_m1, eq_m1, m1_eq, nI_add, nI_sub, nI_dec, nI_mul, nI_or, nI_and, nI_div, nI_mod, and_255, and_31, and_1, and_63, nI_shl, nI_shr, bI_F, bI_1, vp_T, cl_T, true_implies, false_implies, not_true_eq_false, not_false_eq_true, true_and, and_true, false_and, and_false, Bool.false_eq_true, Bool.true_eq_false, reduceCtorEq, implies_true, q_lc_eq, q_lc_ge, q_lc_gt, q_lc_le, lN_or, lN_and, lN_shl, lN_shr, nI_L, lN_I, l_0]
    · rw [if_neg h1]
      obtain ⟨m, hm⟩ := t_named hl hN hok hw hwl (t + 1) h
      have h2 : ¬ enc (bd ns t) = enc w := fun h3 => h1 (enc_inj hv.1 hw (by omega) hwl h3)
      refine ⟨m + 1, ?_⟩
      simp (disch := omega) only [T_Book_topicNamed, S_Book_topicNamed, B_Book_topicNamed_2, e, h2, q_lit, le_T, le_F, lt_T, lt_F, eq_T, eq_F, m1_lt, m1_le, lt_m1, le_m1, eq_m1, m1_eq, nI_add, nI_sub, nI_dec, nI_mul, nI_or, nI_and, nI_div, nI_mod, and_255, and_31, and_1, and_63, nI_shl, nI_shr, bI_F, bI_1, vp_T, cl_T, true_implies, false_implies, not_true_eq_false, not_false_eq_true, true_and, and_true, false_and, and_false, Bool.false_eq_true, Bool.true_eq_false, reduceCtorEq, implies_true, q_lc_eq, q_lc_ge, q_lc_gt, q_lc_le, lN_or, lN_and, lN_shl, lN_shr, nI_L, lN_I, l_0]
      exact hm
  · refine ⟨1, ?_⟩
    rw [List.drop_eq_nil_of_le (by omega)]
    simp (disch := omega) only [T_Book_topicNamed, S_Book_topicNamed, B_Book_topicNamed_2, nmAt, oI, q_lit, le_T, le_F, lt_T, lt_F, eq_T, eq_F, m1_lt, m1_le, lt_m1, le_m1, eq_m1, m1_eq, nI_add, nI_sub, nI_dec, nI_mul, nI_or, nI_and, nI_div, nI_mod, and_255, and_31, and_1, and_63, nI_shl, nI_shr, bI_F, bI_1, vp_T, cl_T, true_implies, false_implies, not_true_eq_false, not_false_eq_true, true_and, and_true, false_and, and_false, Bool.false_eq_true, Bool.true_eq_false, reduceCtorEq, implies_true, q_lc_eq, q_lc_ge, q_lc_gt, q_lc_le, lN_or, lN_and, lN_shl, lN_shr, nI_L, lN_I, l_0]
termination_by ns.length - t
decreasing_by all_goals omega
theorem cb_named {bN : Nat → Int64} {ns : List (List Nat)} (hl : ns.length ≤ 10) (hN : ∀ t, t < ns.length → bN t = lN (enc (bd ns t))) (hok : NmOk ns) {w : List Nat} (hw : q_Wd w) (hwl : w.length ≤ 12) : D_Book_topicNamed (lN (enc w)) bN (nI ns.length) (oI (nmAt w ns 0)) := by
  have := t_named hl hN hok hw hwl 0 (by omega)
  simpa [D_Book_topicNamed, q_lit] using this
def wrdS (L : List Nat) (s f : Nat) : List Nat := (L.drop s).take (f - s)
def hdg (L : List Nat) (s f ln : Nat) (a : q_Cs) : q_Cs :=
  if isWdS L s f 6 = false then blm 2 ln a
  else if (nmAt (wrdS L s f) a.1 0).isSome = true then blm 4 ln a
  else if 10 ≤ a.1.length then blm 5 ln a
  else ((a.1 ++ [wrdS L s f], a.2.1 ++ [[]], a.2.2.1 ++ [ln], a.2.2.2.1, a.2.2.2.2.1, a.2.2.2.2.2.1, a.2.2.2.2.2.2.1, a.2.2.2.2.2.2.2.1, a.2.2.2.2.2.2.2.2.1, a.2.2.2.2.2.2.2.2.2.1, a.2.2.2.2.2.2.2.2.2.2) : q_Cs)
theorem getD_snoc {α : Type} (l : List α) (x d : α) (i : Nat) : (l ++ [x]).getD i d = if i = l.length then x else l.getD i d := by
  simp only [List.getD_eq_getElem?_getD]
  by_cases h : i < l.length
  · rw [List.getElem?_append_left h, if_neg (by omega)]
  · by_cases h2 : i = l.length
    · subst h2; simp
    · rw [if_neg h2, List.getElem?_eq_none (by simp; omega), List.getElem?_eq_none (by omega)]
theorem ci_head {L : List Nat} {sE : Nat → Int32} {sC : Int32} (hs : Rw 700 sE sC L) (hv : ∀ i, L.getD i 0 < 2147483648) {c : q_CC} {a : q_Cs} (h : q_CI L c a) (hok : NmOk a.1) {s f ln : Nat} (hsf : s ≤ f) (hf : f ≤ L.length) (hW : c.2.2.2.2.2.2.2.1 = nI ln) (hnP : a.2.2.2.2.2.2.2.1 = false) :
    ∃ H' F' E' bN' S' T', D_Compiler_readHeading 700 (nI s) (nI f) c.1 c.2.2.2.2.2.1 c.2.2.2.2.2.2.1 c.2.2.2.2.2.2.2.1 sE sC c.2.2.2.2.2.2.2.2.2.2.2.2.1 c.2.2.2.2.2.2.2.2.2.2.2.2.2.1 c.2.2.2.2.2.2.2.2.2.2.2.2.2.2.2.1 c.2.2.2.2.2.2.2.2.2.2.2.2.2.2.2.2.2.2.2.2 H' F' E' bN' S' T' ∧ q_CI L ((H', c.2.1, c.2.2.1, c.2.2.2.1, c.2.2.2.2.1, F', E', c.2.2.2.2.2.2.2.1, c.2.2.2.2.2.2.2.2.1, c.2.2.2.2.2.2.2.2.2.1, c.2.2.2.2.2.2.2.2.2.2.1, c.2.2.2.2.2.2.2.2.2.2.2.1, bN', S', c.2.2.2.2.2.2.2.2.2.2.2.2.2.2.1, c.2.2.2.2.2.2.2.2.2.2.2.2.2.2.2.1, c.2.2.2.2.2.2.2.2.2.2.2.2.2.2.2.2.1, c.2.2.2.2.2.2.2.2.2.2.2.2.2.2.2.2.2.1, c.2.2.2.2.2.2.2.2.2.2.2.2.2.2.2.2.2.2.1, c.2.2.2.2.2.2.2.2.2.2.2.2.2.2.2.2.2.2.2.1, T') : q_CC) (hdg L s f ln a) := by
  have hL7 := hs.2.1
  have hword := let_word hs hv (s := s) (f := f) (by omega) (by omega)
  have hiw := let_isWord hs hv (s := s) (f := f) (m := 6) (by omega) (by omega) (by omega)
  have h' := h
  obtain ⟨z1, z2, z3, z4, z5, z6, z7, z8, z9, z10⟩ := h
  obtain ⟨n1, n2, n3, n4, n5, n6⟩ := z9
  have hT := z8.1
  have hT10 := z8.2.1
  rw [← n1] at hT
  have q_fin : ∀ {k : Nat}, 0 < k → k < 100 → ∃ F' E', D_Compiler_blame (nI k) (nI ln) c.2.2.2.2.2.1 c.2.2.2.2.2.2.1 F' E' ∧ q_CI L ((c.1, c.2.1, c.2.2.1, c.2.2.2.1, c.2.2.2.2.1, F', E', c.2.2.2.2.2.2.2.1, c.2.2.2.2.2.2.2.2.1, c.2.2.2.2.2.2.2.2.2.1, c.2.2.2.2.2.2.2.2.2.2.1, c.2.2.2.2.2.2.2.2.2.2.2.1, c.2.2.2.2.2.2.2.2.2.2.2.2.1, c.2.2.2.2.2.2.2.2.2.2.2.2.2.1, c.2.2.2.2.2.2.2.2.2.2.2.2.2.2.1, c.2.2.2.2.2.2.2.2.2.2.2.2.2.2.2.1, c.2.2.2.2.2.2.2.2.2.2.2.2.2.2.2.2.1, c.2.2.2.2.2.2.2.2.2.2.2.2.2.2.2.2.2.1, c.2.2.2.2.2.2.2.2.2.2.2.2.2.2.2.2.2.2.1, c.2.2.2.2.2.2.2.2.2.2.2.2.2.2.2.2.2.2.2.1, c.2.2.2.2.2.2.2.2.2.2.2.2.2.2.2.2.2.2.2.2) : q_CC) (blm k ln a) := fun h1 h2 => ci_blame h' h1 h2
  cases h3 : isWdS L s f 6 with
  | false =>
    obtain ⟨F', E', b1, b2⟩ := q_fin (k := 2) (by omega) (by omega)
    rw [h3] at hiw
    refine ⟨c.1, F', E', c.2.2.2.2.2.2.2.2.2.2.2.2.1, c.2.2.2.2.2.2.2.2.2.2.2.2.2.1, c.2.2.2.2.2.2.2.2.2.2.2.2.2.2.2.2.2.2.2.2, ⟨_, hword, _, by simpa [q_lit] using hiw, ?_⟩, by simp only [hdg, h3, if_true]; exact b2⟩
    simp (disch := omega) only [q_lit, le_T, le_F, lt_T, lt_F, eq_T, eq_F, m1_lt, m1_le, lt_m1, le_m1, eq_m1, m1_eq, nI_add, nI_sub, nI_dec, nI_mul, nI_or, nI_and, nI_div, nI_mod, and_255, and_31, and_1, and_63, nI_shl, nI_shr, bI_F, bI_1, vp_T, cl_T, true_implies, false_implies, not_true_eq_false, not_false_eq_true, true_and, and_true, false_and, and_false, Bool.false_eq_true, Bool.true_eq_false, reduceCtorEq, implies_true]
    exact ⟨F', E', by rw [hW]; exact b1, rfl, rfl⟩
  | true =>
    rw [h3] at hiw
    have hsm : smAll L s f = true ∧ s < f ∧ f - s ≤ 6 := by
      simp only [isWdS, Bool.and_eq_true, decide_eq_true_eq] at h3; exact ⟨h3.1.1, h3.1.2, h3.2⟩
    have hrun := smAll_run hsm.1 hf hsf
    have hnm := cb_named (bN := c.2.2.2.2.2.2.2.2.2.2.2.2.1) (ns := a.1) (by omega) (fun t ht => (n3 t (by omega)).1) hok (w := wrdS L s f) hrun.2.1 (by unfold wrdS; rw [hrun.2.2]; omega)
    rw [hrun.1] at hword
    cases h4 : nmAt (wrdS L s f) a.1 0 with
    | some t =>
      obtain ⟨F', E', b1, b2⟩ := q_fin (k := 4) (by omega) (by omega)
      have ht := nmAt_some h4
      rw [h4] at hnm
      refine ⟨c.1, F', E', c.2.2.2.2.2.2.2.2.2.2.2.2.1, c.2.2.2.2.2.2.2.2.2.2.2.2.2.1, c.2.2.2.2.2.2.2.2.2.2.2.2.2.2.2.2.2.2.2.2, ⟨_, hword, _, by simpa [q_lit] using hiw, ?_⟩, by simp only [hdg, h3, h4, Option.isSome_some, Bool.true_eq_false, if_true, if_false]; exact b2⟩
      simp (disch := omega) only [q_lit, le_T, le_F, lt_T, lt_F, eq_T, eq_F, m1_lt, m1_le, lt_m1, le_m1, eq_m1, m1_eq, nI_add, nI_sub, nI_dec, nI_mul, nI_or, nI_and, nI_div, nI_mod, and_255, and_31, and_1, and_63, nI_shl, nI_shr, bI_F, bI_1, vp_T, cl_T, true_implies, false_implies, not_true_eq_false, not_false_eq_true, true_and, and_true, false_and, and_false, Bool.false_eq_true, Bool.true_eq_false, reduceCtorEq, implies_true]
      refine ⟨_, by rw [hT]; exact hnm, ?_⟩
      simp (disch := omega) only [oI, q_lit, le_T, le_F, lt_T, lt_F, eq_T, eq_F, m1_lt, m1_le, lt_m1, le_m1, eq_m1, m1_eq, nI_add, nI_sub, nI_dec, nI_mul, nI_or, nI_and, nI_div, nI_mod, and_255, and_31, and_1, and_63, nI_shl, nI_shr, bI_F, bI_1, vp_T, cl_T, true_implies, false_implies, not_true_eq_false, not_false_eq_true, true_and, and_true, false_and, and_false, Bool.false_eq_true, Bool.true_eq_false, reduceCtorEq, implies_true]
      exact ⟨F', E', by rw [hW]; exact b1, rfl, rfl⟩
    | none =>
      rw [h4] at hnm
      by_cases h5 : 10 ≤ a.1.length
      · obtain ⟨F', E', b1, b2⟩ := q_fin (k := 5) (by omega) (by omega)
        refine ⟨c.1, F', E', c.2.2.2.2.2.2.2.2.2.2.2.2.1, c.2.2.2.2.2.2.2.2.2.2.2.2.2.1, c.2.2.2.2.2.2.2.2.2.2.2.2.2.2.2.2.2.2.2.2, ⟨_, hword, _, by simpa [q_lit] using hiw, ?_⟩, by simp only [hdg, h3, h4, h5, Option.isSome_none, Bool.true_eq_false, Bool.false_eq_true, if_true, if_false]; exact b2⟩
        simp (disch := omega) only [q_lit, le_T, le_F, lt_T, lt_F, eq_T, eq_F, m1_lt, m1_le, lt_m1, le_m1, eq_m1, m1_eq, nI_add, nI_sub, nI_dec, nI_mul, nI_or, nI_and, nI_div, nI_mod, and_255, and_31, and_1, and_63, nI_shl, nI_shr, bI_F, bI_1, vp_T, cl_T, true_implies, false_implies, not_true_eq_false, not_false_eq_true, true_and, and_true, false_and, and_false, Bool.false_eq_true, Bool.true_eq_false, reduceCtorEq, implies_true]
        refine ⟨_, by rw [hT]; exact hnm, ?_⟩
        rw [hT]
        simp (disch := omega) only [oI, q_lit, le_T, le_F, lt_T, lt_F, eq_T, eq_F, m1_lt, m1_le, lt_m1, le_m1, eq_m1, m1_eq, nI_add, nI_sub, nI_dec, nI_mul, nI_or, nI_and, nI_div, nI_mod, and_255, and_31, and_1, and_63, nI_shl, nI_shr, bI_F, bI_1, vp_T, cl_T, true_implies, false_implies, not_true_eq_false, not_false_eq_true, true_and, and_true, false_and, and_false, Bool.false_eq_true, Bool.true_eq_false, reduceCtorEq, implies_true]
        exact ⟨F', E', by rw [hW]; exact b1, rfl, rfl⟩
      · refine ⟨upd c.1 a.1.length (nI ln), c.2.2.2.2.2.1, c.2.2.2.2.2.2.1, vp_updL c.2.2.2.2.2.2.2.2.2.2.2.2.1 a.1.length (lN (enc (wrdS L s f))), upd (upd c.2.2.2.2.2.2.2.2.2.2.2.2.2.1 a.1.length c.2.2.2.2.2.2.2.2.2.2.2.2.2.2.2.1) (a.1.length + 1) c.2.2.2.2.2.2.2.2.2.2.2.2.2.2.2.1, nI (a.1.length + 1), ⟨_, hword, _, by simpa [q_lit] using hiw, ?_⟩, ?_⟩
        · simp (disch := omega) only [q_lit, le_T, le_F, lt_T, lt_F, eq_T, eq_F, m1_lt, m1_le, lt_m1, le_m1, eq_m1, m1_eq, nI_add, nI_sub, nI_dec, nI_mul, nI_or, nI_and, nI_div, nI_mod, and_255, and_31, and_1, and_63, nI_shl, nI_shr, bI_F, bI_1, vp_T, cl_T, true_implies, false_implies, not_true_eq_false, not_false_eq_true, true_and, and_true, false_and, and_false, Bool.false_eq_true, Bool.true_eq_false, reduceCtorEq, implies_true]
          refine ⟨_, by rw [hT]; exact hnm, ?_⟩
          rw [hT, hW]
          simp (disch := omega) only [oI, q_lit, le_T, le_F, lt_T, lt_F, eq_T, eq_F, m1_lt, m1_le, lt_m1, le_m1, eq_m1, m1_eq, nI_add, nI_sub, nI_dec, nI_mul, nI_or, nI_and, nI_div, nI_mod, and_255, and_31, and_1, and_63, nI_shl, nI_shr, bI_F, bI_1, vp_T, cl_T, true_implies, false_implies, not_true_eq_false, not_false_eq_true, true_and, and_true, false_and, and_false, Bool.false_eq_true, Bool.true_eq_false, reduceCtorEq, implies_true]
          refine ⟨vp_updL c.2.2.2.2.2.2.2.2.2.2.2.2.1 a.1.length (lN (enc (wrdS L s f))), upd (upd c.2.2.2.2.2.2.2.2.2.2.2.2.2.1 a.1.length c.2.2.2.2.2.2.2.2.2.2.2.2.2.2.2.1) (a.1.length + 1) c.2.2.2.2.2.2.2.2.2.2.2.2.2.2.2.1, nI (a.1.length + 1), ?_, rfl, rfl, rfl⟩
          simp (disch := omega) only [D_Book_beginTopic, q_lit, le_T, le_F, lt_T, lt_F, eq_T, eq_F, m1_lt, m1_le, lt_m1, le_m1, eq_m1, m1_eq, nI_add, nI_sub, nI_dec, nI_mul, nI_or, nI_and, nI_div, nI_mod, and_255, and_31, and_1, and_63, nI_shl, nI_shr, bI_F, bI_1, vp_T, cl_T, true_implies, false_implies, not_true_eq_false, not_false_eq_true, true_and, and_true, false_and, and_false, Bool.false_eq_true, Bool.true_eq_false, reduceCtorEq, implies_true]
          rfl
        · simp only [hdg, h3, h4, h5, Option.isSome_none, Bool.true_eq_false, Bool.false_eq_true, if_true, if_false]
          have eoff : ∀ t, t ≤ a.2.1.length → q_off (a.2.1 ++ [[]]) t = q_off a.2.1 t := fun t ht => off_app ht
          have hBC := z8.2.2.1.1
          refine ⟨z1, z2, z3, z4, z5, z6, z7, ⟨by simp [n1], by simp; omega, by simpa using z8.2.2.1, fun t ht h0 => ?_, by simpa using z8.2.2.2.2⟩, ⟨by simp [n1], by simp [n2], fun t ht => ?_, n4, n5, fun _ => by simp⟩, ?_⟩
          · simp only [List.length_append, List.length_cons, List.length_nil] at ht
            show upd (upd c.2.2.2.2.2.2.2.2.2.2.2.2.2.1 a.1.length c.2.2.2.2.2.2.2.2.2.2.2.2.2.2.2.1) (a.1.length + 1) c.2.2.2.2.2.2.2.2.2.2.2.2.2.2.2.1 t = nI (q_off (a.2.1 ++ [[]]) t)
            by_cases h6 : t = a.1.length + 1
            · subst h6
              rw [upd_eq, hBC]
              have := off_all (a.2.1 ++ [[]])
              simp only [List.length_append, List.length_cons, List.length_nil, flat_snoc, List.append_nil] at this
              rw [n1, this]
            · rw [upd_ne (by omega), eoff t (by omega)]
              by_cases h7 : t = a.1.length
              · subst h7
                rw [upd_eq, hBC, n1, off_all]
              · rw [upd_ne (by omega)]
                exact z8.2.2.2.1 t (by omega) (by omega)
          · simp only [List.length_append, List.length_cons, List.length_nil] at ht
            show vp_updL c.2.2.2.2.2.2.2.2.2.2.2.2.1 a.1.length (lN (enc (wrdS L s f))) t = lN (enc (bd (a.1 ++ [wrdS L s f]) t)) ∧ upd c.1 a.1.length (nI ln) t = nI ((a.2.2.1 ++ [ln]).getD t 0)
            simp only [bd, getD_snoc, n1, n2]
            by_cases h6 : t = a.2.1.length
            · subst h6
              rw [if_pos rfl, if_pos rfl]
              refine ⟨?_, by rw [← n1]; exact upd_eq _ _ _⟩
              simp only [vp_updL]; rw [if_pos trivial]
            · rw [if_neg h6, if_neg h6]
              have := n3 t (by omega)
              refine ⟨?_, by rw [upd_ne (by omega)]; exact this.2⟩
              simp only [vp_updL]; rw [if_neg h6]; exact this.1
          · refine ⟨z10.1, z10.2.1, fun i hi => ?_⟩
            obtain ⟨q1, q2, q3, q4, q5⟩ := z10.2.2 i hi
            refine ⟨q1, q2, by simp only; rw [eoff _ (by omega)]; exact q3, by show _ < (a.2.1 ++ [[]]).length; rw [List.length_append]; exact Nat.lt_add_right _ q4, by simp only; rw [bd_app q4]; exact q5⟩
def kwd (L : List Nat) (s f ln : Nat) (a : q_Cs) : q_Cs :=
  if a.2.1 = [] then blm 1 ln a
  else if isWdS L s f 8 = false then blm 3 ln a
  else ((a.1, a.2.1, a.2.2.1, insW (wrdS L s f) (1 <<< (a.2.1.length - 1)) a.2.2.2.1, a.2.2.2.2.1, a.2.2.2.2.2.1, a.2.2.2.2.2.2.1, a.2.2.2.2.2.2.2.1, a.2.2.2.2.2.2.2.2.1, a.2.2.2.2.2.2.2.2.2.1, a.2.2.2.2.2.2.2.2.2.2) : q_Cs)
theorem ci_kwd {L : List Nat} {sE : Nat → Int32} {sC : Int32} (hs : Rw 700 sE sC L) (hv : ∀ i, L.getD i 0 < 2147483648) {c : q_CC} {a : q_Cs} (h : q_CI L c a) (hkl : a.2.2.2.1.length < 252) {s f ln : Nat} (hsf : s ≤ f) (hf : f ≤ L.length) (hW : c.2.2.2.2.2.2.2.1 = nI ln) :
    ∃ F' E' kW' kT' kC', D_Compiler_readKeyword 700 252 (nI s) (nI f) c.2.2.2.2.2.1 c.2.2.2.2.2.2.1 c.2.2.2.2.2.2.2.1 sE sC c.2.2.2.2.2.2.2.2.2.2.2.2.2.2.2.2.2.1 c.2.2.2.2.2.2.2.2.2.2.2.2.2.2.2.2.2.2.1 c.2.2.2.2.2.2.2.2.2.2.2.2.2.2.2.2.2.2.2.1 c.2.2.2.2.2.2.2.2.2.2.2.2.2.2.2.2.2.2.2.2 F' E' kW' kT' kC' ∧ q_CI L ((c.1, c.2.1, c.2.2.1, c.2.2.2.1, c.2.2.2.2.1, F', E', c.2.2.2.2.2.2.2.1, c.2.2.2.2.2.2.2.2.1, c.2.2.2.2.2.2.2.2.2.1, c.2.2.2.2.2.2.2.2.2.2.1, c.2.2.2.2.2.2.2.2.2.2.2.1, c.2.2.2.2.2.2.2.2.2.2.2.2.1, c.2.2.2.2.2.2.2.2.2.2.2.2.2.1, c.2.2.2.2.2.2.2.2.2.2.2.2.2.2.1, c.2.2.2.2.2.2.2.2.2.2.2.2.2.2.2.1, c.2.2.2.2.2.2.2.2.2.2.2.2.2.2.2.2.1, kW', kT', kC', c.2.2.2.2.2.2.2.2.2.2.2.2.2.2.2.2.2.2.2.2) : q_CC) (kwd L s f ln a) := by
  have hL7 := hs.2.1
  have hword := let_word hs hv (s := s) (f := f) (by omega) (by omega)
  have hiw := let_isWord hs hv (s := s) (f := f) (m := 8) (by omega) (by omega) (by omega)
  have h' := h
  obtain ⟨z1, z2, z3, z4, z5, z6, z7, z8, z9, z10⟩ := h
  obtain ⟨n1, n2, n3, n4, n5, n6⟩ := z9
  have hT := z8.1
  have hT10 := z8.2.1
  by_cases h0 : a.2.1 = []
  · obtain ⟨F', E', b1, b2⟩ := ci_blame h' (k := 1) (l := ln) (by omega) (by omega)
    refine ⟨F', E', c.2.2.2.2.2.2.2.2.2.2.2.2.2.2.2.2.2.1, c.2.2.2.2.2.2.2.2.2.2.2.2.2.2.2.2.2.2.1, c.2.2.2.2.2.2.2.2.2.2.2.2.2.2.2.2.2.2.2.1, ?_, by simp only [kwd, h0, if_true]; exact b2⟩
    have e0 : c.2.2.2.2.2.2.2.2.2.2.2.2.2.2.2.2.2.2.2.2 = nI 0 := by rw [hT, h0]; rfl
    rw [e0, hW]
    simp (disch := omega) only [D_Compiler_readKeyword, q_lit, le_T, le_F, lt_T, lt_F, eq_T, eq_F, m1_lt, m1_le, lt_m1, le_m1, eq_m1, m1_eq, nI_add, nI_sub, nI_dec, nI_mul, nI_or, nI_and, nI_div, nI_mod, and_255, and_31, and_1, and_63, nI_shl, nI_shr, bI_F, bI_1, vp_T, cl_T, true_implies, false_implies, not_true_eq_false, not_false_eq_true, true_and, and_true, false_and, and_false, Bool.false_eq_true, Bool.true_eq_false, reduceCtorEq, implies_true]
    exact ⟨F', E', b1, rfl, rfl⟩
  · have hpos : 0 < a.2.1.length := List.length_pos_iff.mpr h0
    cases h3 : isWdS L s f 8 with
    | false =>
      obtain ⟨F', E', b1, b2⟩ := ci_blame h' (k := 3) (l := ln) (by omega) (by omega)
      rw [h3] at hiw
      refine ⟨F', E', c.2.2.2.2.2.2.2.2.2.2.2.2.2.2.2.2.2.1, c.2.2.2.2.2.2.2.2.2.2.2.2.2.2.2.2.2.2.1, c.2.2.2.2.2.2.2.2.2.2.2.2.2.2.2.2.2.2.2.1, ?_, by simp only [kwd, h0, h3, if_true, if_false]; exact b2⟩
      rw [hT, hW]
      simp (disch := omega) only [D_Compiler_readKeyword, q_lit, le_T, le_F, lt_T, lt_F, eq_T, eq_F, m1_lt, m1_le, lt_m1, le_m1, eq_m1, m1_eq, nI_add, nI_sub, nI_dec, nI_mul, nI_or, nI_and, nI_div, nI_mod, and_255, and_31, and_1, and_63, nI_shl, nI_shr, bI_F, bI_1, vp_T, cl_T, true_implies, false_implies, not_true_eq_false, not_false_eq_true, true_and, and_true, false_and, and_false, Bool.false_eq_true, Bool.true_eq_false, reduceCtorEq, implies_true]
      refine ⟨_, hiw, ?_⟩
      simp (disch := omega) only [q_lit, le_T, le_F, lt_T, lt_F, eq_T, eq_F, m1_lt, m1_le, lt_m1, le_m1, eq_m1, m1_eq, nI_add, nI_sub, nI_dec, nI_mul, nI_or, nI_and, nI_div, nI_mod, and_255, and_31, and_1, and_63, nI_shl, nI_shr, bI_F, bI_1, vp_T, cl_T, true_implies, false_implies, not_true_eq_false, not_false_eq_true, true_and, and_true, false_and, and_false, Bool.false_eq_true, Bool.true_eq_false, reduceCtorEq, implies_true]
      exact ⟨F', E', b1, rfl, rfl⟩
    | true =>
      rw [h3] at hiw
      have hsm : smAll L s f = true ∧ s < f ∧ f - s ≤ 8 := by
        simp only [isWdS, Bool.and_eq_true, decide_eq_true_eq] at h3; exact ⟨h3.1.1, h3.1.2, h3.2⟩
      have hrun := smAll_run hsm.1 hf hsf
      rw [hrun.1] at hword
      obtain ⟨W', T', C', d1, d2⟩ := wl_note n4 n5 (Sml.codes _) (x := enc (wrdS L s f)) (b := 1 <<< (a.2.1.length - 1)) (enc_lt _) (by rw [codes_len]; exact hkl)
      refine ⟨c.2.2.2.2.2.1, c.2.2.2.2.2.2.1, W', T', C', ?_, ?_⟩
      · rw [hT, hW]
        simp (disch := omega) only [D_Compiler_readKeyword, q_lit, le_T, le_F, lt_T, lt_F, eq_T, eq_F, m1_lt, m1_le, lt_m1, le_m1, eq_m1, m1_eq, nI_add, nI_sub, nI_dec, nI_mul, nI_or, nI_and, nI_div, nI_mod, and_255, and_31, and_1, and_63, nI_shl, nI_shr, bI_F, bI_1, vp_T, cl_T, true_implies, false_implies, not_true_eq_false, not_false_eq_true, true_and, and_true, false_and, and_false, Bool.false_eq_true, Bool.true_eq_false, reduceCtorEq, implies_true]
        refine ⟨_, hiw, ?_⟩
        simp (disch := omega) only [q_lit, le_T, le_F, lt_T, lt_F, eq_T, eq_F, m1_lt, m1_le, lt_m1, le_m1, eq_m1, m1_eq, nI_add, nI_sub, nI_dec, nI_mul, nI_or, nI_and, nI_div, nI_mod, and_255, and_31, and_1, and_63, nI_shl, nI_shr, bI_F, bI_1, vp_T, cl_T, true_implies, false_implies, not_true_eq_false, not_false_eq_true, true_and, and_true, false_and, and_false, Bool.false_eq_true, Bool.true_eq_false, reduceCtorEq, implies_true]
        refine ⟨_, hword, W', T', C', ⟨W', T', C', ?_, rfl, rfl, rfl⟩, rfl, rfl, rfl⟩
        have e : (1 <<< ((nI a.2.1.length - 1) &&& 31) : Int32) = nI (1 <<< (a.2.1.length - 1)) := by
          simp (disch := omega) only [q_lit, le_T, le_F, lt_T, lt_F, eq_T, eq_F, m1_lt, m1_le, lt_m1, le_m1, eq_m1, m1_eq, nI_add, nI_sub, nI_dec, nI_mul, nI_or, nI_and, nI_div, nI_mod, and_255, and_31, and_1, and_63, nI_shl, nI_shr, bI_F, bI_1, vp_T, cl_T, true_implies, false_implies, not_true_eq_false, not_false_eq_true, true_and, and_true, false_and, and_false, Bool.false_eq_true, Bool.true_eq_false, reduceCtorEq, implies_true]
          rw [Nat.mod_eq_of_lt (by omega)]
        rw [e]; exact d1
      · simp only [kwd, h0, h3, Bool.true_eq_false, if_false]
        refine ⟨z1, z2, z3, z4, z5, z6, z7, z8, ⟨n1, n2, n3, by rw [codes_ins]; exact d2, by rw [codes_ins]; exact ins_srt n5, n6⟩, z10⟩
def blkS (L : List Nat) (k f : Nat) : Bool := (List.range' k (f - k)).all fun i => decide (L.getD i 0 = 32)
theorem blk_stop {L : List Nat} {k f : Nat} (h : f ≤ k) : blkS L k f = true := by simp [blkS, Nat.sub_eq_zero_of_le h]
theorem blk_step {L : List Nat} {k f : Nat} (h : k < f) : blkS L k f = (decide (L.getD k 0 = 32) && blkS L (k + 1) f) := by
  unfold blkS
  rw [show f - k = (f - (k + 1)) + 1 by omega, List.range'_succ]; simp
theorem t_blank {L : List Nat} {sE : Nat → Int32} {sC : Int32} (hs : Rw 700 sE sC L) (hv : ∀ i, L.getD i 0 < 2147483648) {f : Nat} (hf : f ≤ L.length) (k : Nat) (hk : k ≤ f) : ∃ m, T_Compiler_isBlank 700 sE sC (blkS L k f) m (nI f) (nI k) := by
  have hL7 := hs.2.1
  by_cases h : k < f
  · have hel := row_el hs (k := k) (by omega)
    have hvk := hv k
    by_cases h2 : L.getD k 0 = 32
    · obtain ⟨m, hm⟩ := t_blank hs hv hf (k + 1) h
      refine ⟨m + 1, ?_⟩
      rw [blk_step h, decide_eq_true h2, Bool.true_and]
      simp (disch := omega) only [T_Compiler_isBlank, S_Compiler_isBlank, B_Compiler_isBlank_2, q_lit, le_T, le_F, lt_T, lt_F, eq_T, eq_F, m1_lt, m1_le, lt_m1, le_m1, eq_m1, m1_eq, nI_add, nI_sub, nI_dec, nI_mul, nI_or, nI_and, nI_div, nI_mod, and_255, and_31, and_1, and_63, nI_shl, nI_shr, bI_F, bI_1, vp_T, cl_T, true_implies, false_implies, not_true_eq_false, not_false_eq_true, true_and, and_true, false_and, and_false, Bool.false_eq_true, Bool.true_eq_false, reduceCtorEq, implies_true, q_lc_eq, q_lc_ge, q_lc_gt, q_lc_le, lN_or, lN_and, lN_shl, lN_shr, nI_L, lN_I, l_0]
      refine ⟨_, hel, ?_⟩
      simp (disch := omega) only [h2, q_lit, le_T, le_F, lt_T, lt_F, eq_T, eq_F, m1_lt, m1_le, lt_m1, le_m1, eq_m1, m1_eq, nI_add, nI_sub, nI_dec, nI_mul, nI_or, nI_and, nI_div, nI_mod, and_255, and_31, and_1, and_63, nI_shl, nI_shr, bI_F, bI_1, vp_T, cl_T, true_implies, false_implies, not_true_eq_false, not_false_eq_true, true_and, and_true, false_and, and_false, Bool.false_eq_true, Bool.true_eq_false, reduceCtorEq, implies_true]
      exact hm
    · refine ⟨1, ?_⟩
      rw [blk_step h, decide_eq_false h2, Bool.false_and]
      simp (disch := omega) only [T_Compiler_isBlank, S_Compiler_isBlank, B_Compiler_isBlank_2, q_lit, le_T, le_F, lt_T, lt_F, eq_T, eq_F, m1_lt, m1_le, lt_m1, le_m1, eq_m1, m1_eq, nI_add, nI_sub, nI_dec, nI_mul, nI_or, nI_and, nI_div, nI_mod, and_255, and_31, and_1, and_63, nI_shl, nI_shr, bI_F, bI_1, vp_T, cl_T, true_implies, false_implies, not_true_eq_false, not_false_eq_true, true_and, and_true, false_and, and_false, Bool.false_eq_true, Bool.true_eq_false, reduceCtorEq, implies_true, q_lc_eq, q_lc_ge, q_lc_gt, q_lc_le, lN_or, lN_and, lN_shl, lN_shr, nI_L, lN_I, l_0]
      refine ⟨_, hel, ?_⟩
      simp (disch := omega) only [q_lit, le_T, le_F, lt_T, lt_F, eq_T, eq_F, m1_lt, m1_le, lt_m1, le_m1, eq_m1, m1_eq, nI_add, nI_sub, nI_dec, nI_mul, nI_or, nI_and, nI_div, nI_mod, and_255, and_31, and_1, and_63, nI_shl, nI_shr, bI_F, bI_1, vp_T, cl_T, true_implies, false_implies, not_true_eq_false, not_false_eq_true, true_and, and_true, false_and, and_false, Bool.false_eq_true, Bool.true_eq_false, reduceCtorEq, implies_true]
  · refine ⟨1, ?_⟩
    rw [blk_stop (by omega)]
    simp (disch := omega) only [T_Compiler_isBlank, S_Compiler_isBlank, B_Compiler_isBlank_2, q_lit, le_T, le_F, lt_T, lt_F, eq_T, eq_F, m1_lt, m1_le, lt_m1, le_m1, eq_m1, m1_eq, nI_add, nI_sub, nI_dec, nI_mul, nI_or, nI_and, nI_div, nI_mod, and_255, and_31, and_1, and_63, nI_shl, nI_shr, bI_F, bI_1, vp_T, cl_T, true_implies, false_implies, not_true_eq_false, not_false_eq_true, true_and, and_true, false_and, and_false, Bool.false_eq_true, Bool.true_eq_false, reduceCtorEq, implies_true, q_lc_eq, q_lc_ge, q_lc_gt, q_lc_le, lN_or, lN_and, lN_shl, lN_shr, nI_L, lN_I, l_0]
termination_by f - k
decreasing_by all_goals omega
