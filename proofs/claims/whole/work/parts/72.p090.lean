/-! Pure: all lines of a source, the class. -/
theorem txt_ind {L : List Nat} {f ln : Nat} (P : q_Cs → Nat → Prop) (h1 : ∀ a k, k < f → a.2.2.2.2.2.1 = 0 → L.getD k 0 = 32 → P a k → P ((a.1, a.2.1, a.2.2.1, a.2.2.2.1, a.2.2.2.2.1, a.2.2.2.2.2.1, a.2.2.2.2.2.2.1, a.2.2.2.2.2.2.2.1, a.2.2.2.2.2.2.2.2.1, a.2.2.2.2.2.2.2.1, a.2.2.2.2.2.2.2.2.2.2) : q_Cs) (k + 1))
    (h2 : ∀ a k, k < f → a.2.2.2.2.2.1 = 0 → L.getD k 0 = 91 → lkOkS L k f = true → P a k → P (lnkA L k f ln (dueB a)) (letEnd L (k + 1) f + 1))
    (h3 : ∀ a k, k < f → a.2.2.2.2.2.1 = 0 → L.getD k 0 = 91 → lkOkS L k f = false → P a k → P (blm 6 ln (dueB a)) (k + 1))
    (h4 : ∀ a k, k < f → a.2.2.2.2.2.1 = 0 → ¬ L.getD k 0 = 32 → ¬ L.getD k 0 = 91 → P a k → P (q_sgn (L.getD k 0) ln (dueB a)) (k + 1)) (a : q_Cs) (k : Nat) (hk : k ≤ f) (h : P a k) : ∃ k', k ≤ k' ∧ k' ≤ f ∧ P (q_txt L f ln a k) k' ∧ ((q_txt L f ln a k).2.2.2.2.2.1 = 0 → k' = f) := by
  rw [q_txt]
  by_cases h0 : k < f ∧ a.2.2.2.2.2.1 = 0
  · rw [if_pos h0]
    by_cases e1 : L.getD k 0 = 32
    · rw [if_pos e1]
      obtain ⟨k', a1, a2, a3, a4⟩ := txt_ind P h1 h2 h3 h4 _ (k + 1) (by omega) (h1 a k h0.1 h0.2 e1 h)
      exact ⟨k', by omega, a2, a3, a4⟩
    · rw [if_neg e1]
      by_cases e2 : L.getD k 0 = 91
      · rw [if_pos e2]
        cases e3 : lkOkS L k f with
        | true =>
          have hge := letEnd_ge L (k + 1) f
          have hlt : letEnd L (k + 1) f < f := by
            simp only [lkOkS, Bool.and_eq_true, decide_eq_true_eq] at e3
            exact e3.1.1
          rw [if_pos rfl]
          obtain ⟨k', a1, a2, a3, a4⟩ := txt_ind P h1 h2 h3 h4 _ (letEnd L (k + 1) f + 1) (by omega) (h2 a k h0.1 h0.2 e2 e3 h)
          exact ⟨k', by omega, a2, a3, a4⟩
        | false =>
          rw [if_neg (by simp)]
          obtain ⟨k', a1, a2, a3, a4⟩ := txt_ind P h1 h2 h3 h4 _ (k + 1) (by omega) (h3 a k h0.1 h0.2 e2 e3 h)
          exact ⟨k', by omega, a2, a3, a4⟩
      · rw [if_neg e2]
        obtain ⟨k', a1, a2, a3, a4⟩ := txt_ind P h1 h2 h3 h4 _ (k + 1) (by omega) (h4 a k h0.1 h0.2 e1 e2 h)
        exact ⟨k', by omega, a2, a3, a4⟩
  · rw [if_neg h0]
    refine ⟨k, Nat.le_refl _, hk, h, fun h5 => ?_⟩
    rcases Nat.lt_or_ge k f with h6 | h6
    · exact absurd ⟨h6, h5⟩ h0
    · omega
termination_by f - k
decreasing_by
  · omega
  · omega
  · omega
  · omega
def lin (L : List Nat) (s f ln : Nat) (a : q_Cs) : q_Cs :=
  if blkS L s f = true then clP a
  else if L.getD s 0 = 35 then hdg L (s + 1) f ln (clP a)
  else if L.getD s 0 = 33 then kwd L (s + 1) f ln (clP a)
  else if a.2.1 = [] then blm 1 ln a
  else q_txt L f ln ((a.1, a.2.1, a.2.2.1, a.2.2.2.1, a.2.2.2.2.1, a.2.2.2.2.2.1, a.2.2.2.2.2.2.1, a.2.2.2.2.2.2.2.1, a.2.2.2.2.2.2.2.2.1, a.2.2.2.2.2.2.2.1, ln) : q_Cs) s
theorem blk_lt {L : List Nat} {s f : Nat} (h : blkS L s f = false) : s < f := by
  rcases Nat.lt_or_ge s f with h1 | h1
  · exact h1
  · rw [blk_stop h1] at h; cases h
theorem clP_ns (a : q_Cs) : (clP a).1 = a.1 ∧ (clP a).2.2.2.1 = a.2.2.2.1 ∧ (clP a).2.2.2.2.1 = a.2.2.2.2.1 ∧ (clP a).2.2.2.2.2.2.2.1 = false ∧ (clP a).2.2.1 = a.2.2.1 := by
  unfold clP
  by_cases h : a.2.2.2.2.2.2.2.1 = true
  · simp only [h, if_true]
    split <;> exact ⟨rfl, rfl, rfl, trivial, rfl⟩
  · rw [if_neg h]
    exact ⟨rfl, rfl, rfl, Bool.eq_false_iff.mpr h, rfl⟩
theorem clP_len {a : q_Cs} (h : a.2.2.2.2.2.2.2.1 = true → a.2.1 ≠ []) : (clP a).2.1.flatten.length ≤ a.2.1.flatten.length + 1 ∧ ((clP a).2.1 = [] ↔ a.2.1 = []) := by
  unfold clP
  by_cases h1 : a.2.2.2.2.2.2.2.1 = true
  · have := h h1
    simp only [h1, if_true]
    rw [addB_flat this]
    refine ⟨by simp, ?_⟩
    constructor
    · intro h2; exact absurd h2 (addB_ne _ _)
    · intro h2; exact absurd h2 this
  · rw [if_neg h1]
    exact ⟨by omega, Iff.rfl⟩
theorem ci_line {L : List Nat} {sE : Nat → Int32} {sC : Int32} (hs : Rw 700 sE sC L) (hv : ∀ i, L.getD i 0 < 2147483648) {c : q_CC} {a : q_Cs} (h : q_CI L c a) (hok : NmOk a.1) {s f ln : Nat} (hsf : s ≤ f) (hf : f ≤ L.length) (hW : c.2.2.2.2.2.2.2.1 = nI ln) (hb : a.2.1.flatten.length ≤ 2 * s + 2) (hlk : 3 * a.2.2.2.2.1.length ≤ s) (hkl : 3 * a.2.2.2.1.length ≤ s) :
    ∃ c', D_Compiler_readLine 700 2550 252 (nI s) (nI f) c.1 c.2.1 c.2.2.1 c.2.2.2.1 c.2.2.2.2.1 c.2.2.2.2.2.1 c.2.2.2.2.2.2.1 c.2.2.2.2.2.2.2.1 c.2.2.2.2.2.2.2.2.1 c.2.2.2.2.2.2.2.2.2.1 c.2.2.2.2.2.2.2.2.2.2.1 c.2.2.2.2.2.2.2.2.2.2.2.1 sE sC c.2.2.2.2.2.2.2.2.2.2.2.2.1 c.2.2.2.2.2.2.2.2.2.2.2.2.2.1 c.2.2.2.2.2.2.2.2.2.2.2.2.2.2.1 c.2.2.2.2.2.2.2.2.2.2.2.2.2.2.2.1 c.2.2.2.2.2.2.2.2.2.2.2.2.2.2.2.2.1 c.2.2.2.2.2.2.2.2.2.2.2.2.2.2.2.2.2.1 c.2.2.2.2.2.2.2.2.2.2.2.2.2.2.2.2.2.2.1 c.2.2.2.2.2.2.2.2.2.2.2.2.2.2.2.2.2.2.2.1 c.2.2.2.2.2.2.2.2.2.2.2.2.2.2.2.2.2.2.2.2 c'.1 c'.2.1 c'.2.2.1 c'.2.2.2.1 c'.2.2.2.2.1 c'.2.2.2.2.2.1 c'.2.2.2.2.2.2.1 c'.2.2.2.2.2.2.2.2.1 c'.2.2.2.2.2.2.2.2.2.1 c'.2.2.2.2.2.2.2.2.2.2.1 c'.2.2.2.2.2.2.2.2.2.2.2.1 c'.2.2.2.2.2.2.2.2.2.2.2.2.1 c'.2.2.2.2.2.2.2.2.2.2.2.2.2.1 c'.2.2.2.2.2.2.2.2.2.2.2.2.2.2.1 c'.2.2.2.2.2.2.2.2.2.2.2.2.2.2.2.1 c'.2.2.2.2.2.2.2.2.2.2.2.2.2.2.2.2.1 c'.2.2.2.2.2.2.2.2.2.2.2.2.2.2.2.2.2.1 c'.2.2.2.2.2.2.2.2.2.2.2.2.2.2.2.2.2.2.1 c'.2.2.2.2.2.2.2.2.2.2.2.2.2.2.2.2.2.2.2.1 c'.2.2.2.2.2.2.2.2.2.2.2.2.2.2.2.2.2.2.2.2 ∧ q_CI L c' (lin L s f ln a) ∧ c'.2.2.2.2.2.2.2.1 = c.2.2.2.2.2.2.2.1 := by
  have hL7 := hs.2.1
  obtain ⟨m, hbl⟩ := t_blank hs hv hf s hsf
  have hbl : D_Compiler_isBlank 700 (nI s) (nI f) sE sC (blkS L s f) := ⟨m, hbl⟩
  have hN := h.2.2.2.2.2.2.2.2.1
  have hT := h.2.2.2.2.2.2.2.1.1
  have hT10 := h.2.2.2.2.2.2.2.1.2.1
  obtain ⟨F1, E1, I1, M1, S1, BE1, BC1, d1, d2⟩ := ci_close h (by omega)
  have hcl := clP_ns a
  have hcl2 := clP_len hN.2.2.2.2.2
  cases hbk : blkS L s f with
  | true =>
    rw [hbk] at hbl
    refine ⟨((c.1, c.2.1, c.2.2.1, c.2.2.2.1, c.2.2.2.2.1, F1, E1, c.2.2.2.2.2.2.2.1, c.2.2.2.2.2.2.2.2.1, I1, c.2.2.2.2.2.2.2.2.2.2.1, M1, c.2.2.2.2.2.2.2.2.2.2.2.2.1, S1, BE1, BC1, c.2.2.2.2.2.2.2.2.2.2.2.2.2.2.2.2.1, c.2.2.2.2.2.2.2.2.2.2.2.2.2.2.2.2.2.1, c.2.2.2.2.2.2.2.2.2.2.2.2.2.2.2.2.2.2.1, c.2.2.2.2.2.2.2.2.2.2.2.2.2.2.2.2.2.2.2.1, c.2.2.2.2.2.2.2.2.2.2.2.2.2.2.2.2.2.2.2.2) : q_CC), ⟨true, hbl, ?_⟩, by simp only [lin, hbk, if_true]; exact d2, rfl⟩
    simp (disch := omega) only [q_lit, le_T, le_F, lt_T, lt_F, eq_T, eq_F, m1_lt, m1_le, lt_m1, le_m1, eq_m1, m1_eq, nI_add, nI_sub, nI_dec, nI_mul, nI_or, nI_and, nI_div, nI_mod, and_255, and_31, and_1, and_63, nI_shl, nI_shr, bI_F, bI_1, vp_T, cl_T, true_implies, false_implies, not_true_eq_false, not_false_eq_true, true_and, and_true, false_and, and_false, Bool.false_eq_true, Bool.true_eq_false, reduceCtorEq, implies_true]
    exact ⟨F1, E1, I1, M1, S1, BE1, BC1, c.2.2.2.2.2.2.2.2.2.2.2.2.2.2.2.2.1, d1, rfl, rfl, rfl, rfl, rfl, rfl, rfl, rfl⟩
  | false =>
    have hlt := blk_lt hbk
    rw [hbk] at hbl
    have hel := row_el hs (k := s) (by omega)
    have hvs := hv s
    by_cases h35 : L.getD s 0 = 35
    · obtain ⟨H2, F2, E2, bN2, S2, T2, g1, g2⟩ := ci_head hs hv (ln := ln) d2 (by rw [hcl.1]; exact hok) (s := s + 1) (f := f) (by omega) hf hW hcl.2.2.2.1
      refine ⟨((H2, c.2.1, c.2.2.1, c.2.2.2.1, c.2.2.2.2.1, F2, E2, c.2.2.2.2.2.2.2.1, c.2.2.2.2.2.2.2.2.1, I1, c.2.2.2.2.2.2.2.2.2.2.1, M1, bN2, S2, BE1, BC1, c.2.2.2.2.2.2.2.2.2.2.2.2.2.2.2.2.1, c.2.2.2.2.2.2.2.2.2.2.2.2.2.2.2.2.2.1, c.2.2.2.2.2.2.2.2.2.2.2.2.2.2.2.2.2.2.1, c.2.2.2.2.2.2.2.2.2.2.2.2.2.2.2.2.2.2.2.1, T2) : q_CC), ⟨false, hbl, ?_⟩, by simp only [lin, hbk, h35, Bool.false_eq_true, if_true, if_false]; exact g2, rfl⟩
      simp (disch := omega) only [q_lit, le_T, le_F, lt_T, lt_F, eq_T, eq_F, m1_lt, m1_le, lt_m1, le_m1, eq_m1, m1_eq, nI_add, nI_sub, nI_dec, nI_mul, nI_or, nI_and, nI_div, nI_mod, and_255, and_31, and_1, and_63, nI_shl, nI_shr, bI_F, bI_1, vp_T, cl_T, true_implies, false_implies, not_true_eq_false, not_false_eq_true, true_and, and_true, false_and, and_false, Bool.false_eq_true, Bool.true_eq_false, reduceCtorEq, implies_true]
      refine ⟨_, hel, ?_⟩
      simp (disch := omega) only [h35, q_lit, le_T, le_F, lt_T, lt_F, eq_T, eq_F, m1_lt, m1_le, lt_m1, le_m1, eq_m1, m1_eq, nI_add, nI_sub, nI_dec, nI_mul, nI_or, nI_and, nI_div, nI_mod, and_255, and_31, and_1, and_63, nI_shl, nI_shr, bI_F, bI_1, vp_T, cl_T, true_implies, false_implies, not_true_eq_false, not_false_eq_true, true_and, and_true, false_and, and_false, Bool.false_eq_true, Bool.true_eq_false, reduceCtorEq, implies_true]
      exact ⟨F1, E1, I1, M1, S1, BE1, BC1, c.2.2.2.2.2.2.2.2.2.2.2.2.2.2.2.2.1, d1, H2, F2, E2, bN2, S2, T2, g1, rfl, rfl, rfl, rfl, rfl, rfl, rfl, rfl, rfl, rfl, rfl⟩
    · by_cases h33 : L.getD s 0 = 33
      · obtain ⟨F2, E2, kW2, kT2, kC2, g1, g2⟩ := ci_kwd hs hv (ln := ln) d2 (by rw [hcl.2.1]; omega) (s := s + 1) (f := f) (by omega) hf hW
        refine ⟨((c.1, c.2.1, c.2.2.1, c.2.2.2.1, c.2.2.2.2.1, F2, E2, c.2.2.2.2.2.2.2.1, c.2.2.2.2.2.2.2.2.1, I1, c.2.2.2.2.2.2.2.2.2.2.1, M1, c.2.2.2.2.2.2.2.2.2.2.2.2.1, S1, BE1, BC1, c.2.2.2.2.2.2.2.2.2.2.2.2.2.2.2.2.1, kW2, kT2, kC2, c.2.2.2.2.2.2.2.2.2.2.2.2.2.2.2.2.2.2.2.2) : q_CC), ⟨false, hbl, ?_⟩, by simp only [lin, hbk, h35, h33, Bool.false_eq_true, if_true, if_false]; exact g2, rfl⟩
        simp (disch := omega) only [q_lit, le_T, le_F, lt_T, lt_F, eq_T, eq_F, m1_lt, m1_le, lt_m1, le_m1, eq_m1, m1_eq, nI_add, nI_sub, nI_dec, nI_mul, nI_or, nI_and, nI_div, nI_mod, and_255, and_31, and_1, and_63, nI_shl, nI_shr, bI_F, bI_1, vp_T, cl_T, true_implies, false_implies, not_true_eq_false, not_false_eq_true, true_and, and_true, false_and, and_false, Bool.false_eq_true, Bool.true_eq_false, reduceCtorEq, implies_true]
        refine ⟨_, hel, ?_⟩
        simp (disch := omega) only [h33, q_lit, le_T, le_F, lt_T, lt_F, eq_T, eq_F, m1_lt, m1_le, lt_m1, le_m1, eq_m1, m1_eq, nI_add, nI_sub, nI_dec, nI_mul, nI_or, nI_and, nI_div, nI_mod, and_255, and_31, and_1, and_63, nI_shl, nI_shr, bI_F, bI_1, vp_T, cl_T, true_implies, false_implies, not_true_eq_false, not_false_eq_true, true_and, and_true, false_and, and_false, Bool.false_eq_true, Bool.true_eq_false, reduceCtorEq, implies_true]
        refine ⟨_, hel, ?_⟩
        simp (disch := omega) only [h33, q_lit, le_T, le_F, lt_T, lt_F, eq_T, eq_F, m1_lt, m1_le, lt_m1, le_m1, eq_m1, m1_eq, nI_add, nI_sub, nI_dec, nI_mul, nI_or, nI_and, nI_div, nI_mod, and_255, and_31, and_1, and_63, nI_shl, nI_shr, bI_F, bI_1, vp_T, cl_T, true_implies, false_implies, not_true_eq_false, not_false_eq_true, true_and, and_true, false_and, and_false, Bool.false_eq_true, Bool.true_eq_false, reduceCtorEq, implies_true]
        exact ⟨F1, E1, I1, M1, S1, BE1, BC1, c.2.2.2.2.2.2.2.2.2.2.2.2.2.2.2.2.1, d1, F2, E2, kW2, kT2, kC2, g1, rfl, rfl, rfl, rfl, rfl, rfl, rfl, rfl, rfl, rfl, rfl⟩
      · by_cases h0 : a.2.1 = []
        · obtain ⟨F2, E2, b1, b2⟩ := ci_blame h (k := 1) (l := ln) (by omega) (by omega)
          have e0 : c.2.2.2.2.2.2.2.2.2.2.2.2.2.2.2.2.2.2.2.2 = nI 0 := by rw [hT, h0]; rfl
          refine ⟨((c.1, c.2.1, c.2.2.1, c.2.2.2.1, c.2.2.2.2.1, F2, E2, c.2.2.2.2.2.2.2.1, c.2.2.2.2.2.2.2.2.1, c.2.2.2.2.2.2.2.2.2.1, c.2.2.2.2.2.2.2.2.2.2.1, c.2.2.2.2.2.2.2.2.2.2.2.1, c.2.2.2.2.2.2.2.2.2.2.2.2.1, c.2.2.2.2.2.2.2.2.2.2.2.2.2.1, c.2.2.2.2.2.2.2.2.2.2.2.2.2.2.1, c.2.2.2.2.2.2.2.2.2.2.2.2.2.2.2.1, c.2.2.2.2.2.2.2.2.2.2.2.2.2.2.2.2.1, c.2.2.2.2.2.2.2.2.2.2.2.2.2.2.2.2.2.1, c.2.2.2.2.2.2.2.2.2.2.2.2.2.2.2.2.2.2.1, c.2.2.2.2.2.2.2.2.2.2.2.2.2.2.2.2.2.2.2.1, c.2.2.2.2.2.2.2.2.2.2.2.2.2.2.2.2.2.2.2.2) : q_CC), ⟨false, hbl, ?_⟩, by simp only [lin, hbk, h35, h33, h0, Bool.false_eq_true, if_true, if_false]; exact b2, rfl⟩
          simp (disch := omega) only [q_lit, le_T, le_F, lt_T, lt_F, eq_T, eq_F, m1_lt, m1_le, lt_m1, le_m1, eq_m1, m1_eq, nI_add, nI_sub, nI_dec, nI_mul, nI_or, nI_and, nI_div, nI_mod, and_255, and_31, and_1, and_63, nI_shl, nI_shr, bI_F, bI_1, vp_T, cl_T, true_implies, false_implies, not_true_eq_false, not_false_eq_true, true_and, and_true, false_and, and_false, Bool.false_eq_true, Bool.true_eq_false, reduceCtorEq, implies_true]
          refine ⟨_, hel, ?_⟩
          simp (disch := omega) only [q_lit, le_T, le_F, lt_T, lt_F, eq_T, eq_F, m1_lt, m1_le, lt_m1, le_m1, eq_m1, m1_eq, nI_add, nI_sub, nI_dec, nI_mul, nI_or, nI_and, nI_div, nI_mod, and_255, and_31, and_1, and_63, nI_shl, nI_shr, bI_F, bI_1, vp_T, cl_T, true_implies, false_implies, not_true_eq_false, not_false_eq_true, true_and, and_true, false_and, and_false, Bool.false_eq_true, Bool.true_eq_false, reduceCtorEq, implies_true]
          refine ⟨_, hel, ?_⟩
          rw [e0, hW]
          simp (disch := omega) only [q_lit, le_T, le_F, lt_T, lt_F, eq_T, eq_F, m1_lt, m1_le, lt_m1, le_m1, eq_m1, m1_eq, nI_add, nI_sub, nI_dec, nI_mul, nI_or, nI_and, nI_div, nI_mod, and_255, and_31, and_1, and_63, nI_shl, nI_shr, bI_F, bI_1, vp_T, cl_T, true_implies, false_implies, not_true_eq_false, not_false_eq_true, true_and, and_true, false_and, and_false, Bool.false_eq_true, Bool.true_eq_false, reduceCtorEq, implies_true]
          exact ⟨F2, E2, b1, rfl, rfl⟩
        · have hpos : 0 < a.2.1.length := List.length_pos_iff.mpr h0
          have h' : q_CI L ((c.1, c.2.1, c.2.2.1, c.2.2.2.1, c.2.2.2.2.1, c.2.2.2.2.2.1, c.2.2.2.2.2.2.1, c.2.2.2.2.2.2.2.1, c.2.2.2.2.2.2.2.1, c.2.2.2.2.2.2.2.2.2.1, c.2.2.2.2.2.2.2.2.2.1, c.2.2.2.2.2.2.2.2.2.2.2.1, c.2.2.2.2.2.2.2.2.2.2.2.2.1, c.2.2.2.2.2.2.2.2.2.2.2.2.2.1, c.2.2.2.2.2.2.2.2.2.2.2.2.2.2.1, c.2.2.2.2.2.2.2.2.2.2.2.2.2.2.2.1, c.2.2.2.2.2.2.2.2.2.2.2.2.2.2.2.2.1, c.2.2.2.2.2.2.2.2.2.2.2.2.2.2.2.2.2.1, c.2.2.2.2.2.2.2.2.2.2.2.2.2.2.2.2.2.2.1, c.2.2.2.2.2.2.2.2.2.2.2.2.2.2.2.2.2.2.2.1, c.2.2.2.2.2.2.2.2.2.2.2.2.2.2.2.2.2.2.2.2) : q_CC) ((a.1, a.2.1, a.2.2.1, a.2.2.2.1, a.2.2.2.2.1, a.2.2.2.2.2.1, a.2.2.2.2.2.2.1, a.2.2.2.2.2.2.2.1, a.2.2.2.2.2.2.2.2.1, a.2.2.2.2.2.2.2.1, ln) : q_Cs) := by
            obtain ⟨z1, z2, z3, z4, z5, z6, z7, z8, z9, z10⟩ := h
            exact ⟨z1, z2, z3, hW, z5, z5, z7, z8, z9, z10⟩
          obtain ⟨c', e1, e2, e3⟩ := ci_txt hs hv hf s ((a.1, a.2.1, a.2.2.1, a.2.2.2.1, a.2.2.2.2.1, a.2.2.2.2.2.1, a.2.2.2.2.2.2.1, a.2.2.2.2.2.2.2.1, a.2.2.2.2.2.2.2.2.1, a.2.2.2.2.2.2.2.1, ln) : q_Cs) ((c.1, c.2.1, c.2.2.1, c.2.2.2.1, c.2.2.2.2.1, c.2.2.2.2.2.1, c.2.2.2.2.2.2.1, c.2.2.2.2.2.2.2.1, c.2.2.2.2.2.2.2.1, c.2.2.2.2.2.2.2.2.2.1, c.2.2.2.2.2.2.2.2.2.1, c.2.2.2.2.2.2.2.2.2.2.2.1, c.2.2.2.2.2.2.2.2.2.2.2.2.1, c.2.2.2.2.2.2.2.2.2.2.2.2.2.1, c.2.2.2.2.2.2.2.2.2.2.2.2.2.2.1, c.2.2.2.2.2.2.2.2.2.2.2.2.2.2.2.1, c.2.2.2.2.2.2.2.2.2.2.2.2.2.2.2.2.1, c.2.2.2.2.2.2.2.2.2.2.2.2.2.2.2.2.2.1, c.2.2.2.2.2.2.2.2.2.2.2.2.2.2.2.2.2.2.1, c.2.2.2.2.2.2.2.2.2.2.2.2.2.2.2.2.2.2.2.1, c.2.2.2.2.2.2.2.2.2.2.2.2.2.2.2.2.2.2.2.2) : q_CC) h' hW h0 hb hlk (by omega)
          obtain ⟨k1, k2, k3, k4, k5, k6, k7, k8, k9⟩ := e3
          refine ⟨c', ⟨false, hbl, ?_⟩, by simp only [lin, hbk, h35, h33, h0, Bool.false_eq_true, if_false]; exact e2, k2⟩
          simp (disch := omega) only [q_lit, le_T, le_F, lt_T, lt_F, eq_T, eq_F, m1_lt, m1_le, lt_m1, le_m1, eq_m1, m1_eq, nI_add, nI_sub, nI_dec, nI_mul, nI_or, nI_and, nI_div, nI_mod, and_255, and_31, and_1, and_63, nI_shl, nI_shr, bI_F, bI_1, vp_T, cl_T, true_implies, false_implies, not_true_eq_false, not_false_eq_true, true_and, and_true, false_and, and_false, Bool.false_eq_true, Bool.true_eq_false, reduceCtorEq, implies_true]
          refine ⟨_, hel, ?_⟩
          simp (disch := omega) only [q_lit, le_T, le_F, lt_T, lt_F, eq_T, eq_F, m1_lt, m1_le, lt_m1, le_m1, eq_m1, m1_eq, nI_add, nI_sub, nI_dec, nI_mul, nI_or, nI_and, nI_div, nI_mod, and_255, and_31, and_1, and_63, nI_shl, nI_shr, bI_F, bI_1, vp_T, cl_T, true_implies, false_implies, not_true_eq_false, not_false_eq_true, true_and, and_true, false_and, and_false, Bool.false_eq_true, Bool.true_eq_false, reduceCtorEq, implies_true]
          refine ⟨_, hel, ?_⟩
          rw [hT]
          simp (disch := omega) only [q_lit, le_T, le_F, lt_T, lt_F, eq_T, eq_F, m1_lt, m1_le, lt_m1, le_m1, eq_m1, m1_eq, nI_add, nI_sub, nI_dec, nI_mul, nI_or, nI_and, nI_div, nI_mod, and_255, and_31, and_1, and_63, nI_shl, nI_shr, bI_F, bI_1, vp_T, cl_T, true_implies, false_implies, not_true_eq_false, not_false_eq_true, true_and, and_true, false_and, and_false, Bool.false_eq_true, Bool.true_eq_false, reduceCtorEq, implies_true]
          rw [hT] at e1
          exact ⟨c'.2.1, c'.2.2.1, c'.2.2.2.1, c'.2.2.2.2.1, c'.2.2.2.2.2.1, c'.2.2.2.2.2.2.1, c'.2.2.2.2.2.2.2.2.1, c'.2.2.2.2.2.2.2.2.2.1, c'.2.2.2.2.2.2.2.2.2.2.1, c'.2.2.2.2.2.2.2.2.2.2.2.1, c'.2.2.2.2.2.2.2.2.2.2.2.2.2.1, c'.2.2.2.2.2.2.2.2.2.2.2.2.2.2.1, c'.2.2.2.2.2.2.2.2.2.2.2.2.2.2.2.1, c'.2.2.2.2.2.2.2.2.2.2.2.2.2.2.2.2.1, e1, k1, rfl, rfl, rfl, rfl, rfl, rfl, rfl, rfl, rfl, rfl, k4, rfl, rfl, rfl, rfl, k5, k6, k7, by rw [k8, hT]⟩
