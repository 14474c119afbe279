/-! Pure: end, at, spoil, type. -/
theorem sgn_cases (a : Int32) : a < 0 ∨ ∃ j : Nat, j < 2147483648 ∧ a = nI j := by
  by_cases h : a < 0
  · exact Or.inl h
  · exact Or.inr (nI_of h)
theorem neg_lt {a : Int32} (h : a < 0) (n : Nat) (hn : n < 2147483648) : (a < nI n) = True := eq_true (by
  have h1 := Int32.lt_iff_toInt_lt.mp h
  rw [Int32.lt_iff_toInt_lt, nI_toInt hn]
  have : (0 : Int32).toInt = 0 := by decide +kernel
  omega)
theorem neg_le {a : Int32} (h : a < 0) (n : Nat) (hn : n < 2147483648) : (nI n ≤ a) = False := eq_false (fun h2 => by
  have h1 := Int32.lt_iff_toInt_lt.mp h
  have h3 := Int32.le_iff_toInt_le.mp h2
  rw [nI_toInt hn] at h3
  have : (0 : Int32).toInt = 0 := by decide +kernel
  omega)
theorem neg_ne {a : Int32} (h : a < 0) (n : Nat) (hn : n < 2147483648) : (a = nI n) = False := eq_false (fun h2 => by
  have := neg_lt h n hn
  rw [h2] at this
  have h3 := of_eq_true this
  exact absurd h3 (of_eq_false (lt_F (Nat.le_refl n) hn)))
theorem neg_m1 {a : Int32} (h : a < 0) (h1 : ¬ a = -nI 1) : (a < -nI 1) = True := eq_true (by
  have h2 := Int32.lt_iff_toInt_lt.mp h
  rw [Int32.lt_iff_toInt_lt, m1_toInt]
  have h0 : (0 : Int32).toInt = 0 := by decide +kernel
  have h3 : ¬ a.toInt = -1 := fun h4 => h1 (Int32.toInt_inj.mp (by rw [m1_toInt]; exact h4))
  omega)
theorem m1_neg : (-nI 1 : Int32) < 0 := by decide +kernel
theorem m1_irr : (-nI 1 < (-nI 1 : Int32)) = False := by decide +kernel
/-- in, of any number -/
theorem in_neg {a : Int32} (h : a < 0) {n : Nat} (hn : n < 2147483648) (m : Int32) : D_Model_in a (nI n) m false := by
  unfold D_Model_in
  rw [neg_lt h n hn]
  simp
theorem in_pre {j n : Nat} (hj : j < 2147483648) (hn : n < 2147483648) : D_Model_in (nI j) (nI 0) (nI n - nI 1) (decide (j < n)) := by
  unfold D_Model_in
  by_cases h0 : n = 0
  · subst h0
    rw [m1_sub (a := 0), decide_eq_false (by omega)]
    simp (disch := omega) only [q_lit, le_T, le_F, lt_T, lt_F, eq_T, eq_F, m1_lt, m1_le, lt_m1, le_m1, eq_m1, m1_eq, nI_add, nI_sub, nI_dec, nI_mul, nI_or, nI_and, nI_div, nI_mod, and_255, and_31, and_1, and_63, nI_shl, nI_shr, bI_F, bI_1, vp_T, cl_T, true_implies, false_implies, not_true_eq_false, not_false_eq_true, true_and, and_true, false_and, and_false, Bool.false_eq_true, Bool.true_eq_false, reduceCtorEq, implies_true]
  · rw [nI_sub (by omega)]
    by_cases h1 : j < n
    · rw [decide_eq_true h1]; simp (disch := omega) only [q_lit, le_T, le_F, lt_T, lt_F, eq_T, eq_F, m1_lt, m1_le, lt_m1, le_m1, eq_m1, m1_eq, nI_add, nI_sub, nI_dec, nI_mul, nI_or, nI_and, nI_div, nI_mod, and_255, and_31, and_1, and_63, nI_shl, nI_shr, bI_F, bI_1, vp_T, cl_T, true_implies, false_implies, not_true_eq_false, not_false_eq_true, true_and, and_true, false_and, and_false, Bool.false_eq_true, Bool.true_eq_false, reduceCtorEq, implies_true]
    · rw [decide_eq_false h1]; simp (disch := omega) only [q_lit, le_T, le_F, lt_T, lt_F, eq_T, eq_F, m1_lt, m1_le, lt_m1, le_m1, eq_m1, m1_eq, nI_add, nI_sub, nI_dec, nI_mul, nI_or, nI_and, nI_div, nI_mod, and_255, and_31, and_1, and_63, nI_shl, nI_shr, bI_F, bI_1, vp_T, cl_T, true_implies, false_implies, not_true_eq_false, not_false_eq_true, true_and, and_true, false_and, and_false, Bool.false_eq_true, Bool.true_eq_false, reduceCtorEq, implies_true]
theorem in_pre1 {j n : Nat} (hj : j < 2147483648) (hn : n < 2147483648) : D_Model_in (nI j) (-nI 1) (nI n - nI 1) (decide (j < n)) := by
  unfold D_Model_in
  by_cases h0 : n = 0
  · subst h0
    rw [m1_sub (a := 0), decide_eq_false (by omega)]
    simp (disch := omega) only [q_lit, le_T, le_F, lt_T, lt_F, eq_T, eq_F, m1_lt, m1_le, lt_m1, le_m1, eq_m1, m1_eq, nI_add, nI_sub, nI_dec, nI_mul, nI_or, nI_and, nI_div, nI_mod, and_255, and_31, and_1, and_63, nI_shl, nI_shr, bI_F, bI_1, vp_T, cl_T, true_implies, false_implies, not_true_eq_false, not_false_eq_true, true_and, and_true, false_and, and_false, Bool.false_eq_true, Bool.true_eq_false, reduceCtorEq, implies_true]
  · rw [nI_sub (by omega)]
    by_cases h1 : j < n
    · rw [decide_eq_true h1]; simp (disch := omega) only [q_lit, le_T, le_F, lt_T, lt_F, eq_T, eq_F, m1_lt, m1_le, lt_m1, le_m1, eq_m1, m1_eq, nI_add, nI_sub, nI_dec, nI_mul, nI_or, nI_and, nI_div, nI_mod, and_255, and_31, and_1, and_63, nI_shl, nI_shr, bI_F, bI_1, vp_T, cl_T, true_implies, false_implies, not_true_eq_false, not_false_eq_true, true_and, and_true, false_and, and_false, Bool.false_eq_true, Bool.true_eq_false, reduceCtorEq, implies_true]
    · rw [decide_eq_false h1]; simp (disch := omega) only [q_lit, le_T, le_F, lt_T, lt_F, eq_T, eq_F, m1_lt, m1_le, lt_m1, le_m1, eq_m1, m1_eq, nI_add, nI_sub, nI_dec, nI_mul, nI_or, nI_and, nI_div, nI_mod, and_255, and_31, and_1, and_63, nI_shl, nI_shr, bI_F, bI_1, vp_T, cl_T, true_implies, false_implies, not_true_eq_false, not_false_eq_true, true_and, and_true, false_and, and_false, Bool.false_eq_true, Bool.true_eq_false, reduceCtorEq, implies_true]
theorem in_m1 {n : Nat} (hn : n < 2147483648) : D_Model_in (-nI 1) (-nI 1) (nI n - nI 1) true := by
  unfold D_Model_in
  rw [m1_irr]
  by_cases h0 : n = 0
  · subst h0
    rw [m1_sub (a := 0), m1_irr]; simp
  · rw [nI_sub (by omega)]
    simp (disch := omega) only [q_lit, le_T, le_F, lt_T, lt_F, eq_T, eq_F, m1_lt, m1_le, lt_m1, le_m1, eq_m1, m1_eq, nI_add, nI_sub, nI_dec, nI_mul, nI_or, nI_and, nI_div, nI_mod, and_255, and_31, and_1, and_63, nI_shl, nI_shr, bI_F, bI_1, vp_T, cl_T, true_implies, false_implies, not_true_eq_false, not_false_eq_true, true_and, and_true, false_and, and_false, Bool.false_eq_true, Bool.true_eq_false, reduceCtorEq, implies_true]
theorem in_neg1 {a : Int32} (h : a < 0) (h1 : ¬ a = -nI 1) (m : Int32) : D_Model_in a (-nI 1) m false := by
  unfold D_Model_in
  rw [neg_m1 h h1]; simp
theorem rf00 (th : Int32) : D_Model_refuse false false th false (nI 0) := mo_refuse false false th
theorem rf10 (th : Int32) : D_Model_refuse true false th true (nI 1) := mo_refuse true false th
theorem rf01 (th : Int32) : D_Model_refuse false true th true (nI 2) := mo_refuse false true th
theorem rf11 (th : Int32) : D_Model_refuse true true th true (nI 1) := mo_refuse true true th
/-! end -/
theorem pr_end {L : List Nat} {E mE : Nat → Int32} {C mC : Int32} (h : Rw 700 E C L) (hm : Rw 700 mE mC L) (a : Int32) (O : Bool) (th : Int32) :
    (∃ n, n ≤ L.length ∧ D_HelpFile_end a C O (nI n) false ∧ D_Model_end a th mC (nI 0) (nI n)) ∨ (X_HelpFile_end a C "java/lang/IllegalArgumentException" ∧ D_Model_end a th mC (nI 1) mC) := by
  have hL := h.2.1
  rcases sgn_cases a with ha | ⟨j, hj, rfl⟩
  · refine Or.inr ⟨?_, ?_⟩
    · unfold X_HelpFile_end
      exact ⟨fun _ => rfl, fun h9 => absurd ha h9⟩
    · refine ⟨false, by simpa only [q_lit] using in_neg ha (n := 0) (by omega) mC, ?_⟩
      simp (disch := omega) only [q_lit, le_T, le_F, lt_T, lt_F, eq_T, eq_F, m1_lt, m1_le, lt_m1, le_m1, eq_m1, m1_eq, nI_add, nI_sub, nI_dec, nI_mul, nI_or, nI_and, nI_div, nI_mod, and_255, and_31, and_1, and_63, nI_shl, nI_shr, bI_F, bI_1, vp_T, cl_T, true_implies, false_implies, not_true_eq_false, not_false_eq_true, true_and, and_true, false_and, and_false, Bool.false_eq_true, Bool.true_eq_false, reduceCtorEq, implies_true]
      exact ⟨_, _, rf10 th, by simp (disch := omega) only [q_lit, le_T, le_F, lt_T, lt_F, eq_T, eq_F, m1_lt, m1_le, lt_m1, le_m1, eq_m1, m1_eq, nI_add, nI_sub, nI_dec, nI_mul, nI_or, nI_and, nI_div, nI_mod, and_255, and_31, and_1, and_63, nI_shl, nI_shr, bI_F, bI_1, vp_T, cl_T, true_implies, false_implies, not_true_eq_false, not_false_eq_true, true_and, and_true, false_and, and_false, Bool.false_eq_true, Bool.true_eq_false, reduceCtorEq, implies_true]⟩
  · have hin := mo_in (x := j) (a := 0) (b := L.length) hj (by omega) (by omega)
    by_cases h1 : j ≤ L.length
    · refine Or.inl ⟨j, h1, ?_, ?_⟩
      · rw [h.1]
        simp (disch := omega) only [D_HelpFile_end, q_lit, le_T, le_F, lt_T, lt_F, eq_T, eq_F, m1_lt, m1_le, lt_m1, le_m1, eq_m1, m1_eq, nI_add, nI_sub, nI_dec, nI_mul, nI_or, nI_and, nI_div, nI_mod, and_255, and_31, and_1, and_63, nI_shl, nI_shr, bI_F, bI_1, vp_T, cl_T, true_implies, false_implies, not_true_eq_false, not_false_eq_true, true_and, and_true, false_and, and_false, Bool.false_eq_true, Bool.true_eq_false, reduceCtorEq, implies_true]
        refine ⟨_, _, row_cut (k := j) ⟨h.1, h.2⟩ h1 O |> (h.1 ▸ ·), rfl, rfl⟩
      · rw [decide_eq_true h1, decide_eq_true (by omega), Bool.and_true] at hin
        refine ⟨true, by rw [hm.1]; simpa only [q_lit] using hin, ?_⟩
        simp (disch := omega) only [q_lit, le_T, le_F, lt_T, lt_F, eq_T, eq_F, m1_lt, m1_le, lt_m1, le_m1, eq_m1, m1_eq, nI_add, nI_sub, nI_dec, nI_mul, nI_or, nI_and, nI_div, nI_mod, and_255, and_31, and_1, and_63, nI_shl, nI_shr, bI_F, bI_1, vp_T, cl_T, true_implies, false_implies, not_true_eq_false, not_false_eq_true, true_and, and_true, false_and, and_false, Bool.false_eq_true, Bool.true_eq_false, reduceCtorEq, implies_true]
        exact ⟨_, _, rf00 th, by simp (disch := omega) only [q_lit, le_T, le_F, lt_T, lt_F, eq_T, eq_F, m1_lt, m1_le, lt_m1, le_m1, eq_m1, m1_eq, nI_add, nI_sub, nI_dec, nI_mul, nI_or, nI_and, nI_div, nI_mod, and_255, and_31, and_1, and_63, nI_shl, nI_shr, bI_F, bI_1, vp_T, cl_T, true_implies, false_implies, not_true_eq_false, not_false_eq_true, true_and, and_true, false_and, and_false, Bool.false_eq_true, Bool.true_eq_false, reduceCtorEq, implies_true]⟩
    · refine Or.inr ⟨?_, ?_⟩
      · rw [h.1]
        simp (disch := omega) only [X_HelpFile_end, q_lit, le_T, le_F, lt_T, lt_F, eq_T, eq_F, m1_lt, m1_le, lt_m1, le_m1, eq_m1, m1_eq, nI_add, nI_sub, nI_dec, nI_mul, nI_or, nI_and, nI_div, nI_mod, and_255, and_31, and_1, and_63, nI_shl, nI_shr, bI_F, bI_1, vp_T, cl_T, true_implies, false_implies, not_true_eq_false, not_false_eq_true, true_and, and_true, false_and, and_false, Bool.false_eq_true, Bool.true_eq_false, reduceCtorEq, implies_true]
      · rw [decide_eq_false h1, Bool.and_false] at hin
        refine ⟨false, by rw [hm.1]; simpa only [q_lit] using hin, ?_⟩
        simp (disch := omega) only [q_lit, le_T, le_F, lt_T, lt_F, eq_T, eq_F, m1_lt, m1_le, lt_m1, le_m1, eq_m1, m1_eq, nI_add, nI_sub, nI_dec, nI_mul, nI_or, nI_and, nI_div, nI_mod, and_255, and_31, and_1, and_63, nI_shl, nI_shr, bI_F, bI_1, vp_T, cl_T, true_implies, false_implies, not_true_eq_false, not_false_eq_true, true_and, and_true, false_and, and_false, Bool.false_eq_true, Bool.true_eq_false, reduceCtorEq, implies_true]
        exact ⟨_, _, rf10 th, by simp (disch := omega) only [q_lit, le_T, le_F, lt_T, lt_F, eq_T, eq_F, m1_lt, m1_le, lt_m1, le_m1, eq_m1, m1_eq, nI_add, nI_sub, nI_dec, nI_mul, nI_or, nI_and, nI_div, nI_mod, and_255, and_31, and_1, and_63, nI_shl, nI_shr, bI_F, bI_1, vp_T, cl_T, true_implies, false_implies, not_true_eq_false, not_false_eq_true, true_and, and_true, false_and, and_false, Bool.false_eq_true, Bool.true_eq_false, reduceCtorEq, implies_true]⟩
/-! at -/
theorem row_hasN {n : Nat} {E : Nat → Int32} {C : Int32} {L : List Nat} (h : Rw n E C L) {j : Nat} (hj : j < 2147483648) : D_Row_has (nI j) C (decide (j < L.length)) := by
  have h1 := h.2.1
  have h2 := h.2.2.1
  unfold D_Row_has
  rw [h.1]
  by_cases h3 : j < L.length
  · rw [decide_eq_true h3]; simp (disch := omega) only [q_lit, le_T, le_F, lt_T, lt_F, eq_T, eq_F, m1_lt, m1_le, lt_m1, le_m1, eq_m1, m1_eq, nI_add, nI_sub, nI_dec, nI_mul, nI_or, nI_and, nI_div, nI_mod, and_255, and_31, and_1, and_63, nI_shl, nI_shr, bI_F, bI_1, vp_T, cl_T, true_implies, false_implies, not_true_eq_false, not_false_eq_true, true_and, and_true, false_and, and_false, Bool.false_eq_true, Bool.true_eq_false, reduceCtorEq, implies_true]
  · rw [decide_eq_false h3]; simp (disch := omega) only [q_lit, le_T, le_F, lt_T, lt_F, eq_T, eq_F, m1_lt, m1_le, lt_m1, le_m1, eq_m1, m1_eq, nI_add, nI_sub, nI_dec, nI_mul, nI_or, nI_and, nI_div, nI_mod, and_255, and_31, and_1, and_63, nI_shl, nI_shr, bI_F, bI_1, vp_T, cl_T, true_implies, false_implies, not_true_eq_false, not_false_eq_true, true_and, and_true, false_and, and_false, Bool.false_eq_true, Bool.true_eq_false, reduceCtorEq, implies_true]
theorem row_hasF {C : Int32} {a : Int32} (ha : a < 0) : D_Row_has a C false := by
  unfold D_Row_has
  exact ⟨fun _ => rfl, fun h9 => absurd ha h9⟩
theorem m1_lit : (-1 : Int32) = -nI 1 := rfl
theorem pr_at {J : List Nat} {E mE : Nat → Int32} {C mC : Int32} (h : Rw 3000 E C J) (hm : Rw 8000 mE mC J) (a th : Int32) :
    (∃ r, D_HelpFile_at 3000 a E C r ∧ D_Model_at a th mC mE r (nI 0)) ∨ (X_HelpFile_at 3000 a E C "java/lang/IndexOutOfBoundsException" ∧ D_Model_at a th mC mE (nI 0) (nI 1)) := by
  have hL := h.2.1
  have hC := h.1
  have hmC := hm.1
  rcases sgn_cases a with ha | ⟨j, hj, rfl⟩
  · by_cases h1 : a = -nI 1
    · subst h1
      refine Or.inl ⟨C, ?_, ?_⟩
      · unfold D_HelpFile_at
        exact ⟨fun _ => rfl, fun h9 => absurd rfl h9⟩
      · refine ⟨1, true, by rw [hmC]; simpa only [q_lit] using in_m1 (n := J.length) (by omega), ?_⟩
        simp (disch := omega) only [q_lit, le_T, le_F, lt_T, lt_F, eq_T, eq_F, m1_lt, m1_le, lt_m1, le_m1, eq_m1, m1_eq, nI_add, nI_sub, nI_dec, nI_mul, nI_or, nI_and, nI_div, nI_mod, and_255, and_31, and_1, and_63, nI_shl, nI_shr, bI_F, bI_1, vp_T, cl_T, true_implies, false_implies, not_true_eq_false, not_false_eq_true, true_and, and_true, false_and, and_false, Bool.false_eq_true, Bool.true_eq_false, reduceCtorEq, implies_true]
        refine ⟨_, _, rf00 th, ?_⟩
        simp (disch := omega) only [T_Model_at, S_Model_at, B_Model_at_29, q_lit, le_T, le_F, lt_T, lt_F, eq_T, eq_F, m1_lt, m1_le, lt_m1, le_m1, eq_m1, m1_eq, nI_add, nI_sub, nI_dec, nI_mul, nI_or, nI_and, nI_div, nI_mod, and_255, and_31, and_1, and_63, nI_shl, nI_shr, bI_F, bI_1, vp_T, cl_T, true_implies, false_implies, not_true_eq_false, not_false_eq_true, true_and, and_true, false_and, and_false, Bool.false_eq_true, Bool.true_eq_false, reduceCtorEq, implies_true, q_lc_eq, q_lc_ge, q_lc_gt, q_lc_le, lN_or, lN_and, lN_shl, lN_shr, nI_L, lN_I, l_0]
        rw [hC, hmC]
    · refine Or.inr ⟨?_, ?_⟩
      · unfold X_HelpFile_at
        refine ⟨fun h9 => absurd h9 h1, fun _ => ⟨false, row_hasF ha, fun _ => rfl, fun h9 => absurd rfl h9⟩⟩
      · refine ⟨0, false, in_neg1 ha h1 _, ?_⟩
        simp (disch := omega) only [q_lit, le_T, le_F, lt_T, lt_F, eq_T, eq_F, m1_lt, m1_le, lt_m1, le_m1, eq_m1, m1_eq, nI_add, nI_sub, nI_dec, nI_mul, nI_or, nI_and, nI_div, nI_mod, and_255, and_31, and_1, and_63, nI_shl, nI_shr, bI_F, bI_1, vp_T, cl_T, true_implies, false_implies, not_true_eq_false, not_false_eq_true, true_and, and_true, false_and, and_false, Bool.false_eq_true, Bool.true_eq_false, reduceCtorEq, implies_true]
        exact ⟨_, _, rf10 th, by simp (disch := omega) only [q_lit, le_T, le_F, lt_T, lt_F, eq_T, eq_F, m1_lt, m1_le, lt_m1, le_m1, eq_m1, m1_eq, nI_add, nI_sub, nI_dec, nI_mul, nI_or, nI_and, nI_div, nI_mod, and_255, and_31, and_1, and_63, nI_shl, nI_shr, bI_F, bI_1, vp_T, cl_T, true_implies, false_implies, not_true_eq_false, not_false_eq_true, true_and, and_true, false_and, and_false, Bool.false_eq_true, Bool.true_eq_false, reduceCtorEq, implies_true]⟩
  · have hin := in_pre1 (j := j) (n := J.length) hj (by omega)
    have hh := row_hasN h hj
    have hne : ¬ nI j = (-1 : Int32) := of_eq_false (eq_m1 hj)
    by_cases h1 : j < J.length
    · have e1 := hm.2.2.2 j h1
      have hel := row_el h (k := j) (by omega)
      rw [decide_eq_true h1] at hin hh
      refine Or.inl ⟨nI (J.getD j 0), ?_, ?_⟩
      · unfold D_HelpFile_at
        refine ⟨fun h9 => absurd h9 hne, fun _ => ⟨true, hh, fun h9 => by simp [bI] at h9, fun _ => ⟨_, hel, rfl⟩⟩⟩
      · refine ⟨1, true, by rw [hmC]; simpa only [q_lit] using hin, ?_⟩
        simp (disch := omega) only [q_lit, le_T, le_F, lt_T, lt_F, eq_T, eq_F, m1_lt, m1_le, lt_m1, le_m1, eq_m1, m1_eq, nI_add, nI_sub, nI_dec, nI_mul, nI_or, nI_and, nI_div, nI_mod, and_255, and_31, and_1, and_63, nI_shl, nI_shr, bI_F, bI_1, vp_T, cl_T, true_implies, false_implies, not_true_eq_false, not_false_eq_true, true_and, and_true, false_and, and_false, Bool.false_eq_true, Bool.true_eq_false, reduceCtorEq, implies_true]
        refine ⟨_, _, rf00 th, ?_⟩
        simp (disch := omega) only [T_Model_at, S_Model_at, B_Model_at_29, e1, q_lit, le_T, le_F, lt_T, lt_F, eq_T, eq_F, m1_lt, m1_le, lt_m1, le_m1, eq_m1, m1_eq, nI_add, nI_sub, nI_dec, nI_mul, nI_or, nI_and, nI_div, nI_mod, and_255, and_31, and_1, and_63, nI_shl, nI_shr, bI_F, bI_1, vp_T, cl_T, true_implies, false_implies, not_true_eq_false, not_false_eq_true, true_and, and_true, false_and, and_false, Bool.false_eq_true, Bool.true_eq_false, reduceCtorEq, implies_true, q_lc_eq, q_lc_ge, q_lc_gt, q_lc_le, lN_or, lN_and, lN_shl, lN_shr, nI_L, lN_I, l_0]
    · rw [decide_eq_false h1] at hin hh
      refine Or.inr ⟨?_, ?_⟩
      · unfold X_HelpFile_at
        refine ⟨fun h9 => absurd h9 hne, fun _ => ⟨false, hh, fun _ => rfl, fun h9 => absurd rfl h9⟩⟩
      · refine ⟨0, false, by rw [hmC]; simpa only [q_lit] using hin, ?_⟩
        simp (disch := omega) only [q_lit, le_T, le_F, lt_T, lt_F, eq_T, eq_F, m1_lt, m1_le, lt_m1, le_m1, eq_m1, m1_eq, nI_add, nI_sub, nI_dec, nI_mul, nI_or, nI_and, nI_div, nI_mod, and_255, and_31, and_1, and_63, nI_shl, nI_shr, bI_F, bI_1, vp_T, cl_T, true_implies, false_implies, not_true_eq_false, not_false_eq_true, true_and, and_true, false_and, and_false, Bool.false_eq_true, Bool.true_eq_false, reduceCtorEq, implies_true]
        exact ⟨_, _, rf10 th, by simp (disch := omega) only [q_lit, le_T, le_F, lt_T, lt_F, eq_T, eq_F, m1_lt, m1_le, lt_m1, le_m1, eq_m1, m1_eq, nI_add, nI_sub, nI_dec, nI_mul, nI_or, nI_and, nI_div, nI_mod, and_255, and_31, and_1, and_63, nI_shl, nI_shr, bI_F, bI_1, vp_T, cl_T, true_implies, false_implies, not_true_eq_false, not_false_eq_true, true_and, and_true, false_and, and_false, Bool.false_eq_true, Bool.true_eq_false, reduceCtorEq, implies_true]⟩
/-! spoil -/
theorem and_byt (b : Int32) : ∃ x, x < 256 ∧ (b &&& nI 255) = nI x := by
  have := mbyt b (k := 0) (by omega)
  rw [show (b >>> (nI (8 * 0) &&& nI 31) : Int32) = b by
    rw [show (nI (8 * 0) &&& nI 31 : Int32) = 0 by decide +kernel]; exact Int32.shiftRight_zero] at this
  exact ⟨byt b 0, byt_lt b 0, this⟩
theorem by_set {J : List Nat} (h : q_By J) (j : Nat) {x : Nat} (hx : x < 256) : q_By (J.set j x) := fun y hy => by
  rcases List.mem_or_eq_of_mem_set hy with h1 | h1
  · exact h y h1
  · rw [h1]; exact hx
theorem pr_spoil {J : List Nat} {E mE : Nat → Int32} {C mC : Int32} (h : Rw 3000 E C J) (hm : Rw 8000 mE mC J) (hy : q_By J) (a b th : Int32) :
    (∃ r E' mE' J', D_HelpFile_spoil 3000 a b E C r E' ∧ D_Model_spoil a b th mC mE r (nI 0) mE' ∧ Rw 3000 E' C J' ∧ Rw 8000 mE' mC J' ∧ q_By J') ∨ (X_HelpFile_spoil 3000 a b E C "java/lang/IndexOutOfBoundsException" ∧ D_Model_spoil a b th mC mE (nI 0) (nI 1) mE) := by
  have hL := h.2.1
  have hmC := hm.1
  rcases sgn_cases a with ha | ⟨j, hj, rfl⟩
  · refine Or.inr ⟨⟨false, row_hasF ha, fun _ => rfl, fun h9 => absurd rfl h9⟩, ?_⟩
    refine ⟨0, false, by simpa only [q_lit] using in_neg ha (n := 0) (by omega) _, ?_⟩
    simp (disch := omega) only [q_lit, le_T, le_F, lt_T, lt_F, eq_T, eq_F, m1_lt, m1_le, lt_m1, le_m1, eq_m1, m1_eq, nI_add, nI_sub, nI_dec, nI_mul, nI_or, nI_and, nI_div, nI_mod, and_255, and_31, and_1, and_63, nI_shl, nI_shr, bI_F, bI_1, vp_T, cl_T, true_implies, false_implies, not_true_eq_false, not_false_eq_true, true_and, and_true, false_and, and_false, Bool.false_eq_true, Bool.true_eq_false, reduceCtorEq, implies_true]
    exact ⟨_, _, rf10 th, by simp (disch := omega) only [q_lit, le_T, le_F, lt_T, lt_F, eq_T, eq_F, m1_lt, m1_le, lt_m1, le_m1, eq_m1, m1_eq, nI_add, nI_sub, nI_dec, nI_mul, nI_or, nI_and, nI_div, nI_mod, and_255, and_31, and_1, and_63, nI_shl, nI_shr, bI_F, bI_1, vp_T, cl_T, true_implies, false_implies, not_true_eq_false, not_false_eq_true, true_and, and_true, false_and, and_false, Bool.false_eq_true, Bool.true_eq_false, reduceCtorEq, implies_true]⟩
  · have hin := in_pre (j := j) (n := J.length) hj (by omega)
    have hh := row_hasN h hj
    by_cases h1 : j < J.length
    · have e1 := hm.2.2.2 j h1
      have hel := row_el h (k := j) (by omega)
      obtain ⟨x, hx, ex⟩ := and_byt b
      rw [decide_eq_true h1] at hin hh
      refine Or.inl ⟨nI (J.getD j 0), upd E j (nI x), upd mE j (nI x), J.set j x, ?_, ?_, rw_set h h1 x, rw_set hm h1 x, by_set hy j hx⟩
      · refine ⟨true, hh, fun h9 => by simp [bI] at h9, fun _ => ⟨_, hel, upd E j (nI x), ⟨true, hh, fun h9 => by simp [bI] at h9, fun _ => ?_⟩, rfl, rfl⟩⟩
        simp only [q_lit, ex]
        simp (disch := omega) only [q_lit, le_T, le_F, lt_T, lt_F, eq_T, eq_F, m1_lt, m1_le, lt_m1, le_m1, eq_m1, m1_eq, nI_add, nI_sub, nI_dec, nI_mul, nI_or, nI_and, nI_div, nI_mod, and_255, and_31, and_1, and_63, nI_shl, nI_shr, bI_F, bI_1, vp_T, cl_T, true_implies, false_implies, not_true_eq_false, not_false_eq_true, true_and, and_true, false_and, and_false, Bool.false_eq_true, Bool.true_eq_false, reduceCtorEq, implies_true]
      · refine ⟨1, true, by rw [hmC]; simpa only [q_lit] using hin, ?_⟩
        simp (disch := omega) only [q_lit, le_T, le_F, lt_T, lt_F, eq_T, eq_F, m1_lt, m1_le, lt_m1, le_m1, eq_m1, m1_eq, nI_add, nI_sub, nI_dec, nI_mul, nI_or, nI_and, nI_div, nI_mod, and_255, and_31, and_1, and_63, nI_shl, nI_shr, bI_F, bI_1, vp_T, cl_T, true_implies, false_implies, not_true_eq_false, not_false_eq_true, true_and, and_true, false_and, and_false, Bool.false_eq_true, Bool.true_eq_false, reduceCtorEq, implies_true]
        refine ⟨_, _, rf00 th, ?_⟩
        simp (disch := omega) only [q_lit, le_T, le_F, lt_T, lt_F, eq_T, eq_F, m1_lt, m1_le, lt_m1, le_m1, eq_m1, m1_eq, nI_add, nI_sub, nI_dec, nI_mul, nI_or, nI_and, nI_div, nI_mod, and_255, and_31, and_1, and_63, nI_shl, nI_shr, bI_F, bI_1, vp_T, cl_T, true_implies, false_implies, not_true_eq_false, not_false_eq_true, true_and, and_true, false_and, and_false, Bool.false_eq_true, Bool.true_eq_false, reduceCtorEq, implies_true]
        rw [T_Model_spoil]
        simp only [S_Model_spoil, B_Model_spoil_29, q_lit, ex]
        simp (disch := omega) only [e1, q_lit, le_T, le_F, lt_T, lt_F, eq_T, eq_F, m1_lt, m1_le, lt_m1, le_m1, eq_m1, m1_eq, nI_add, nI_sub, nI_dec, nI_mul, nI_or, nI_and, nI_div, nI_mod, and_255, and_31, and_1, and_63, nI_shl, nI_shr, bI_F, bI_1, vp_T, cl_T, true_implies, false_implies, not_true_eq_false, not_false_eq_true, true_and, and_true, false_and, and_false, Bool.false_eq_true, Bool.true_eq_false, reduceCtorEq, implies_true]
    · rw [decide_eq_false h1] at hin hh
      refine Or.inr ⟨⟨false, hh, fun _ => rfl, fun h9 => absurd rfl h9⟩, ?_⟩
      refine ⟨0, false, by rw [hmC]; simpa only [q_lit] using hin, ?_⟩
      simp (disch := omega) only [q_lit, le_T, le_F, lt_T, lt_F, eq_T, eq_F, m1_lt, m1_le, lt_m1, le_m1, eq_m1, m1_eq, nI_add, nI_sub, nI_dec, nI_mul, nI_or, nI_and, nI_div, nI_mod, and_255, and_31, and_1, and_63, nI_shl, nI_shr, bI_F, bI_1, vp_T, cl_T, true_implies, false_implies, not_true_eq_false, not_false_eq_true, true_and, and_true, false_and, and_false, Bool.false_eq_true, Bool.true_eq_false, reduceCtorEq, implies_true]
      exact ⟨_, _, rf10 th, by simp (disch := omega) only [q_lit, le_T, le_F, lt_T, lt_F, eq_T, eq_F, m1_lt, m1_le, lt_m1, le_m1, eq_m1, m1_eq, nI_add, nI_sub, nI_dec, nI_mul, nI_or, nI_and, nI_div, nI_mod, and_255, and_31, and_1, and_63, nI_shl, nI_shr, bI_F, bI_1, vp_T, cl_T, true_implies, false_implies, not_true_eq_false, not_false_eq_true, true_and, and_true, false_and, and_false, Bool.false_eq_true, Bool.true_eq_false, reduceCtorEq, implies_true]⟩
/-! type -/
theorem typ_neg {a : Int32} (ha : a < 0) : D_HelpFile_isTyped a false := by
  unfold D_HelpFile_isTyped
  refine ⟨fun _ => rfl, fun h9 => absurd ?_ h9⟩
  have := of_eq_true (neg_lt ha 32 (by omega)); simpa only [q_lit] using this
theorem pr_type {Q : List Nat} {E mE : Nat → Int32} {C mC : Int32} (h : Rw 40 E C Q) (hm : Rw 40 mE mC Q) (hq : ∀ x ∈ Q, 32 ≤ x ∧ x ≤ 126) (a : Int32) (O : Bool) (th : Int32) :
    (∃ r E' C' mE' mC' Q', D_HelpFile_type 40 a E C O r E' C' O ∧ D_Model_type a th mC mE r (nI 0) mC' mE' ∧ Rw 40 E' C' Q' ∧ Rw 40 mE' mC' Q' ∧ ∀ x ∈ Q', 32 ≤ x ∧ x ≤ 126) ∨ (X_HelpFile_type a C "java/lang/IllegalArgumentException" ∧ D_Model_type a th mC mE (nI 0) (nI 1) mC mE) ∨ (X_HelpFile_type a C "java/lang/UnsupportedOperationException" ∧ D_Model_type a th mC mE (nI 0) (nI 2) mC mE) := by
  have hL := h.2.1
  have hC := h.1
  have hmC := hm.1
  -- no sign of a query
  have bad : D_HelpFile_isTyped a false → D_Model_in a (nI 32) (nI 126) false → (X_HelpFile_type a C "java/lang/IllegalArgumentException" ∧ D_Model_type a th mC mE (nI 0) (nI 1) mC mE) := by
    intro h1 h2
    refine ⟨⟨false, h1, fun _ => rfl, fun h9 => absurd rfl h9⟩, 0, false, by simpa only [q_lit] using h2, ?_⟩
    rw [hmC]
    by_cases h3 : Q.length = 40
    · simp (disch := omega) only [q_lit, le_T, le_F, lt_T, lt_F, eq_T, eq_F, m1_lt, m1_le, lt_m1, le_m1, eq_m1, m1_eq, nI_add, nI_sub, nI_dec, nI_mul, nI_or, nI_and, nI_div, nI_mod, and_255, and_31, and_1, and_63, nI_shl, nI_shr, bI_F, bI_1, vp_T, cl_T, true_implies, false_implies, not_true_eq_false, not_false_eq_true, true_and, and_true, false_and, and_false, Bool.false_eq_true, Bool.true_eq_false, reduceCtorEq, implies_true]
      exact ⟨_, _, rf11 th, by simp (disch := omega) only [q_lit, le_T, le_F, lt_T, lt_F, eq_T, eq_F, m1_lt, m1_le, lt_m1, le_m1, eq_m1, m1_eq, nI_add, nI_sub, nI_dec, nI_mul, nI_or, nI_and, nI_div, nI_mod, and_255, and_31, and_1, and_63, nI_shl, nI_shr, bI_F, bI_1, vp_T, cl_T, true_implies, false_implies, not_true_eq_false, not_false_eq_true, true_and, and_true, false_and, and_false, Bool.false_eq_true, Bool.true_eq_false, reduceCtorEq, implies_true]⟩
    · simp (disch := omega) only [q_lit, le_T, le_F, lt_T, lt_F, eq_T, eq_F, m1_lt, m1_le, lt_m1, le_m1, eq_m1, m1_eq, nI_add, nI_sub, nI_dec, nI_mul, nI_or, nI_and, nI_div, nI_mod, and_255, and_31, and_1, and_63, nI_shl, nI_shr, bI_F, bI_1, vp_T, cl_T, true_implies, false_implies, not_true_eq_false, not_false_eq_true, true_and, and_true, false_and, and_false, Bool.false_eq_true, Bool.true_eq_false, reduceCtorEq, implies_true]
      exact ⟨_, _, rf10 th, by simp (disch := omega) only [q_lit, le_T, le_F, lt_T, lt_F, eq_T, eq_F, m1_lt, m1_le, lt_m1, le_m1, eq_m1, m1_eq, nI_add, nI_sub, nI_dec, nI_mul, nI_or, nI_and, nI_div, nI_mod, and_255, and_31, and_1, and_63, nI_shl, nI_shr, bI_F, bI_1, vp_T, cl_T, true_implies, false_implies, not_true_eq_false, not_false_eq_true, true_and, and_true, false_and, and_false, Bool.false_eq_true, Bool.true_eq_false, reduceCtorEq, implies_true]⟩
  rcases sgn_cases a with ha | ⟨j, hj, rfl⟩
  · exact Or.inr (Or.inl (bad (typ_neg ha) (in_neg ha (by omega) _)))
  · have ht := hf_typed (x := j) hj
    have hin := mo_in (x := j) (a := 32) (b := 126) hj (by omega) (by omega)
    by_cases h1 : 32 ≤ j ∧ j ≤ 126
    · rw [decide_eq_true h1] at ht
      rw [decide_eq_true h1.1, decide_eq_true h1.2, Bool.true_and] at hin
      by_cases h2 : Q.length < 40
      · refine Or.inl ⟨nI (Q.length + 1), upd E Q.length (nI j), nI (Q.length + 1), upd mE Q.length (nI j), nI (Q.length + 1), Q ++ [j], ?_, ?_, rw_app h h2 j, rw_app hm h2 j, ?_⟩
        · refine ⟨true, ht, fun h9 => by simp [bI] at h9, fun _ => ?_⟩
          have ha := row_app h h2 j O
          rw [hC] at ha ⊢
          simp (disch := omega) only [q_lit, le_T, le_F, lt_T, lt_F, eq_T, eq_F, m1_lt, m1_le, lt_m1, le_m1, eq_m1, m1_eq, nI_add, nI_sub, nI_dec, nI_mul, nI_or, nI_and, nI_div, nI_mod, and_255, and_31, and_1, and_63, nI_shl, nI_shr, bI_F, bI_1, vp_T, cl_T, true_implies, false_implies, not_true_eq_false, not_false_eq_true, true_and, and_true, false_and, and_false, Bool.false_eq_true, Bool.true_eq_false, reduceCtorEq, implies_true]
          exact ⟨_, _, _, ha, rfl, rfl, rfl, rfl⟩
        · refine ⟨1, true, by simpa only [q_lit] using hin, ?_⟩
          rw [hmC]
          simp (disch := omega) only [q_lit, le_T, le_F, lt_T, lt_F, eq_T, eq_F, m1_lt, m1_le, lt_m1, le_m1, eq_m1, m1_eq, nI_add, nI_sub, nI_dec, nI_mul, nI_or, nI_and, nI_div, nI_mod, and_255, and_31, and_1, and_63, nI_shl, nI_shr, bI_F, bI_1, vp_T, cl_T, true_implies, false_implies, not_true_eq_false, not_false_eq_true, true_and, and_true, false_and, and_false, Bool.false_eq_true, Bool.true_eq_false, reduceCtorEq, implies_true]
          refine ⟨_, _, rf00 th, ?_⟩
          simp (disch := omega) only [T_Model_type, S_Model_type, B_Model_type_39, q_lit, le_T, le_F, lt_T, lt_F, eq_T, eq_F, m1_lt, m1_le, lt_m1, le_m1, eq_m1, m1_eq, nI_add, nI_sub, nI_dec, nI_mul, nI_or, nI_and, nI_div, nI_mod, and_255, and_31, and_1, and_63, nI_shl, nI_shr, bI_F, bI_1, vp_T, cl_T, true_implies, false_implies, not_true_eq_false, not_false_eq_true, true_and, and_true, false_and, and_false, Bool.false_eq_true, Bool.true_eq_false, reduceCtorEq, implies_true, q_lc_eq, q_lc_ge, q_lc_gt, q_lc_le, lN_or, lN_and, lN_shl, lN_shr, nI_L, lN_I, l_0]
        · intro x hx
          simp only [List.mem_append, List.mem_singleton] at hx
          rcases hx with hx | hx
          · exact hq x hx
          · rw [hx]; exact h1
      · refine Or.inr (Or.inr ⟨⟨true, ht, fun h9 => by simp [bI] at h9, fun _ => ?_⟩, 0, true, by simpa only [q_lit] using hin, ?_⟩)
        · rw [hC]
          simp (disch := omega) only [q_lit, le_T, le_F, lt_T, lt_F, eq_T, eq_F, m1_lt, m1_le, lt_m1, le_m1, eq_m1, m1_eq, nI_add, nI_sub, nI_dec, nI_mul, nI_or, nI_and, nI_div, nI_mod, and_255, and_31, and_1, and_63, nI_shl, nI_shr, bI_F, bI_1, vp_T, cl_T, true_implies, false_implies, not_true_eq_false, not_false_eq_true, true_and, and_true, false_and, and_false, Bool.false_eq_true, Bool.true_eq_false, reduceCtorEq, implies_true]
        · rw [hmC]
          simp (disch := omega) only [q_lit, le_T, le_F, lt_T, lt_F, eq_T, eq_F, m1_lt, m1_le, lt_m1, le_m1, eq_m1, m1_eq, nI_add, nI_sub, nI_dec, nI_mul, nI_or, nI_and, nI_div, nI_mod, and_255, and_31, and_1, and_63, nI_shl, nI_shr, bI_F, bI_1, vp_T, cl_T, true_implies, false_implies, not_true_eq_false, not_false_eq_true, true_and, and_true, false_and, and_false, Bool.false_eq_true, Bool.true_eq_false, reduceCtorEq, implies_true]
          exact ⟨_, _, rf01 th, by simp (disch := omega) only [q_lit, le_T, le_F, lt_T, lt_F, eq_T, eq_F, m1_lt, m1_le, lt_m1, le_m1, eq_m1, m1_eq, nI_add, nI_sub, nI_dec, nI_mul, nI_or, nI_and, nI_div, nI_mod, and_255, and_31, and_1, and_63, nI_shl, nI_shr, bI_F, bI_1, vp_T, cl_T, true_implies, false_implies, not_true_eq_false, not_false_eq_true, true_and, and_true, false_and, and_false, Bool.false_eq_true, Bool.true_eq_false, reduceCtorEq, implies_true]⟩
    · rw [decide_eq_false h1] at ht
      have hf : (decide (32 ≤ j) && decide (j ≤ 126)) = false := by
        simp only [Bool.and_eq_false_iff, decide_eq_false_iff_not]; omega
      rw [hf] at hin
      exact Or.inr (Or.inl (bad ht hin))
