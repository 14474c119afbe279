/-! Pure: the reference reads a source: its small steps. -/
theorem m_lnE {L : List Nat} {sE : Nat → Int32} {sC : Int32} (hs : Rw 700 sE sC L) (hv : ∀ i, L.getD i 0 < 2147483648) (k : Nat) (hk : k ≤ L.length) : ∃ m, T_Model_lineEnd sE sC (nI (lnE L k)) m (nI k) := by
  have hL7 := hs.2.1
  have hC := hs.1
  rw [lnE]
  by_cases h : k < L.length
  · have hel := hs.2.2.2 k h
    have hvk := hv k
    by_cases h2 : L.getD k 0 = 10
    · rw [if_neg (fun h9 => h9.2 h2)]
      refine ⟨1, ?_⟩
      rw [hC]
      simp (disch := omega) only [T_Model_lineEnd, S_Model_lineEnd, B_Model_lineEnd_2, hel, h2, q_lit, le_T, le_F, lt_T, lt_F, eq_T, eq_F, m1_lt, m1_le, lt_m1, le_m1, eq_m1, m1_eq, nI_add, nI_sub, nI_dec, nI_mul, nI_or, nI_and, nI_div, nI_mod, and_255, and_31, and_1, and_63, nI_shl, nI_shr, bI_F, bI_1, vp_T, cl_T, true_implies, false_implies, not_true_eq_false, not_false_eq_true, true_and, and_true, false_and, and_false, Bool.false_eq_true, Bool.true_eq_false, reduceCtorEq, implies_true, q_lc_eq, q_lc_ge, q_lc_gt, q_lc_le, lN_or, lN_and, lN_shl, lN_shr, nI_L, lN_I, l_0]
    · rw [if_pos ⟨h, h2⟩]
      obtain ⟨m, hm⟩ := m_lnE hs hv (k + 1) h
      refine ⟨m + 1, ?_⟩
      rw [hC] at hm ⊢
      simp (disch := omega) only [T_Model_lineEnd, S_Model_lineEnd, B_Model_lineEnd_2, hel, q_lit, le_T, le_F, lt_T, lt_F, eq_T, eq_F, m1_lt, m1_le, lt_m1, le_m1, eq_m1, m1_eq, nI_add, nI_sub, nI_dec, nI_mul, nI_or, nI_and, nI_div, nI_mod, and_255, and_31, and_1, and_63, nI_shl, nI_shr, bI_F, bI_1, vp_T, cl_T, true_implies, false_implies, not_true_eq_false, not_false_eq_true, true_and, and_true, false_and, and_false, Bool.false_eq_true, Bool.true_eq_false, reduceCtorEq, implies_true, q_lc_eq, q_lc_ge, q_lc_gt, q_lc_le, lN_or, lN_and, lN_shl, lN_shr, nI_L, lN_I, l_0]
      exact hm
  · rw [if_neg (fun h9 => h h9.1)]
    refine ⟨1, ?_⟩
    rw [hC]
    simp (disch := omega) only [T_Model_lineEnd, S_Model_lineEnd, B_Model_lineEnd_2, q_lit, le_T, le_F, lt_T, lt_F, eq_T, eq_F, m1_lt, m1_le, lt_m1, le_m1, eq_m1, m1_eq, nI_add, nI_sub, nI_dec, nI_mul, nI_or, nI_and, nI_div, nI_mod, and_255, and_31, and_1, and_63, nI_shl, nI_shr, bI_F, bI_1, vp_T, cl_T, true_implies, false_implies, not_true_eq_false, not_false_eq_true, true_and, and_true, false_and, and_false, Bool.false_eq_true, Bool.true_eq_false, reduceCtorEq, implies_true, q_lc_eq, q_lc_ge, q_lc_gt, q_lc_le, lN_or, lN_and, lN_shl, lN_shr, nI_L, lN_I, l_0]
termination_by L.length - k
decreasing_by all_goals omega
theorem m_blank {L : List Nat} {sE : Nat → Int32} {sC : Int32} (hs : Rw 700 sE sC L) (hv : ∀ i, L.getD i 0 < 2147483648) {f : Nat} (hf : f ≤ L.length) (b : Bool) (k : Nat) (hk : k ≤ f) : ∃ m, T_Model_isBlank sE (b && blkS L k f) m 0 (nI f) b (nI k) := by
  have hL7 := hs.2.1
  by_cases h : k < f
  · have hel := hs.2.2.2 k (by omega)
    have hvk := hv k
    cases b with
    | false =>
      obtain ⟨m, hm⟩ := m_blank hs hv hf false (k + 1) h
      refine ⟨m + 2, ?_⟩
      rw [Bool.false_and] at hm ⊢
      simp (disch := omega) only [T_Model_isBlank, S_Model_isBlank, B_Model_isBlank_5, B_Model_isBlank_31, q_lit, le_T, le_F, lt_T, lt_F, eq_T, eq_F, m1_lt, m1_le, lt_m1, le_m1, eq_m1, m1_eq, nI_add, nI_sub, nI_dec, nI_mul, nI_or, nI_and, nI_div, nI_mod, and_255, and_31, and_1, and_63, nI_shl, nI_shr, bI_F, bI_1, vp_T, cl_T, true_implies, false_implies, not_true_eq_false, not_false_eq_true, true_and, and_true, false_and, and_false, Bool.false_eq_true, Bool.true_eq_false, reduceCtorEq, implies_true, q_lc_eq, q_lc_ge, q_lc_gt, q_lc_le, lN_or, lN_and, lN_shl, lN_shr, nI_L, lN_I, l_0]
      exact hm
    | true =>
      rw [blk_step h]
      by_cases h2 : L.getD k 0 = 32
      · obtain ⟨m, hm⟩ := m_blank hs hv hf true (k + 1) h
        refine ⟨m + 1, ?_⟩
        rw [decide_eq_true h2, Bool.true_and]
        simp (disch := omega) only [T_Model_isBlank, S_Model_isBlank, B_Model_isBlank_5, B_Model_isBlank_31, hel, h2, q_lit, le_T, le_F, lt_T, lt_F, eq_T, eq_F, m1_lt, m1_le, lt_m1, le_m1, eq_m1, m1_eq, nI_add, nI_sub, nI_dec, nI_mul, nI_or, nI_and, nI_div, nI_mod, and_255, and_31, and_1, and_63, nI_shl, nI_shr, bI_F, bI_1, vp_T, cl_T, true_implies, false_implies, not_true_eq_false, not_false_eq_true, true_and, and_true, false_and, and_false, Bool.false_eq_true, Bool.true_eq_false, reduceCtorEq, implies_true, q_lc_eq, q_lc_ge, q_lc_gt, q_lc_le, lN_or, lN_and, lN_shl, lN_shr, nI_L, lN_I, l_0]
        exact hm
      · obtain ⟨m, hm⟩ := m_blank hs hv hf false (k + 1) h
        refine ⟨m + 2, ?_⟩
        rw [decide_eq_false h2, Bool.false_and, Bool.and_false]
        rw [Bool.false_and] at hm
        simp (disch := omega) only [T_Model_isBlank, S_Model_isBlank, B_Model_isBlank_5, B_Model_isBlank_31, hel, q_lit, le_T, le_F, lt_T, lt_F, eq_T, eq_F, m1_lt, m1_le, lt_m1, le_m1, eq_m1, m1_eq, nI_add, nI_sub, nI_dec, nI_mul, nI_or, nI_and, nI_div, nI_mod, and_255, and_31, and_1, and_63, nI_shl, nI_shr, bI_F, bI_1, vp_T, cl_T, true_implies, false_implies, not_true_eq_false, not_false_eq_true, true_and, and_true, false_and, and_false, Bool.false_eq_true, Bool.true_eq_false, reduceCtorEq, implies_true, q_lc_eq, q_lc_ge, q_lc_gt, q_lc_le, lN_or, lN_and, lN_shl, lN_shr, nI_L, lN_I, l_0]
        exact hm
  · refine ⟨1, ?_⟩
    rw [blk_stop (by omega), Bool.and_true]
    simp (disch := omega) only [T_Model_isBlank, S_Model_isBlank, B_Model_isBlank_5, q_lit, le_T, le_F, lt_T, lt_F, eq_T, eq_F, m1_lt, m1_le, lt_m1, le_m1, eq_m1, m1_eq, nI_add, nI_sub, nI_dec, nI_mul, nI_or, nI_and, nI_div, nI_mod, and_255, and_31, and_1, and_63, nI_shl, nI_shr, bI_F, bI_1, vp_T, cl_T, true_implies, false_implies, not_true_eq_false, not_false_eq_true, true_and, and_true, false_and, and_false, Bool.false_eq_true, Bool.true_eq_false, reduceCtorEq, implies_true, q_lc_eq, q_lc_ge, q_lc_gt, q_lc_le, lN_or, lN_and, lN_shl, lN_shr, nI_L, lN_I, l_0]
termination_by f - k
decreasing_by all_goals omega
theorem mo_blank {L : List Nat} {sE : Nat → Int32} {sC : Int32} (hs : Rw 700 sE sC L) (hv : ∀ i, L.getD i 0 < 2147483648) {k f : Nat} (hf : f ≤ L.length) (hk : k ≤ f) : D_Model_isBlank (nI k) (nI f) sE (blkS L k f) := by
  have := m_blank hs hv hf true k hk
  rw [Bool.true_and] at this
  exact this
theorem m_name {L : List Nat} {sE : Nat → Int32} {sC : Int32} (hs : Rw 700 sE sC L) (hv : ∀ i, L.getD i 0 < 2147483648) {f : Nat} (hf : f ≤ L.length) (b : Bool) (k : Nat) (hk : k ≤ f) : ∃ m, T_Model_isName sE (b && smAll L k f) m 2 (nI 0) (nI f) b (nI k) := by
  have hL7 := hs.2.1
  by_cases h : k < f
  · have hel := hs.2.2.2 k (by omega)
    have hvk := hv k
    cases b with
    | false =>
      obtain ⟨m, hm⟩ := m_name hs hv hf false (k + 1) h
      refine ⟨m + 2, ?_⟩
      rw [Bool.false_and] at hm ⊢
      simp (disch := omega) only [T_Model_isName, S_Model_isName, B_Model_isName_22, B_Model_isName_50, q_lit, le_T, le_F, lt_T, lt_F, eq_T, eq_F, m1_lt, m1_le, lt_m1, le_m1, eq_m1, m1_eq, nI_add, nI_sub, nI_dec, nI_mul, nI_or, nI_and, nI_div, nI_mod, and_255, and_31, and_1, and_63, nI_shl, nI_shr, bI_F, bI_1, vp_T, cl_T, true_implies, false_implies, not_true_eq_false, not_false_eq_true, true_and, and_true, false_and, and_false, Bool.false_eq_true, Bool.true_eq_false, reduceCtorEq, implies_true, q_lc_eq, q_lc_ge, q_lc_gt, q_lc_le, lN_or, lN_and, lN_shl, lN_shr, nI_L, lN_I, l_0]
      exact hm
    | true =>
      rw [smAll_step h]
      cases h2 : isSm (L.getD k 0) with
      | true =>
        obtain ⟨m, hm⟩ := m_name hs hv hf true (k + 1) h
        refine ⟨m + 1, ?_⟩
        rw [Bool.true_and]
        simp (disch := omega) only [T_Model_isName, S_Model_isName, B_Model_isName_22, B_Model_isName_50, hel, q_lit, le_T, le_F, lt_T, lt_F, eq_T, eq_F, m1_lt, m1_le, lt_m1, le_m1, eq_m1, m1_eq, nI_add, nI_sub, nI_dec, nI_mul, nI_or, nI_and, nI_div, nI_mod, and_255, and_31, and_1, and_63, nI_shl, nI_shr, bI_F, bI_1, vp_T, cl_T, true_implies, false_implies, not_true_eq_false, not_false_eq_true, true_and, and_true, false_and, and_false, Bool.false_eq_true, Bool.true_eq_false, reduceCtorEq, implies_true, q_lc_eq, q_lc_ge, q_lc_gt, q_lc_le, lN_or, lN_and, lN_shl, lN_shr, nI_L, lN_I, l_0]
        refine ⟨_, mo_isSmall hvk, ?_⟩
        simp (disch := omega) only [h2, q_lit, le_T, le_F, lt_T, lt_F, eq_T, eq_F, m1_lt, m1_le, lt_m1, le_m1, eq_m1, m1_eq, nI_add, nI_sub, nI_dec, nI_mul, nI_or, nI_and, nI_div, nI_mod, and_255, and_31, and_1, and_63, nI_shl, nI_shr, bI_F, bI_1, vp_T, cl_T, true_implies, false_implies, not_true_eq_false, not_false_eq_true, true_and, and_true, false_and, and_false, Bool.false_eq_true, Bool.true_eq_false, reduceCtorEq, implies_true]
        exact hm
      | false =>
        obtain ⟨m, hm⟩ := m_name hs hv hf false (k + 1) h
        refine ⟨m + 2, ?_⟩
        rw [Bool.false_and, Bool.and_false]
        rw [Bool.false_and] at hm
        simp only [T_Model_isName, S_Model_isName, B_Model_isName_22, B_Model_isName_50] at hm ⊢
        simp (disch := omega) only [hel, q_lit, le_T, le_F, lt_T, lt_F, eq_T, eq_F, m1_lt, m1_le, lt_m1, le_m1, eq_m1, m1_eq, nI_add, nI_sub, nI_dec, nI_mul, nI_or, nI_and, nI_div, nI_mod, and_255, and_31, and_1, and_63, nI_shl, nI_shr, bI_F, bI_1, vp_T, cl_T, true_implies, false_implies, not_true_eq_false, not_false_eq_true, true_and, and_true, false_and, and_false, Bool.false_eq_true, Bool.true_eq_false, reduceCtorEq, implies_true]
        refine ⟨_, mo_isSmall hvk, ?_⟩
        simp (disch := omega) only [h2, q_lit, le_T, le_F, lt_T, lt_F, eq_T, eq_F, m1_lt, m1_le, lt_m1, le_m1, eq_m1, m1_eq, nI_add, nI_sub, nI_dec, nI_mul, nI_or, nI_and, nI_div, nI_mod, and_255, and_31, and_1, and_63, nI_shl, nI_shr, bI_F, bI_1, vp_T, cl_T, true_implies, false_implies, not_true_eq_false, not_false_eq_true, true_and, and_true, false_and, and_false, Bool.false_eq_true, Bool.true_eq_false, reduceCtorEq, implies_true]
        exact hm
  · refine ⟨1, ?_⟩
    rw [show smAll L k f = true from smAll_stop (by omega), Bool.and_true]
    simp (disch := omega) only [T_Model_isName, S_Model_isName, B_Model_isName_22, q_lit, le_T, le_F, lt_T, lt_F, eq_T, eq_F, m1_lt, m1_le, lt_m1, le_m1, eq_m1, m1_eq, nI_add, nI_sub, nI_dec, nI_mul, nI_or, nI_and, nI_div, nI_mod, and_255, and_31, and_1, and_63, nI_shl, nI_shr, bI_F, bI_1, vp_T, cl_T, true_implies, false_implies, not_true_eq_false, not_false_eq_true, true_and, and_true, false_and, and_false, Bool.false_eq_true, Bool.true_eq_false, reduceCtorEq, implies_true, q_lc_eq, q_lc_ge, q_lc_gt, q_lc_le, lN_or, lN_and, lN_shl, lN_shr, nI_L, lN_I, l_0]
termination_by f - k
decreasing_by all_goals omega
theorem mo_name {L : List Nat} {sE : Nat → Int32} {sC : Int32} (hs : Rw 700 sE sC L) (hv : ∀ i, L.getD i 0 < 2147483648) {k f : Nat} (hf : f ≤ L.length) (hk : k ≤ f) {m : Nat} (hm : m < 1000) : D_Model_isName (nI k) (nI f) (nI m) sE (isWdS L k f m) := by
  have hL7 := hs.2.1
  by_cases h1 : k < f
  · by_cases h2 : f - k ≤ m
    · obtain ⟨q, hq⟩ := m_name hs hv hf true k hk
      refine ⟨q + 1, ?_⟩
      have e : isWdS L k f m = smAll L k f := by simp only [isWdS, decide_eq_true h1, decide_eq_true h2, Bool.and_true]
      rw [e]
      rw [Bool.true_and] at hq
      simp (disch := omega) only [T_Model_isName, S_Model_isName, B_Model_isName_16, B_Model_isName_19, q_lit, le_T, le_F, lt_T, lt_F, eq_T, eq_F, m1_lt, m1_le, lt_m1, le_m1, eq_m1, m1_eq, nI_add, nI_sub, nI_dec, nI_mul, nI_or, nI_and, nI_div, nI_mod, and_255, and_31, and_1, and_63, nI_shl, nI_shr, bI_F, bI_1, vp_T, cl_T, true_implies, false_implies, not_true_eq_false, not_false_eq_true, true_and, and_true, false_and, and_false, Bool.false_eq_true, Bool.true_eq_false, reduceCtorEq, implies_true, q_lc_eq, q_lc_ge, q_lc_gt, q_lc_le, lN_or, lN_and, lN_shl, lN_shr, nI_L, lN_I, l_0]
      exact hq
    · obtain ⟨q, hq⟩ := m_name hs hv hf false k hk
      refine ⟨q + 2, ?_⟩
      have e : isWdS L k f m = false := by simp only [isWdS, decide_eq_false h2, Bool.and_false]
      rw [e]
      rw [Bool.false_and] at hq
      simp (disch := omega) only [T_Model_isName, S_Model_isName, B_Model_isName_16, B_Model_isName_19, q_lit, le_T, le_F, lt_T, lt_F, eq_T, eq_F, m1_lt, m1_le, lt_m1, le_m1, eq_m1, m1_eq, nI_add, nI_sub, nI_dec, nI_mul, nI_or, nI_and, nI_div, nI_mod, and_255, and_31, and_1, and_63, nI_shl, nI_shr, bI_F, bI_1, vp_T, cl_T, true_implies, false_implies, not_true_eq_false, not_false_eq_true, true_and, and_true, false_and, and_false, Bool.false_eq_true, Bool.true_eq_false, reduceCtorEq, implies_true, q_lc_eq, q_lc_ge, q_lc_gt, q_lc_le, lN_or, lN_and, lN_shl, lN_shr, nI_L, lN_I, l_0]
      exact hq
  · obtain ⟨q, hq⟩ := m_name hs hv hf false k hk
    refine ⟨q + 2, ?_⟩
    have e : isWdS L k f m = false := by simp only [isWdS, decide_eq_false h1, Bool.and_false, Bool.false_and]
    rw [e]
    rw [Bool.false_and] at hq
    simp (disch := omega) only [T_Model_isName, S_Model_isName, B_Model_isName_16, B_Model_isName_19, q_lit, le_T, le_F, lt_T, lt_F, eq_T, eq_F, m1_lt, m1_le, lt_m1, le_m1, eq_m1, m1_eq, nI_add, nI_sub, nI_dec, nI_mul, nI_or, nI_and, nI_div, nI_mod, and_255, and_31, and_1, and_63, nI_shl, nI_shr, bI_F, bI_1, vp_T, cl_T, true_implies, false_implies, not_true_eq_false, not_false_eq_true, true_and, and_true, false_and, and_false, Bool.false_eq_true, Bool.true_eq_false, reduceCtorEq, implies_true, q_lc_eq, q_lc_ge, q_lc_gt, q_lc_le, lN_or, lN_and, lN_shl, lN_shr, nI_L, lN_I, l_0]
    exact hq
/-- the reference's names: six signs each -/
def q_MN (Nm : Nat → Int32) (ns : List (List Nat)) : Prop := ∀ t, t < ns.length → ∀ k, k < 6 → Nm (6 * t + k) = nI ((bd ns t).getD k 0)
theorem getD_ge {l : List Nat} {i : Nat} (h : l.length ≤ i) : l.getD i 0 = 0 := by
  rw [List.getD_eq_getElem?_getD, List.getElem?_eq_none h]; rfl
/-- same so far -/
def q_sameK (v w : List Nat) (k : Nat) : Bool := (List.range k).all fun j => decide (v.getD j 0 = w.getD j 0)
theorem sameK_s (v w : List Nat) (k : Nat) : q_sameK v w (k + 1) = (q_sameK v w k && decide (v.getD k 0 = w.getD k 0)) := by
  simp [q_sameK, List.range_succ]
theorem sameK_6 {v w : List Nat} (hv : q_Wd v) (hw : q_Wd w) (h1 : v.length ≤ 6) (h2 : w.length ≤ 6) : q_sameK v w 6 = decide (v = w) := by
  by_cases h : v = w
  · subst h; simp [q_sameK]
  · rw [decide_eq_false h, Bool.eq_false_iff]
    intro h3
    apply h
    have h4 : ∀ j, j < 6 → v.getD j 0 = w.getD j 0 := fun j hj => by
      have := List.all_eq_true.mp h3 j (List.mem_range.mpr hj)
      simpa only [decide_eq_true_eq] using this
    have hl : v.length = w.length := by
      rcases Nat.lt_trichotomy v.length w.length with h5 | h5 | h5
      · have a := hw.at h5
        rw [← h4 _ (by omega), getD_ge (Nat.le_refl _)] at a
        omega
      · exact h5
      · have a := hv.at h5
        rw [h4 _ (by omega), getD_ge (Nat.le_refl _)] at a
        omega
    apply List.ext_getElem hl
    intro i a b
    have := h4 i (by omega)
    simpa [List.getD_eq_getElem?_getD, List.getElem?_eq_getElem a, List.getElem?_eq_getElem b] using this
theorem m_named1 {L : List Nat} {sE : Nat → Int32} {sC : Int32} (hs : Rw 700 sE sC L) (hv : ∀ i, L.getD i 0 < 2147483648) {Nm : Nat → Int32} {ns : List (List Nat)} (hl : ns.length ≤ 10) (hN : q_MN Nm ns) (hok : NmOk ns) {k len : Nat} (hk : k + len ≤ L.length) {w : List Nat} (hw : w = (L.drop k).take len) (hwl : w.length = len) (hwd : q_Wd w) (hw6 : len ≤ 6) {t : Nat} (ht : t < ns.length) {x3 : Int32} {R : Int32}
    (hend : ∃ m, T_Model_topicNamed sE (nI ns.length) Nm R m 1 (nI k) (nI len) x3 (nI t) (q_sameK (bd ns t) w 6) (nI 6)) (j : Nat) (hj : j ≤ 6) : ∃ m, T_Model_topicNamed sE (nI ns.length) Nm R m 1 (nI k) (nI len) x3 (nI t) (q_sameK (bd ns t) w j) (nI j) := by
  have hL7 := hs.2.1
  by_cases h : j = 6
  · subst h; exact hend
  · obtain ⟨m, hm⟩ := m_named1 hs hv hl hN hok hk hw hwl hwd hw6 ht hend (j + 1) (by omega)
    have e := hN t ht j (by omega)
    have hvw := (hok _ (bd_mem ht)).1.small j
    rw [sameK_s] at hm
    cases h1 : q_sameK (bd ns t) w j with
    | false =>
      rw [h1, Bool.false_and] at hm
      refine ⟨m + 2, ?_⟩
      simp (disch := omega) only [T_Model_topicNamed, S_Model_topicNamed, B_Model_topicNamed_20, B_Model_topicNamed_67, B_Model_topicNamed_71, q_lit, le_T, le_F, lt_T, lt_F, eq_T, eq_F, m1_lt, m1_le, lt_m1, le_m1, eq_m1, m1_eq, nI_add, nI_sub, nI_dec, nI_mul, nI_or, nI_and, nI_div, nI_mod, and_255, and_31, and_1, and_63, nI_shl, nI_shr, bI_F, bI_1, vp_T, cl_T, true_implies, false_implies, not_true_eq_false, not_false_eq_true, true_and, and_true, false_and, and_false, Bool.false_eq_true, Bool.true_eq_false, reduceCtorEq, implies_true, q_lc_eq, q_lc_ge, q_lc_gt, q_lc_le, lN_or, lN_and, lN_shl, lN_shr, nI_L, lN_I, l_0]
      exact hm
    | true =>
      rw [h1, Bool.true_and] at hm
      by_cases h2 : j < len
      · have es := hs.2.2.2 (k + j) (by omega)
        have ew : w.getD j 0 = L.getD (k + j) 0 := by
          rw [hw]; simp only [List.getD_eq_getElem?_getD, List.getElem?_take, if_pos h2, List.getElem?_drop]
        have hvk := hv (k + j)
        rw [ew] at hm
        by_cases h3 : (bd ns t).getD j 0 = L.getD (k + j) 0
        · rw [decide_eq_true h3] at hm
          refine ⟨m + 2, ?_⟩
          simp (disch := omega) only [T_Model_topicNamed, S_Model_topicNamed, B_Model_topicNamed_20, B_Model_topicNamed_67, B_Model_topicNamed_71, e, es, q_lit, le_T, le_F, lt_T, lt_F, eq_T, eq_F, m1_lt, m1_le, lt_m1, le_m1, eq_m1, m1_eq, nI_add, nI_sub, nI_dec, nI_mul, nI_or, nI_and, nI_div, nI_mod, and_255, and_31, and_1, and_63, nI_shl, nI_shr, bI_F, bI_1, vp_T, cl_T, true_implies, false_implies, not_true_eq_false, not_false_eq_true, true_and, and_true, false_and, and_false, Bool.false_eq_true, Bool.true_eq_false, reduceCtorEq, implies_true, q_lc_eq, q_lc_ge, q_lc_gt, q_lc_le, lN_or, lN_and, lN_shl, lN_shr, nI_L, lN_I, l_0]
          exact hm
        · rw [decide_eq_false h3] at hm
          refine ⟨m + 2, ?_⟩
          simp (disch := omega) only [T_Model_topicNamed, S_Model_topicNamed, B_Model_topicNamed_20, B_Model_topicNamed_67, B_Model_topicNamed_71, e, es, q_lit, le_T, le_F, lt_T, lt_F, eq_T, eq_F, m1_lt, m1_le, lt_m1, le_m1, eq_m1, m1_eq, nI_add, nI_sub, nI_dec, nI_mul, nI_or, nI_and, nI_div, nI_mod, and_255, and_31, and_1, and_63, nI_shl, nI_shr, bI_F, bI_1, vp_T, cl_T, true_implies, false_implies, not_true_eq_false, not_false_eq_true, true_and, and_true, false_and, and_false, Bool.false_eq_true, Bool.true_eq_false, reduceCtorEq, implies_true, q_lc_eq, q_lc_ge, q_lc_gt, q_lc_le, lN_or, lN_and, lN_shl, lN_shr, nI_L, lN_I, l_0]
          exact hm
      · rw [getD_ge (show w.length ≤ j by omega)] at hm
        by_cases h3 : (bd ns t).getD j 0 = 0
        · rw [decide_eq_true h3] at hm
          refine ⟨m + 2, ?_⟩
          simp (disch := omega) only [T_Model_topicNamed, S_Model_topicNamed, B_Model_topicNamed_20, B_Model_topicNamed_67, B_Model_topicNamed_71, e, q_lit, le_T, le_F, lt_T, lt_F, eq_T, eq_F, m1_lt, m1_le, lt_m1, le_m1, eq_m1, m1_eq, nI_add, nI_sub, nI_dec, nI_mul, nI_or, nI_and, nI_div, nI_mod, and_255, and_31, and_1, and_63, nI_shl, nI_shr, bI_F, bI_1, vp_T, cl_T, true_implies, false_implies, not_true_eq_false, not_false_eq_true, true_and, and_true, false_and, and_false, Bool.false_eq_true, Bool.true_eq_false, reduceCtorEq, implies_true, q_lc_eq, q_lc_ge, q_lc_gt, q_lc_le, lN_or, lN_and, lN_shl, lN_shr, nI_L, lN_I, l_0]
          exact hm
        · rw [decide_eq_false h3] at hm
          refine ⟨m + 2, ?_⟩
          simp (disch := omega) only [T_Model_topicNamed, S_Model_topicNamed, B_Model_topicNamed_20, B_Model_topicNamed_67, B_Model_topicNamed_71, e, q_lit, le_T, le_F, lt_T, lt_F, eq_T, eq_F, m1_lt, m1_le, lt_m1, le_m1, eq_m1, m1_eq, nI_add, nI_sub, nI_dec, nI_mul, nI_or, nI_and, nI_div, nI_mod, and_255, and_31, and_1, and_63, nI_shl, nI_shr, bI_F, bI_1, vp_T, cl_T, true_implies, false_implies, not_true_eq_false, not_false_eq_true, true_and, and_true, false_and, and_false, Bool.false_eq_true, Bool.true_eq_false, reduceCtorEq, implies_true, q_lc_eq, q_lc_ge, q_lc_gt, q_lc_le, lN_or, lN_and, lN_shl, lN_shr, nI_L, lN_I, l_0]
          exact hm
termination_by 6 - j
decreasing_by all_goals omega
theorem m_named0 {L : List Nat} {sE : Nat → Int32} {sC : Int32} (hs : Rw 700 sE sC L) (hv : ∀ i, L.getD i 0 < 2147483648) {Nm : Nat → Int32} {ns : List (List Nat)} (hl : ns.length ≤ 10) (hN : q_MN Nm ns) (hok : NmOk ns) {k len : Nat} (hk : k + len ≤ L.length) {w : List Nat} (hw : w = (L.drop k).take len) (hwl : w.length = len) (hwd : q_Wd w) (hw6 : len ≤ 6) (o : Option Nat) (ho : ∀ a, o = some a → a < 10) (t : Nat) (ht : t ≤ ns.length) :
    ∃ m, T_Model_topicNamed sE (nI ns.length) Nm (oI (if o.isSome = true then o else nmAt w (ns.drop t) t)) m 0 (nI k) (nI len) (oI o) (nI t) false (nI 0) := by
  by_cases h : t < ns.length
  · have hvw := hok _ (bd_mem h)
    have e6 : q_sameK (bd ns t) w 6 = decide (bd ns t = w) := sameK_6 hvw.1 hwd hvw.2.1 (by omega)
    rw [nmAt_drop h]
    have go : ∀ {R : Int32}, (∃ m, T_Model_topicNamed sE (nI ns.length) Nm R m 1 (nI k) (nI len) (oI o) (nI t) (q_sameK (bd ns t) w 6) (nI 6)) → ∃ m, T_Model_topicNamed sE (nI ns.length) Nm R m 0 (nI k) (nI len) (oI o) (nI t) false (nI 0) := by
      intro R hR
      obtain ⟨m, hm⟩ := m_named1 hs hv hl hN hok hk hw hwl hwd hw6 h hR 0 (by omega)
      refine ⟨m + 1, ?_⟩
      have e0 : q_sameK (bd ns t) w 0 = true := by simp [q_sameK]
      rw [e0] at hm
      simp (disch := omega) only [T_Model_topicNamed, S_Model_topicNamed, B_Model_topicNamed_5, q_lit, le_T, le_F, lt_T, lt_F, eq_T, eq_F, m1_lt, m1_le, lt_m1, le_m1, eq_m1, m1_eq, nI_add, nI_sub, nI_dec, nI_mul, nI_or, nI_and, nI_div, nI_mod, and_255, and_31, and_1, and_63, nI_shl, nI_shr, bI_F, bI_1, vp_T, cl_T, true_implies, false_implies, not_true_eq_false, not_false_eq_true, true_and, and_true, false_and, and_false, Bool.false_eq_true, Bool.true_eq_false, reduceCtorEq, implies_true, q_lc_eq, q_lc_ge, q_lc_gt, q_lc_le, lN_or, lN_and, lN_shl, lN_shr, nI_L, lN_I, l_0]
      exact hm
    apply go
    rw [e6]
    cases o with
    | some a =>
      have ha := ho a rfl
      obtain ⟨m, hm⟩ := m_named0 hs hv hl hN hok hk hw hwl hwd hw6 (some a) ho (t + 1) h
      simp only [Option.isSome_some, if_true, oI] at hm ⊢
      by_cases h1 : bd ns t = w
      · rw [decide_eq_true h1]
        refine ⟨m + 2, ?_⟩
        simp (disch := omega) only [T_Model_topicNamed, S_Model_topicNamed, B_Model_topicNamed_20, B_Model_topicNamed_94, q_lit, le_T, le_F, lt_T, lt_F, eq_T, eq_F, m1_lt, m1_le, lt_m1, le_m1, eq_m1, m1_eq, nI_add, nI_sub, nI_dec, nI_mul, nI_or, nI_and, nI_div, nI_mod, and_255, and_31, and_1, and_63, nI_shl, nI_shr, bI_F, bI_1, vp_T, cl_T, true_implies, false_implies, not_true_eq_false, not_false_eq_true, true_and, and_true, false_and, and_false, Bool.false_eq_true, Bool.true_eq_false, reduceCtorEq, implies_true, q_lc_eq, q_lc_ge, q_lc_gt, q_lc_le, lN_or, lN_and, lN_shl, lN_shr, nI_L, lN_I, l_0]
        exact hm
      · rw [decide_eq_false h1]
        refine ⟨m + 2, ?_⟩
        simp (disch := omega) only [T_Model_topicNamed, S_Model_topicNamed, B_Model_topicNamed_20, B_Model_topicNamed_94, q_lit, le_T, le_F, lt_T, lt_F, eq_T, eq_F, m1_lt, m1_le, lt_m1, le_m1, eq_m1, m1_eq, nI_add, nI_sub, nI_dec, nI_mul, nI_or, nI_and, nI_div, nI_mod, and_255, and_31, and_1, and_63, nI_shl, nI_shr, bI_F, bI_1, vp_T, cl_T, true_implies, false_implies, not_true_eq_false, not_false_eq_true, true_and, and_true, false_and, and_false, Bool.false_eq_true, Bool.true_eq_false, reduceCtorEq, implies_true, q_lc_eq, q_lc_ge, q_lc_gt, q_lc_le, lN_or, lN_and, lN_shl, lN_shr, nI_L, lN_I, l_0]
        exact hm
    | none =>
      simp only [Option.isSome_none, Bool.false_eq_true, if_false]
      by_cases h1 : bd ns t = w
      · obtain ⟨m, hm⟩ := m_named0 hs hv hl hN hok hk hw hwl hwd hw6 (some t) (fun a h => by cases h; omega) (t + 1) h
        simp only [Option.isSome_some, if_true, oI] at hm
        rw [decide_eq_true h1, if_pos h1]
        refine ⟨m + 1, ?_⟩
        simp (disch := omega) only [T_Model_topicNamed, S_Model_topicNamed, B_Model_topicNamed_20, oI, q_lit, le_T, le_F, lt_T, lt_F, eq_T, eq_F, m1_lt, m1_le, lt_m1, le_m1, eq_m1, m1_eq, nI_add, nI_sub, nI_dec, nI_mul, nI_or, nI_and, nI_div, nI_mod, and_255, and_31, and_1, and_63, nI_shl, nI_shr, bI_F, bI_1, vp_T, cl_T, true_implies, false_implies, not_true_eq_false, not_false_eq_true, true_and, and_true, false_and, and_false, Bool.false_eq_true, Bool.true_eq_false, reduceCtorEq, implies_true, q_lc_eq, q_lc_ge, q_lc_gt, q_lc_le, lN_or, lN_and, lN_shl, lN_shr, nI_L, lN_I, l_0]
        exact hm
      · obtain ⟨m, hm⟩ := m_named0 hs hv hl hN hok hk hw hwl hwd hw6 none (fun a h => by cases h) (t + 1) h
        simp only [Option.isSome_none, Bool.false_eq_true, if_false] at hm
        rw [decide_eq_false h1, if_neg h1]
        refine ⟨m + 2, ?_⟩
        simp (disch := omega) only [T_Model_topicNamed, S_Model_topicNamed, B_Model_topicNamed_20, B_Model_topicNamed_94, q_lit, le_T, le_F, lt_T, lt_F, eq_T, eq_F, m1_lt, m1_le, lt_m1, le_m1, eq_m1, m1_eq, nI_add, nI_sub, nI_dec, nI_mul, nI_or, nI_and, nI_div, nI_mod, and_255, and_31, and_1, and_63, nI_shl, nI_shr, bI_F, bI_1, vp_T, cl_T, true_implies, false_implies, not_true_eq_false, not_false_eq_true, true_and, and_true, false_and, and_false, Bool.false_eq_true, Bool.true_eq_false, reduceCtorEq, implies_true, q_lc_eq, q_lc_ge, q_lc_gt, q_lc_le, lN_or, lN_and, lN_shl, lN_shr, nI_L, lN_I, l_0]
        exact hm
  · refine ⟨1, ?_⟩
    rw [List.drop_eq_nil_of_le (by omega)]
    cases o with
    | some a => simp (disch := omega) only [T_Model_topicNamed, S_Model_topicNamed, B_Model_topicNamed_5, Option.isSome_some, if_true, q_lit, le_T, le_F, lt_T, lt_F, eq_T, eq_F, m1_lt, m1_le, lt_m1, le_m1, eq_m1, m1_eq, nI_add, nI_sub, nI_dec, nI_mul, nI_or, nI_and, nI_div, nI_mod, and_255, and_31, and_1, and_63, nI_shl, nI_shr, bI_F, bI_1, vp_T, cl_T, true_implies, false_implies, not_true_eq_false, not_false_eq_true, true_and, and_true, false_and, and_false, Bool.false_eq_true, Bool.true_eq_false, reduceCtorEq, implies_true, q_lc_eq, q_lc_ge, q_lc_gt, q_lc_le, lN_or, lN_and, lN_shl, lN_shr, nI_L, lN_I, l_0]
    | none => simp (disch := omega) only [T_Model_topicNamed, S_Model_topicNamed, B_Model_topicNamed_5, Option.isSome_none, if_false, nmAt, q_lit, le_T, le_F, lt_T, lt_F, eq_T, eq_F, m1_lt, m1_le, lt_m1, le_m1, eq_m1, m1_eq, nI_add, nI_sub, nI_dec, nI_mul, nI_or, nI_and, nI_div, nI_mod, and_255, and_31, and_1, and_63, nI_shl, nI_shr, bI_F, bI_1, vp_T, cl_T, true_implies, false_implies, not_true_eq_false, not_false_eq_true, true_and, and_true, false_and, and_false, Bool.false_eq_true, Bool.true_eq_false, reduceCtorEq, implies_true, q_lc_eq, q_lc_ge, q_lc_gt, q_lc_le, lN_or, lN_and, lN_shl, lN_shr, nI_L, lN_I, l_0]
termination_by ns.length - t
decreasing_by all_goals omega
theorem mo_named {L : List Nat} {sE : Nat → Int32} {sC : Int32} (hs : Rw 700 sE sC L) (hv : ∀ i, L.getD i 0 < 2147483648) {Nm : Nat → Int32} {ns : List (List Nat)} (hl : ns.length ≤ 10) (hN : q_MN Nm ns) (hok : NmOk ns) {k len : Nat} (hk : k + len ≤ L.length) (hwl : ((L.drop k).take len).length = len) (hwd : q_Wd ((L.drop k).take len)) (hw6 : len ≤ 6) : D_Model_topicNamed (nI k) (nI len) sE (nI ns.length) Nm (oI (nmAt ((L.drop k).take len) ns 0)) := by
  have := m_named0 hs hv hl hN hok hk rfl hwl hwd hw6 none (fun a h => by cases h) 0 (by omega)
  simpa [D_Model_topicNamed, oI, q_lit] using this
theorem mo_fail0 {k l : Nat} : D_Model_fail (nI k) (nI l) (-nI 1) (nI 0) (nI l) (nI k) := by
  simp (disch := omega) only [D_Model_fail, q_lit, le_T, le_F, lt_T, lt_F, eq_T, eq_F, m1_lt, m1_le, lt_m1, le_m1, eq_m1, m1_eq, nI_add, nI_sub, nI_dec, nI_mul, nI_or, nI_and, nI_div, nI_mod, and_255, and_31, and_1, and_63, nI_shl, nI_shr, bI_F, bI_1, vp_T, cl_T, true_implies, false_implies, not_true_eq_false, not_false_eq_true, true_and, and_true, false_and, and_false, Bool.false_eq_true, Bool.true_eq_false, reduceCtorEq, implies_true]
theorem mo_fail1 {k l ft : Nat} (h : ¬ ft = 0) (hf : ft < 100) (FL : Int32) : D_Model_fail (nI k) (nI l) FL (nI ft) FL (nI ft) := by
  simp (disch := omega) only [D_Model_fail, q_lit, le_T, le_F, lt_T, lt_F, eq_T, eq_F, m1_lt, m1_le, lt_m1, le_m1, eq_m1, m1_eq, nI_add, nI_sub, nI_dec, nI_mul, nI_or, nI_and, nI_div, nI_mod, and_255, and_31, and_1, and_63, nI_shl, nI_shr, bI_F, bI_1, vp_T, cl_T, true_implies, false_implies, not_true_eq_false, not_false_eq_true, true_and, and_true, false_and, and_false, Bool.false_eq_true, Bool.true_eq_false, reduceCtorEq, implies_true]
/-- bodies of a source half read: what goes beyond their room is not kept -/
def MBo (Bo Le : Nat → Int32) (bs : List (List Nat)) : Prop := bs.length ≤ 10 ∧ ∀ t, t < bs.length → Le t = nI (bd bs t).length ∧ ∀ i, i < (bd bs t).length → i < 255 → Bo (255 * t + i) = nI ((bd bs t).getD i 0)
theorem mo_byte {Bo Le : Nat → Int32} {bs : List (List Nat)} (h : MBo Bo Le bs) (hne : bs ≠ []) (hl : bs.flatten.length < 2550) (x : Nat) : ∃ Bo' Le', D_Model_addByte (nI x) (nI bs.length) Bo Le Bo' Le' ∧ MBo Bo' Le' (q_addB bs x) := by
  obtain ⟨h10, hall⟩ := h
  have hpos : 0 < bs.length := List.length_pos_iff.mpr hne
  obtain ⟨e1, e2⟩ := hall (bs.length - 1) (by omega)
  have hoe := off_end (bs := bs) (t := bs.length - 1) (by omega)
  refine ⟨if (bd bs (bs.length - 1)).length < 255 then upd Bo (255 * (bs.length - 1) + (bd bs (bs.length - 1)).length) (nI x) else Bo, upd Le (bs.length - 1) (nI ((bd bs (bs.length - 1)).length + 1)), ⟨1, ?_⟩, by rw [addB_len hne]; exact h10, fun t ht => ?_⟩
  · by_cases h1 : (bd bs (bs.length - 1)).length < 255
    · rw [if_pos h1]
      simp (disch := omega) only [T_Model_addByte, S_Model_addByte, B_Model_addByte_37, e1, q_lit, le_T, le_F, lt_T, lt_F, eq_T, eq_F, m1_lt, m1_le, lt_m1, le_m1, eq_m1, m1_eq, nI_add, nI_sub, nI_dec, nI_mul, nI_or, nI_and, nI_div, nI_mod, and_255, and_31, and_1, and_63, nI_shl, nI_shr, bI_F, bI_1, vp_T, cl_T, true_implies, false_implies, not_true_eq_false, not_false_eq_true, true_and, and_true, false_and, and_false, Bool.false_eq_true, Bool.true_eq_false, reduceCtorEq, implies_true, q_lc_eq, q_lc_ge, q_lc_gt, q_lc_le, lN_or, lN_and, lN_shl, lN_shr, nI_L, lN_I, l_0]
    · rw [if_neg h1]
      simp (disch := omega) only [T_Model_addByte, S_Model_addByte, B_Model_addByte_37, e1, q_lit, le_T, le_F, lt_T, lt_F, eq_T, eq_F, m1_lt, m1_le, lt_m1, le_m1, eq_m1, m1_eq, nI_add, nI_sub, nI_dec, nI_mul, nI_or, nI_and, nI_div, nI_mod, and_255, and_31, and_1, and_63, nI_shl, nI_shr, bI_F, bI_1, vp_T, cl_T, true_implies, false_implies, not_true_eq_false, not_false_eq_true, true_and, and_true, false_and, and_false, Bool.false_eq_true, Bool.true_eq_false, reduceCtorEq, implies_true, q_lc_eq, q_lc_ge, q_lc_gt, q_lc_le, lN_or, lN_and, lN_shl, lN_shr, nI_L, lN_I, l_0]
  · rw [addB_len hne] at ht
    obtain ⟨a1, a2⟩ := hall t ht
    rw [addB_bd hne x ht]
    by_cases h1 : t + 1 = bs.length
    · have ht' : t = bs.length - 1 := by omega
      subst ht'
      rw [if_pos h1]
      refine ⟨by rw [upd_eq]; simp, fun i hi hi2 => ?_⟩
      rw [List.length_append] at hi
      simp only [List.length_cons, List.length_nil] at hi
      rw [getD_snoc]
      by_cases h2 : i = (bd bs (bs.length - 1)).length
      · subst h2
        rw [if_pos rfl, if_pos hi2, upd_eq]
      · rw [if_neg h2]
        have := a2 i (by omega) hi2
        split
        · simp only [upd]; rw [if_neg (by omega)]; exact this
        · exact this
    · rw [if_neg h1]
      refine ⟨by simp only [upd]; rw [if_neg (by omega)]; exact a1, fun i hi hi2 => ?_⟩
      have := a2 i hi hi2
      split
      · simp only [upd]; rw [if_neg (by omega)]; exact this
      · exact this
