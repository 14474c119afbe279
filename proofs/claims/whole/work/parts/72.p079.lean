/-! Pure: rows again, and the topics visited. -/
theorem rw_app {n : Nat} {E : Nat → Int32} {C : Int32} {L : List Nat} (h : Rw n E C L) (hl : L.length < n) (x : Nat) : Rw n (upd E L.length (nI x)) (nI (L.length + 1)) (L ++ [x]) := by
  have hn := h.2.2.1
  refine ⟨by simp, by simp; omega, hn, fun i hi => ?_⟩
  simp only [List.length_append, List.length_cons, List.length_nil] at hi
  by_cases hi2 : i = L.length
  · subst hi2
    simp [upd]
  · have h3 : i < L.length := by omega
    simp only [upd, hi2, if_false]
    rw [h.2.2.2 i h3]
    simp [List.getD_eq_getElem?_getD, List.getElem?_append_left h3]
theorem row_app {n : Nat} {E : Nat → Int32} {C : Int32} {L : List Nat} (h : Rw n E C L) (hl : L.length < n) (x : Nat) (O : Bool) :
    D_Row_append n (nI x) E C O (upd E L.length (nI x)) (nI (L.length + 1)) O := by
  have hn := h.2.2.1
  obtain ⟨rfl, h1, h2, h3⟩ := h
  simp (disch := omega) only [D_Row_append, q_lit, le_T, le_F, lt_T, lt_F, eq_T, eq_F, m1_lt, m1_le, lt_m1, le_m1, eq_m1, m1_eq, nI_add, nI_sub, nI_dec, nI_mul, nI_or, nI_and, nI_div, nI_mod, and_255, and_31, and_1, and_63, nI_shl, nI_shr, bI_F, bI_1, vp_T, cl_T, true_implies, false_implies, not_true_eq_false, not_false_eq_true, true_and, and_true, false_and, and_false, Bool.false_eq_true, Bool.true_eq_false, reduceCtorEq, implies_true]
theorem rw_take {n : Nat} {E : Nat → Int32} {C : Int32} {L : List Nat} (h : Rw n E C L) {k : Nat} (hk : k ≤ L.length) : Rw n E (nI k) (L.take k) := (row_shorten h hk false).2
theorem row_cut {n : Nat} {E : Nat → Int32} {C : Int32} {L : List Nat} (h : Rw n E C L) {k : Nat} (hk : k ≤ L.length) (O : Bool) : D_Row_shorten (nI k) C O (nI k) false := (row_shorten h hk O).1
theorem rw_nil {n : Nat} (hn : n < 2 ^ 30) (E : Nat → Int32) : Rw n E (nI 0) [] := ⟨rfl, by simp, hn, fun i hi => absurd hi (by simp)⟩
theorem row_clr {n : Nat} {E : Nat → Int32} {C : Int32} {L : List Nat} (h : Rw n E C L) (O : Bool) : D_Row_shorten 0 C O (nI 0) false := row_cut h (Nat.zero_le _) O
def shd (E : Nat → Int32) (k c : Nat) : Nat → Int32 := fun i => if k ≤ i + 1 ∧ i + 1 < c then E (i + 1) else E i
theorem shd_step {E : Nat → Int32} {k c : Nat} (h1 : 1 ≤ k) (h2 : k < c) : shd (upd E (k - 1) (E k)) (k + 1) c = shd E k c := by
  funext i
  unfold shd upd
  by_cases h : k + 1 ≤ i + 1 ∧ i + 1 < c
  · rw [if_pos h, if_neg (by omega), if_pos (by omega)]
  · rw [if_neg h]
    by_cases h3 : i = k - 1
    · rw [if_pos h3, if_pos (by omega)]; congr 1; omega
    · rw [if_neg h3, if_neg (by omega)]
theorem shd_end {E : Nat → Int32} {k c : Nat} (h : c ≤ k) : shd E k c = E := by
  funext i
  unfold shd
  rw [if_neg (by omega)]
theorem rw_drop {n : Nat} {E : Nat → Int32} {C : Int32} {L : List Nat} (h : Rw n E C L) : Rw n (shd E 1 L.length) (nI (L.length - 1)) (L.drop 1) := by
  refine ⟨by simp, by have := h.2.1; simp; omega, h.2.2.1, fun i hi => ?_⟩
  simp only [List.length_drop] at hi
  unfold shd
  rw [if_pos (by omega), h.2.2.2 _ (by omega)]
  simp [List.getD_eq_getElem?_getD, Nat.add_comm]
theorem t_dropF {n : Nat} {c : Nat} (hc : c ≤ n) (hn : n < 1073741824) (h0 : 0 < c) (O : Bool) (k : Nat) (h1 : 1 ≤ k) (h2 : k ≤ c) (E : Nat → Int32) : ∃ m, T_Row_dropFirst n (shd E k c) (nI (c - 1)) false m (nI k) E (nI c) O := by
  by_cases h : k < c
  · obtain ⟨m, hm⟩ := t_dropF hc hn h0 O (k + 1) (by omega) (by omega) (upd E (k - 1) (E k))
    rw [shd_step h1 h] at hm
    refine ⟨m + 1, ?_⟩
    simp (disch := omega) only [T_Row_dropFirst, S_Row_dropFirst, B_Row_dropFirst_2, q_lit, le_T, le_F, lt_T, lt_F, eq_T, eq_F, m1_lt, m1_le, lt_m1, le_m1, eq_m1, m1_eq, nI_add, nI_sub, nI_dec, nI_mul, nI_or, nI_and, nI_div, nI_mod, and_255, and_31, and_1, and_63, nI_shl, nI_shr, bI_F, bI_1, vp_T, cl_T, true_implies, false_implies, not_true_eq_false, not_false_eq_true, true_and, and_true, false_and, and_false, Bool.false_eq_true, Bool.true_eq_false, reduceCtorEq, implies_true, q_lc_eq, q_lc_ge, q_lc_gt, q_lc_le, lN_or, lN_and, lN_shl, lN_shr, nI_L, lN_I, l_0]
    exact hm
  · refine ⟨1, ?_⟩
    rw [shd_end (by omega)]
    simp (disch := omega) only [T_Row_dropFirst, S_Row_dropFirst, B_Row_dropFirst_2, q_lit, le_T, le_F, lt_T, lt_F, eq_T, eq_F, m1_lt, m1_le, lt_m1, le_m1, eq_m1, m1_eq, nI_add, nI_sub, nI_dec, nI_mul, nI_or, nI_and, nI_div, nI_mod, and_255, and_31, and_1, and_63, nI_shl, nI_shr, bI_F, bI_1, vp_T, cl_T, true_implies, false_implies, not_true_eq_false, not_false_eq_true, true_and, and_true, false_and, and_false, Bool.false_eq_true, Bool.true_eq_false, reduceCtorEq, implies_true, q_lc_eq, q_lc_ge, q_lc_gt, q_lc_le, lN_or, lN_and, lN_shl, lN_shr, nI_L, lN_I, l_0]
    refine ⟨nI (c - 1), false, ?_, rfl, rfl⟩
    simp (disch := omega) only [D_Row_shorten, q_lit, le_T, le_F, lt_T, lt_F, eq_T, eq_F, m1_lt, m1_le, lt_m1, le_m1, eq_m1, m1_eq, nI_add, nI_sub, nI_dec, nI_mul, nI_or, nI_and, nI_div, nI_mod, and_255, and_31, and_1, and_63, nI_shl, nI_shr, bI_F, bI_1, vp_T, cl_T, true_implies, false_implies, not_true_eq_false, not_false_eq_true, true_and, and_true, false_and, and_false, Bool.false_eq_true, Bool.true_eq_false, reduceCtorEq, implies_true]
termination_by c - k
decreasing_by all_goals omega
theorem row_dropF {n : Nat} {E : Nat → Int32} {C : Int32} {L : List Nat} (h : Rw n E C L) (h0 : 0 < L.length) (O : Bool) : D_Row_dropFirst n E C O (shd E 1 L.length) (nI (L.length - 1)) false := by
  obtain ⟨rfl, h1, h2, h3⟩ := h
  exact t_dropF h1 h2 h0 O 1 (by omega) (by omega) E
/-- one more topic on a stack of sixteen -/
def psh (L : List Nat) (x : Nat) : List Nat := (if L.length < 16 then L else L.drop 1) ++ [x]
theorem psh_le {L : List Nat} (h : L.length ≤ 16) (x : Nat) : (psh L x).length ≤ 16 ∧ 0 < (psh L x).length := by
  unfold psh; split <;> simp <;> omega
theorem vi_pushB {E : Nat → Int32} {C : Int32} {L : List Nat} (h : Rw 16 E C L) (x : Nat) (O : Bool) : ∃ E' C' O', D_Visits_pushB 16 E C O (nI x) E' C' O' ∧ Rw 16 E' C' (psh L x) := by
  by_cases h1 : L.length < 16
  · refine ⟨upd E L.length (nI x), nI (L.length + 1), O, ⟨1, ?_⟩, ?_⟩
    rotate_left
    · rw [psh, if_pos h1]; exact rw_app h h1 x
    · have h' := h
      obtain ⟨rfl, h3, h4, h5⟩ := h
      simp (disch := omega) only [T_Visits_pushB, S_Visits_pushB, B_Visits_pushB_13, q_lit, le_T, le_F, lt_T, lt_F, eq_T, eq_F, m1_lt, m1_le, lt_m1, le_m1, eq_m1, m1_eq, nI_add, nI_sub, nI_dec, nI_mul, nI_or, nI_and, nI_div, nI_mod, and_255, and_31, and_1, and_63, nI_shl, nI_shr, bI_F, bI_1, vp_T, cl_T, true_implies, false_implies, not_true_eq_false, not_false_eq_true, true_and, and_true, false_and, and_false, Bool.false_eq_true, Bool.true_eq_false, reduceCtorEq, implies_true, q_lc_eq, q_lc_ge, q_lc_gt, q_lc_le, lN_or, lN_and, lN_shl, lN_shr, nI_L, lN_I, l_0]
      exact ⟨_, _, _, row_app h' h1 x O, rfl, rfl, rfl⟩
  · have h2 := h.2.1
    have hd := rw_drop h
    have hl : (L.drop 1).length < 16 := by simp; omega
    refine ⟨upd (shd E 1 L.length) (L.drop 1).length (nI x), nI ((L.drop 1).length + 1), false, ⟨1, ?_⟩, ?_⟩
    rotate_left
    · rw [psh, if_neg h1]; exact rw_app hd hl x
    · have h' := h
      obtain ⟨rfl, h3, h4, h5⟩ := h
      simp (disch := omega) only [T_Visits_pushB, S_Visits_pushB, B_Visits_pushB_13, q_lit, le_T, le_F, lt_T, lt_F, eq_T, eq_F, m1_lt, m1_le, lt_m1, le_m1, eq_m1, m1_eq, nI_add, nI_sub, nI_dec, nI_mul, nI_or, nI_and, nI_div, nI_mod, and_255, and_31, and_1, and_63, nI_shl, nI_shr, bI_F, bI_1, vp_T, cl_T, true_implies, false_implies, not_true_eq_false, not_false_eq_true, true_and, and_true, false_and, and_false, Bool.false_eq_true, Bool.true_eq_false, reduceCtorEq, implies_true, q_lc_eq, q_lc_ge, q_lc_gt, q_lc_le, lN_or, lN_and, lN_shl, lN_shr, nI_L, lN_I, l_0]
      exact ⟨_, _, _, row_dropF h' (by omega) O, _, _, _, row_app hd hl x false, rfl, rfl, rfl⟩
theorem vi_pushF {E : Nat → Int32} {C : Int32} {L : List Nat} (h : Rw 16 E C L) (x : Nat) (O : Bool) : ∃ E' C' O', D_Visits_pushF 16 E C O (nI x) E' C' O' ∧ Rw 16 E' C' (psh L x) := by
  by_cases h1 : L.length < 16
  · refine ⟨upd E L.length (nI x), nI (L.length + 1), O, ⟨1, ?_⟩, ?_⟩
    rotate_left
    · rw [psh, if_pos h1]; exact rw_app h h1 x
    · have h' := h
      obtain ⟨rfl, h3, h4, h5⟩ := h
      simp (disch := omega) only [T_Visits_pushF, S_Visits_pushF, B_Visits_pushF_13, q_lit, le_T, le_F, lt_T, lt_F, eq_T, eq_F, m1_lt, m1_le, lt_m1, le_m1, eq_m1, m1_eq, nI_add, nI_sub, nI_dec, nI_mul, nI_or, nI_and, nI_div, nI_mod, and_255, and_31, and_1, and_63, nI_shl, nI_shr, bI_F, bI_1, vp_T, cl_T, true_implies, false_implies, not_true_eq_false, not_false_eq_true, true_and, and_true, false_and, and_false, Bool.false_eq_true, Bool.true_eq_false, reduceCtorEq, implies_true, q_lc_eq, q_lc_ge, q_lc_gt, q_lc_le, lN_or, lN_and, lN_shl, lN_shr, nI_L, lN_I, l_0]
      exact ⟨_, _, _, row_app h' h1 x O, rfl, rfl, rfl⟩
  · have h2 := h.2.1
    have hd := rw_drop h
    have hl : (L.drop 1).length < 16 := by simp; omega
    refine ⟨upd (shd E 1 L.length) (L.drop 1).length (nI x), nI ((L.drop 1).length + 1), false, ⟨1, ?_⟩, ?_⟩
    rotate_left
    · rw [psh, if_neg h1]; exact rw_app hd hl x
    · have h' := h
      obtain ⟨rfl, h3, h4, h5⟩ := h
      simp (disch := omega) only [T_Visits_pushF, S_Visits_pushF, B_Visits_pushF_13, q_lit, le_T, le_F, lt_T, lt_F, eq_T, eq_F, m1_lt, m1_le, lt_m1, le_m1, eq_m1, m1_eq, nI_add, nI_sub, nI_dec, nI_mul, nI_or, nI_and, nI_div, nI_mod, and_255, and_31, and_1, and_63, nI_shl, nI_shr, bI_F, bI_1, vp_T, cl_T, true_implies, false_implies, not_true_eq_false, not_false_eq_true, true_and, and_true, false_and, and_false, Bool.false_eq_true, Bool.true_eq_false, reduceCtorEq, implies_true, q_lc_eq, q_lc_ge, q_lc_gt, q_lc_le, lN_or, lN_and, lN_shl, lN_shr, nI_L, lN_I, l_0]
      exact ⟨_, _, _, row_dropF h' (by omega) O, _, _, _, row_app hd hl x false, rfl, rfl, rfl⟩
theorem vi_pop {n : Nat} {E : Nat → Int32} {C : Int32} {L : List Nat} (h : Rw n E C L) (h0 : 0 < L.length) (O : Bool) : D_Visits_pop n E C O (nI (L.getD (L.length - 1) 0)) (nI (L.length - 1)) false ∧ Rw n E (nI (L.length - 1)) (L.take (L.length - 1)) := by
  refine ⟨?_, rw_take h (by omega)⟩
  have h' := h
  obtain ⟨rfl, h3, h4, h5⟩ := h
  simp (disch := omega) only [D_Visits_pop, q_lit, le_T, le_F, lt_T, lt_F, eq_T, eq_F, m1_lt, m1_le, lt_m1, le_m1, eq_m1, m1_eq, nI_add, nI_sub, nI_dec, nI_mul, nI_or, nI_and, nI_div, nI_mod, and_255, and_31, and_1, and_63, nI_shl, nI_shr, bI_F, bI_1, vp_T, cl_T, true_implies, false_implies, not_true_eq_false, not_false_eq_true, true_and, and_true, false_and, and_false, Bool.false_eq_true, Bool.true_eq_false, reduceCtorEq, implies_true]
  exact ⟨_, row_el h' (by omega), _, _, row_cut h' (by omega) O, rfl, rfl, rfl⟩
theorem vi_visit {BE : Nat → Int32} {BC : Int32} {Bk : List Nat} (h : Rw 16 BE BC Bk) {FE : Nat → Int32} {FC : Int32} {Fw : List Nat} (hf : Rw 16 FE FC Fw) (BO FO : Bool) (t k : Nat) :
    ∃ BE' BC' BO', D_Visits_visit 16 (nI k) BE BC BO FC FO (nI t) BE' BC' BO' (nI 0) false (nI k) ∧ Rw 16 BE' BC' (psh Bk t) := by
  obtain ⟨E', C', O', h1, h2⟩ := vi_pushB h t BO
  exact ⟨E', C', O', ⟨_, _, _, h1, _, _, row_clr hf FO, rfl, rfl, rfl, rfl, rfl, rfl⟩, h2⟩
theorem t_drop_back (k : Nat) (hk : k ≤ 15) (E : Nat → Int32) : ∃ m, T_Model_drop_back (shd E (k + 1) 16) m (nI k) E := by
  by_cases h : k < 15
  · obtain ⟨m, hm⟩ := t_drop_back (k + 1) (by omega) (upd E k (E (k + 1)))
    rw [show upd E k (E (k + 1)) = upd E (k + 1 - 1) (E (k + 1)) by rw [Nat.add_sub_cancel], shd_step (by omega) (by omega)] at hm
    refine ⟨m + 1, ?_⟩
    simp (disch := omega) only [T_Model_drop_back, S_Model_drop_back, B_Model_drop_back_2, q_lit, le_T, le_F, lt_T, lt_F, eq_T, eq_F, m1_lt, m1_le, lt_m1, le_m1, eq_m1, m1_eq, nI_add, nI_sub, nI_dec, nI_mul, nI_or, nI_and, nI_div, nI_mod, and_255, and_31, and_1, and_63, nI_shl, nI_shr, bI_F, bI_1, vp_T, cl_T, true_implies, false_implies, not_true_eq_false, not_false_eq_true, true_and, and_true, false_and, and_false, Bool.false_eq_true, Bool.true_eq_false, reduceCtorEq, implies_true, q_lc_eq, q_lc_ge, q_lc_gt, q_lc_le, lN_or, lN_and, lN_shl, lN_shr, nI_L, lN_I, l_0]
    simpa using hm
  · refine ⟨1, ?_⟩
    rw [shd_end (by omega)]
    simp (disch := omega) only [T_Model_drop_back, S_Model_drop_back, B_Model_drop_back_2, q_lit, le_T, le_F, lt_T, lt_F, eq_T, eq_F, m1_lt, m1_le, lt_m1, le_m1, eq_m1, m1_eq, nI_add, nI_sub, nI_dec, nI_mul, nI_or, nI_and, nI_div, nI_mod, and_255, and_31, and_1, and_63, nI_shl, nI_shr, bI_F, bI_1, vp_T, cl_T, true_implies, false_implies, not_true_eq_false, not_false_eq_true, true_and, and_true, false_and, and_false, Bool.false_eq_true, Bool.true_eq_false, reduceCtorEq, implies_true, q_lc_eq, q_lc_ge, q_lc_gt, q_lc_le, lN_or, lN_and, lN_shl, lN_shr, nI_L, lN_I, l_0]
termination_by 15 - k
decreasing_by all_goals omega
theorem mo_pushBack {E : Nat → Int32} {C : Int32} {L : List Nat} (h : Rw 16 E C L) (x : Nat) : ∃ E' C', D_Model_pushBack (nI x) C E C' E' ∧ Rw 16 E' C' (psh L x) := by
  by_cases h1 : L.length < 16
  · refine ⟨upd E L.length (nI x), nI (L.length + 1), ⟨1, ?_⟩, ?_⟩
    rotate_left
    · rw [psh, if_pos h1]; exact rw_app h h1 x
    · have h' := h
      obtain ⟨rfl, h3, h4, h5⟩ := h
      simp (disch := omega) only [T_Model_pushBack, S_Model_pushBack, B_Model_pushBack_26, q_lit, le_T, le_F, lt_T, lt_F, eq_T, eq_F, m1_lt, m1_le, lt_m1, le_m1, eq_m1, m1_eq, nI_add, nI_sub, nI_dec, nI_mul, nI_or, nI_and, nI_div, nI_mod, and_255, and_31, and_1, and_63, nI_shl, nI_shr, bI_F, bI_1, vp_T, cl_T, true_implies, false_implies, not_true_eq_false, not_false_eq_true, true_and, and_true, false_and, and_false, Bool.false_eq_true, Bool.true_eq_false, reduceCtorEq, implies_true, q_lc_eq, q_lc_ge, q_lc_gt, q_lc_le, lN_or, lN_and, lN_shl, lN_shr, nI_L, lN_I, l_0]
  · have h2 := h.2.1
    have hd := rw_drop h
    have e16 : L.length = 16 := by omega
    have hl : (L.drop 1).length = 15 := by simp; omega
    have ha := rw_app hd (by omega) x
    rw [hl, e16] at ha
    obtain ⟨m, hm⟩ := t_drop_back 0 (by omega) E
    refine ⟨upd (shd E 1 16) 15 (nI x), nI (15 + 1), ⟨1, ?_⟩, ?_⟩
    rotate_left
    · rw [psh, if_neg h1]; exact ha
    · have h' := h
      obtain ⟨rfl, h3, h4, h5⟩ := h
      rw [e16]
      simp (disch := omega) only [T_Model_pushBack, S_Model_pushBack, B_Model_pushBack_26, q_lit, le_T, le_F, lt_T, lt_F, eq_T, eq_F, m1_lt, m1_le, lt_m1, le_m1, eq_m1, m1_eq, nI_add, nI_sub, nI_dec, nI_mul, nI_or, nI_and, nI_div, nI_mod, and_255, and_31, and_1, and_63, nI_shl, nI_shr, bI_F, bI_1, vp_T, cl_T, true_implies, false_implies, not_true_eq_false, not_false_eq_true, true_and, and_true, false_and, and_false, Bool.false_eq_true, Bool.true_eq_false, reduceCtorEq, implies_true, q_lc_eq, q_lc_ge, q_lc_gt, q_lc_le, lN_or, lN_and, lN_shl, lN_shr, nI_L, lN_I, l_0]
      exact ⟨shd E 1 16, ⟨m, by simpa [q_lit] using hm⟩, rfl⟩
theorem t_drop_forward (k : Nat) (hk : k ≤ 15) (E : Nat → Int32) : ∃ m, T_Model_drop_forward (shd E (k + 1) 16) m (nI k) E := by
  by_cases h : k < 15
  · obtain ⟨m, hm⟩ := t_drop_forward (k + 1) (by omega) (upd E k (E (k + 1)))
    rw [show upd E k (E (k + 1)) = upd E (k + 1 - 1) (E (k + 1)) by rw [Nat.add_sub_cancel], shd_step (by omega) (by omega)] at hm
    refine ⟨m + 1, ?_⟩
    simp (disch := omega) only [T_Model_drop_forward, S_Model_drop_forward, B_Model_drop_forward_2, q_lit, le_T, le_F, lt_T, lt_F, eq_T, eq_F, m1_lt, m1_le, lt_m1, le_m1, eq_m1, m1_eq, nI_add, nI_sub, nI_dec, nI_mul, nI_or, nI_and, nI_div, nI_mod, and_255, and_31, and_1, and_63, nI_shl, nI_shr, bI_F, bI_1, vp_T, cl_T, true_implies, false_implies, not_true_eq_false, not_false_eq_true, true_and, and_true, false_and, and_false, Bool.false_eq_true, Bool.true_eq_false, reduceCtorEq, implies_true, q_lc_eq, q_lc_ge, q_lc_gt, q_lc_le, lN_or, lN_and, lN_shl, lN_shr, nI_L, lN_I, l_0]
    simpa using hm
  · refine ⟨1, ?_⟩
    rw [shd_end (by omega)]
    simp (disch := omega) only [T_Model_drop_forward, S_Model_drop_forward, B_Model_drop_forward_2, q_lit, le_T, le_F, lt_T, lt_F, eq_T, eq_F, m1_lt, m1_le, lt_m1, le_m1, eq_m1, m1_eq, nI_add, nI_sub, nI_dec, nI_mul, nI_or, nI_and, nI_div, nI_mod, and_255, and_31, and_1, and_63, nI_shl, nI_shr, bI_F, bI_1, vp_T, cl_T, true_implies, false_implies, not_true_eq_false, not_false_eq_true, true_and, and_true, false_and, and_false, Bool.false_eq_true, Bool.true_eq_false, reduceCtorEq, implies_true, q_lc_eq, q_lc_ge, q_lc_gt, q_lc_le, lN_or, lN_and, lN_shl, lN_shr, nI_L, lN_I, l_0]
termination_by 15 - k
decreasing_by all_goals omega
theorem mo_pushForward {E : Nat → Int32} {C : Int32} {L : List Nat} (h : Rw 16 E C L) (x : Nat) : ∃ E' C', D_Model_pushForward (nI x) C E C' E' ∧ Rw 16 E' C' (psh L x) := by
  by_cases h1 : L.length < 16
  · refine ⟨upd E L.length (nI x), nI (L.length + 1), ⟨1, ?_⟩, ?_⟩
    rotate_left
    · rw [psh, if_pos h1]; exact rw_app h h1 x
    · have h' := h
      obtain ⟨rfl, h3, h4, h5⟩ := h
      simp (disch := omega) only [T_Model_pushForward, S_Model_pushForward, B_Model_pushForward_26, q_lit, le_T, le_F, lt_T, lt_F, eq_T, eq_F, m1_lt, m1_le, lt_m1, le_m1, eq_m1, m1_eq, nI_add, nI_sub, nI_dec, nI_mul, nI_or, nI_and, nI_div, nI_mod, and_255, and_31, and_1, and_63, nI_shl, nI_shr, bI_F, bI_1, vp_T, cl_T, true_implies, false_implies, not_true_eq_false, not_false_eq_true, true_and, and_true, false_and, and_false, Bool.false_eq_true, Bool.true_eq_false, reduceCtorEq, implies_true, q_lc_eq, q_lc_ge, q_lc_gt, q_lc_le, lN_or, lN_and, lN_shl, lN_shr, nI_L, lN_I, l_0]
  · have h2 := h.2.1
    have hd := rw_drop h
    have e16 : L.length = 16 := by omega
    have hl : (L.drop 1).length = 15 := by simp; omega
    have ha := rw_app hd (by omega) x
    rw [hl, e16] at ha
    obtain ⟨m, hm⟩ := t_drop_forward 0 (by omega) E
    refine ⟨upd (shd E 1 16) 15 (nI x), nI (15 + 1), ⟨1, ?_⟩, ?_⟩
    rotate_left
    · rw [psh, if_neg h1]; exact ha
    · have h' := h
      obtain ⟨rfl, h3, h4, h5⟩ := h
      rw [e16]
      simp (disch := omega) only [T_Model_pushForward, S_Model_pushForward, B_Model_pushForward_26, q_lit, le_T, le_F, lt_T, lt_F, eq_T, eq_F, m1_lt, m1_le, lt_m1, le_m1, eq_m1, m1_eq, nI_add, nI_sub, nI_dec, nI_mul, nI_or, nI_and, nI_div, nI_mod, and_255, and_31, and_1, and_63, nI_shl, nI_shr, bI_F, bI_1, vp_T, cl_T, true_implies, false_implies, not_true_eq_false, not_false_eq_true, true_and, and_true, false_and, and_false, Bool.false_eq_true, Bool.true_eq_false, reduceCtorEq, implies_true, q_lc_eq, q_lc_ge, q_lc_gt, q_lc_le, lN_or, lN_and, lN_shl, lN_shr, nI_L, lN_I, l_0]
      exact ⟨shd E 1 16, ⟨m, by simpa [q_lit] using hm⟩, rfl⟩
theorem mo_visit {E : Nat → Int32} {C : Int32} {L : List Nat} (h : Rw 16 E C L) (t : Nat) (FC : Int32) (k : Nat) : ∃ E' C', D_Model_visit (nI k) (nI t) C E FC (nI k) C' E' (nI 0) ∧ Rw 16 E' C' (psh L t) := by
  obtain ⟨E', C', h1, h2⟩ := mo_pushBack h t
  exact ⟨E', C', ⟨_, _, h1, rfl, rfl, rfl, rfl⟩, h2⟩
theorem psh_lt {L : List Nat} {x n : Nat} (h : ∀ i ∈ L, i < n) (hx : x < n) : ∀ i ∈ psh L x, i < n := by
  intro i hi
  unfold psh at hi
  simp only [List.mem_append, List.mem_singleton] at hi
  rcases hi with hi | hi
  · split at hi
    · exact h i hi
    · exact h i (List.mem_of_mem_drop hi)
  · omega
