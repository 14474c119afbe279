/-! Pure: lines on a screen, on both sides. -/
def q_SC (SE : Nat → Int32) (SN : Int32) (A : Nat → Int32) (Ls : Int32) (ln : List (List Nat)) : Prop := Rw 1024 SE SN ln.flatten ∧ Ls = nI ln.length ∧ ln.length ≤ 256 ∧ ∀ i, i < ln.length → A i = nI (q_off ln i)
def q_SM (Ls : Int32) (Fr Sz : Nat → Int32) (Sh : Int32) (Tx : Nat → Int32) (ln : List (List Nat)) : Prop := Rw 3000 Tx Sh ln.flatten ∧ Ls = nI ln.length ∧ ln.length ≤ 1400 ∧ ∀ i, i < ln.length → Fr i = nI (q_off ln i) ∧ Sz i = nI (bd ln i).length
theorem off_app {d : List (List Nat)} {e : List (List Nat)} {i : Nat} (h : i ≤ d.length) : q_off (d ++ e) i = q_off d i := by
  unfold q_off
  rw [List.take_append_of_le_length h]
theorem off_last (d : List (List Nat)) (e : List (List Nat)) : q_off (d ++ e) d.length = d.flatten.length := by
  rw [off_app (Nat.le_refl _), off_all]
theorem bd_app {d : List (List Nat)} {e : List (List Nat)} {i : Nat} (h : i < d.length) : bd (d ++ e) i = bd d i := by
  simp only [bd, List.getD_eq_getElem?_getD, List.getElem?_append_left h]
theorem bd_last (d : List (List Nat)) (c : List Nat) : bd (d ++ [c]) d.length = c := by
  simp [bd]
theorem flat_snoc (d : List (List Nat)) (c : List Nat) : (d ++ [c]).flatten = d.flatten ++ c := by simp
theorem sc_line {SE : Nat → Int32} {SN : Int32} {A : Nat → Int32} {Ls : Int32} {ln : List (List Nat)} (h : q_SC SE SN A Ls ln) (hl : ln.length < 256) :
    D_Screen_beginLine SN A Ls (upd A ln.length (nI ln.flatten.length)) (nI (ln.length + 1)) ∧ q_SC SE SN (upd A ln.length (nI ln.flatten.length)) (nI (ln.length + 1)) (ln ++ [[]]) := by
  obtain ⟨h1, rfl, h3, h4⟩ := h
  refine ⟨?_, by simpa using h1, by simp, by simp; omega, fun i hi => ?_⟩
  · rw [h1.1]; simp (disch := omega) only [D_Screen_beginLine, q_lit, le_T, le_F, lt_T, lt_F, eq_T, eq_F, m1_lt, m1_le, lt_m1, le_m1, eq_m1, m1_eq, nI_add, nI_sub, nI_dec, nI_mul, nI_or, nI_and, nI_div, nI_mod, and_255, and_31, and_1, and_63, nI_shl, nI_shr, bI_F, bI_1, vp_T, cl_T, true_implies, false_implies, not_true_eq_false, not_false_eq_true, true_and, and_true, false_and, and_false, Bool.false_eq_true, Bool.true_eq_false, reduceCtorEq, implies_true]
  · simp only [List.length_append, List.length_cons, List.length_nil] at hi
    by_cases h5 : i = ln.length
    · subst h5; rw [upd_eq, off_last]
    · rw [upd_ne (by omega), off_app (by omega)]; exact h4 i (by omega)
theorem sc_len {SE : Nat → Int32} {SN : Int32} {A : Nat → Int32} {Ls : Int32} {d : List (List Nat)} {c : List Nat} (h : q_SC SE SN A Ls (d ++ [c])) : D_Screen_lineLength SN A Ls (nI c.length) := by
  obtain ⟨h1, rfl, h3, h4⟩ := h
  have e := h4 d.length (by simp)
  rw [off_last] at e
  have h5 := h1.2.1
  have h6 := h1.1
  simp only [flat_snoc, List.length_append, List.length_cons, List.length_nil] at h3 h5 h6 ⊢
  rw [h6]
  simp (disch := omega) only [D_Screen_lineLength, Nat.zero_add, Nat.add_sub_cancel, e, q_lit, le_T, le_F, lt_T, lt_F, eq_T, eq_F, m1_lt, m1_le, lt_m1, le_m1, eq_m1, m1_eq, nI_add, nI_sub, nI_dec, nI_mul, nI_or, nI_and, nI_div, nI_mod, and_255, and_31, and_1, and_63, nI_shl, nI_shr, bI_F, bI_1, vp_T, cl_T, true_implies, false_implies, not_true_eq_false, not_false_eq_true, true_and, and_true, false_and, and_false, Bool.false_eq_true, Bool.true_eq_false, reduceCtorEq, implies_true]
theorem sc_sign {SE : Nat → Int32} {SN : Int32} {A : Nat → Int32} {Ls : Int32} {d : List (List Nat)} {c : List Nat} (h : q_SC SE SN A Ls (d ++ [c])) (hl : (d ++ [c]).flatten.length < 1024) (x : Nat) : q_SC (upd SE (d ++ [c]).flatten.length (nI x)) (nI ((d ++ [c]).flatten.length + 1)) A Ls (d ++ [c ++ [x]]) := by
  obtain ⟨h1, rfl, h3, h4⟩ := h
  refine ⟨?_, by simp, by simpa using h3, fun i hi => ?_⟩
  · have := rw_app h1 hl x
    simpa using this
  · have := h4 i (by simpa using hi)
    simp only [List.length_append, List.length_cons, List.length_nil] at hi
    rw [this, off_app (by omega), off_app (by omega)]
theorem sm_line {Ls : Int32} {Fr Sz : Nat → Int32} {Sh : Int32} {Tx : Nat → Int32} {ln : List (List Nat)} (h : q_SM Ls Fr Sz Sh Tx ln) (hl : ln.length < 1400) :
    ∃ Fr' Sz', D_Model_newLine Ls Fr Sz Sh (nI (ln.length + 1)) Fr' Sz' ∧ q_SM (nI (ln.length + 1)) Fr' Sz' Sh Tx (ln ++ [[]]) := by
  obtain ⟨h1, rfl, h3, h4⟩ := h
  refine ⟨upd Fr ln.length Sh, upd Sz ln.length (nI 0), ?_, by simpa using h1, by simp, by simp; omega, fun i hi => ?_⟩
  · simp (disch := omega) only [D_Model_newLine, q_lit, le_T, le_F, lt_T, lt_F, eq_T, eq_F, m1_lt, m1_le, lt_m1, le_m1, eq_m1, m1_eq, nI_add, nI_sub, nI_dec, nI_mul, nI_or, nI_and, nI_div, nI_mod, and_255, and_31, and_1, and_63, nI_shl, nI_shr, bI_F, bI_1, vp_T, cl_T, true_implies, false_implies, not_true_eq_false, not_false_eq_true, true_and, and_true, false_and, and_false, Bool.false_eq_true, Bool.true_eq_false, reduceCtorEq, implies_true]
  · simp only [List.length_append, List.length_cons, List.length_nil] at hi
    by_cases h5 : i = ln.length
    · subst h5; rw [upd_eq, upd_eq, off_last, bd_last]; exact ⟨h1.1, rfl⟩
    · rw [upd_ne (by omega), upd_ne (by omega), off_app (by omega), bd_app (by omega)]; exact h4 i (by omega)
theorem sm_sign {Ls : Int32} {Fr Sz : Nat → Int32} {Sh : Int32} {Tx : Nat → Int32} {d : List (List Nat)} {c : List Nat} (h : q_SM Ls Fr Sz Sh Tx (d ++ [c])) (hl : (d ++ [c]).flatten.length < 3000) (x : Nat) :
    ∃ Sz' Sh' Tx', D_Model_showSign (nI x) Ls Sz Sh Tx Sz' Sh' Tx' ∧ q_SM Ls Fr Sz' Sh' Tx' (d ++ [c ++ [x]]) := by
  obtain ⟨h1, rfl, h3, h4⟩ := h
  have e := (h4 d.length (by simp)).2
  rw [bd_last] at e
  have h5 := h1.2.1
  have h6 := h1.1
  have h7 := rw_app h1 hl x
  refine ⟨upd Sz d.length (nI (c.length + 1)), nI ((d ++ [c]).flatten.length + 1), upd Tx (d ++ [c]).flatten.length (nI x), ?_, ?_, by simp, by simpa using h3, fun i hi => ?_⟩
  rotate_left
  · simp only [flat_snoc] at h7 ⊢
    rw [← List.append_assoc]; exact h7
  · have h8 := h4 i (by simpa using hi)
    simp only [List.length_append, List.length_cons, List.length_nil] at hi
    rw [off_app (by omega)] at h8 ⊢
    refine ⟨h8.1, ?_⟩
    by_cases h9 : i = d.length
    · subst h9; rw [upd_eq, bd_last]; simp
    · rw [upd_ne (by omega), bd_app (by omega)]
      rw [bd_app (by omega)] at h8
      exact h8.2
  · simp only [flat_snoc, List.length_append, List.length_cons, List.length_nil] at h3 h5 h6 hl ⊢
    rw [h6]
    simp (disch := omega) only [D_Model_showSign, Nat.zero_add, Nat.add_sub_cancel, e, q_lit, le_T, le_F, lt_T, lt_F, eq_T, eq_F, m1_lt, m1_le, lt_m1, le_m1, eq_m1, m1_eq, nI_add, nI_sub, nI_dec, nI_mul, nI_or, nI_and, nI_div, nI_mod, and_255, and_31, and_1, and_63, nI_shl, nI_shr, bI_F, bI_1, vp_T, cl_T, true_implies, false_implies, not_true_eq_false, not_false_eq_true, true_and, and_true, false_and, and_false, Bool.false_eq_true, Bool.true_eq_false, reduceCtorEq, implies_true]
theorem sm_size {Ls : Int32} {Fr Sz : Nat → Int32} {Sh : Int32} {Tx : Nat → Int32} {d : List (List Nat)} {c : List Nat} (h : q_SM Ls Fr Sz Sh Tx (d ++ [c])) : Ls = nI (d.length + 1) ∧ d.length + 1 ≤ 1400 ∧ Sz d.length = nI c.length := by
  have e := (h.2.2.2 d.length (by simp)).2
  rw [bd_last] at e
  exact ⟨by rw [h.2.1]; simp, by have := h.2.2.1; simpa using this, e⟩
/-- signs laid one after another: the lines before, and the last one -/
def lay1 (w : Nat) (s : List (List Nat) × List Nat) (x : Nat) : List (List Nat) × List Nat := if s.2.length < w then (s.1, s.2 ++ [x]) else (s.1 ++ [s.2], [x])
def layA (w : Nat) (s : List (List Nat) × List Nat) (pt : List Nat) : List (List Nat) × List Nat := pt.foldl (lay1 w) s
theorem lay1_flat (w : Nat) (s : List (List Nat) × List Nat) (x : Nat) : ((lay1 w s x).1 ++ [(lay1 w s x).2]).flatten = (s.1 ++ [s.2]).flatten ++ [x] := by
  unfold lay1; split <;> simp
theorem layA_flat (w : Nat) (pt : List Nat) (s : List (List Nat) × List Nat) : ((layA w s pt).1 ++ [(layA w s pt).2]).flatten = (s.1 ++ [s.2]).flatten ++ pt := by
  induction pt generalizing s with
  | nil => simp [layA]
  | cons x r ih =>
    have := ih (lay1 w s x)
    rw [lay1_flat] at this
    simpa [layA] using this
/-- how many lines are begun, where a line holds four signs at least -/
theorem layA_len {w : Nat} (hw : 4 ≤ w) (pt : List Nat) (s : List (List Nat) × List Nat) (hc : s.2.length ≤ w) : 4 * (layA w s pt).1.length + (layA w s pt).2.length ≤ 4 * s.1.length + s.2.length + pt.length ∧ (layA w s pt).2.length ≤ w ∧ (pt ≠ [] → 0 < (layA w s pt).2.length) ∧ s.1.length ≤ (layA w s pt).1.length := by
  induction pt generalizing s with
  | nil => simp [layA]; exact hc
  | cons x r ih =>
    have h1 : (lay1 w s x).2.length ≤ w ∧ 0 < (lay1 w s x).2.length ∧ 4 * (lay1 w s x).1.length + (lay1 w s x).2.length ≤ 4 * s.1.length + s.2.length + 1 ∧ s.1.length ≤ (lay1 w s x).1.length := by
      unfold lay1
      split <;> simp <;> omega
    have h2 := ih (lay1 w s x) h1.1
    simp only [layA, List.foldl_cons, List.length_cons] at h2 ⊢
    refine ⟨by omega, h2.2.1, fun _ => ?_, by omega⟩
    cases r with
    | nil => simpa using h1.2.1
    | cons y r => exact h2.2.2.1 (by simp)
theorem layA_fit {w : Nat} (pt : List Nat) (s : List (List Nat) × List Nat) (hc : s.2.length + pt.length ≤ w) : layA w s pt = (s.1, s.2 ++ pt) := by
  induction pt generalizing s with
  | nil => simp [layA]
  | cons x r ih =>
    simp only [List.length_cons] at hc
    have e : lay1 w s x = (s.1, s.2 ++ [x]) := by unfold lay1; rw [if_pos (by omega)]
    simp only [layA, List.foldl_cons, e] at ih ⊢
    have := ih (s.1, s.2 ++ [x]) (by simp; omega)
    rw [this]; simp
theorem t_layP {SE : Nat → Int32} {PE : Nat → Int32} {PC : Int32} {pt : List Nat} (hP : Rw 1024 PE PC pt) {w : Nat} (hw : 4 ≤ w) (hw2 : w ≤ 40) (PO : Bool) (k : Nat) (hk : k ≤ pt.length) (SE : Nat → Int32) (SN : Int32) (SO : Bool) (A : Nat → Int32) (Ls : Int32) (s : List (List Nat) × List Nat) (hS : q_SC SE SN A Ls (s.1 ++ [s.2])) (hc : s.2.length ≤ w) (hsg : (s.1 ++ [s.2]).flatten.length + (pt.length - k) ≤ 1024) (hln : (layA w s (pt.drop k)).1.length ≤ 255) :
    ∃ SE' SN' A' Ls', (∃ m, T_Screen_layPart 1024 1024 PE (nI w) SE' SN' SO (nI 0) false A' Ls' m 2 (nI k) SE SN SO PC PO A Ls) ∧ q_SC SE' SN' A' Ls' ((layA w s (pt.drop k)).1 ++ [(layA w s (pt.drop k)).2]) := by
  have hP' := hP
  obtain ⟨rfl, p1, p2, p3⟩ := hP
  by_cases h : k < pt.length
  · rw [drop_s h] at hln ⊢
    by_cases h1 : s.2.length < w
    · have e : lay1 w s (pt.getD k 0) = (s.1, s.2 ++ [pt.getD k 0]) := by unfold lay1; rw [if_pos h1]
      have hs := sc_sign hS (by omega) (pt.getD k 0)
      obtain ⟨SE', SN', A', Ls', ⟨m, hm⟩, h3⟩ := t_layP (SE := SE) hP' hw hw2 PO (k + 1) h _ _ SO A Ls (s.1, s.2 ++ [pt.getD k 0]) hs (by simp; omega) (by simp only [flat_snoc, List.length_append, List.length_cons, List.length_nil] at hsg ⊢; omega) (by simpa only [layA, List.foldl_cons, e] using hln)
      refine ⟨SE', SN', A', Ls', ⟨m + 2, ?_⟩, by simpa only [layA, List.foldl_cons, e] using h3⟩
      simp (disch := omega) only [T_Screen_layPart, S_Screen_layPart, B_Screen_layPart_64, B_Screen_layPart_90, q_lit, le_T, le_F, lt_T, lt_F, eq_T, eq_F, m1_lt, m1_le, lt_m1, le_m1, eq_m1, m1_eq, nI_add, nI_sub, nI_dec, nI_mul, nI_or, nI_and, nI_div, nI_mod, and_255, and_31, and_1, and_63, nI_shl, nI_shr, bI_F, bI_1, vp_T, cl_T, true_implies, false_implies, not_true_eq_false, not_false_eq_true, true_and, and_true, false_and, and_false, Bool.false_eq_true, Bool.true_eq_false, reduceCtorEq, implies_true, q_lc_eq, q_lc_ge, q_lc_gt, q_lc_le, lN_or, lN_and, lN_shl, lN_shr, nI_L, lN_I, l_0]
      refine ⟨_, sc_len hS, ?_⟩
      simp (disch := omega) only [q_lit, le_T, le_F, lt_T, lt_F, eq_T, eq_F, m1_lt, m1_le, lt_m1, le_m1, eq_m1, m1_eq, nI_add, nI_sub, nI_dec, nI_mul, nI_or, nI_and, nI_div, nI_mod, and_255, and_31, and_1, and_63, nI_shl, nI_shr, bI_F, bI_1, vp_T, cl_T, true_implies, false_implies, not_true_eq_false, not_false_eq_true, true_and, and_true, false_and, and_false, Bool.false_eq_true, Bool.true_eq_false, reduceCtorEq, implies_true]
      exact ⟨_, row_el hP' (by omega), _, _, _, row_app hS.1 (by omega) _ SO, hm⟩
    · have e : lay1 w s (pt.getD k 0) = (s.1 ++ [s.2], [pt.getD k 0]) := by unfold lay1; rw [if_neg h1]
      have hln2 : (layA w (s.1 ++ [s.2], [pt.getD k 0]) (pt.drop (k + 1))).1.length ≤ 255 := by simpa only [layA, List.foldl_cons, e] using hln
      have hmo := (layA_len hw (pt.drop (k + 1)) (s.1 ++ [s.2], [pt.getD k 0]) (by simp; omega)).2.2.2
      simp only [List.length_append, List.length_cons, List.length_nil] at hmo
      have hl := sc_line hS (by simp; omega)
      have hl2 : q_SC SE SN (upd A (s.1 ++ [s.2]).length (nI (s.1 ++ [s.2]).flatten.length)) (nI ((s.1 ++ [s.2]).length + 1)) ((s.1 ++ [s.2]) ++ [[]]) := hl.2
      have hs := sc_sign hl2 (by simp only [flat_snoc, List.append_nil] at hsg ⊢; omega) (pt.getD k 0)
      obtain ⟨SE', SN', A', Ls', ⟨m, hm⟩, h3⟩ := t_layP (SE := SE) hP' hw hw2 PO (k + 1) h _ _ SO _ _ (s.1 ++ [s.2], [pt.getD k 0]) hs (by simp; omega) (by simp only [flat_snoc, List.length_append, List.length_cons, List.length_nil] at hsg ⊢; omega) hln2
      refine ⟨SE', SN', A', Ls', ⟨m + 2, ?_⟩, by simpa only [layA, List.foldl_cons, e] using h3⟩
      simp (disch := omega) only [T_Screen_layPart, S_Screen_layPart, B_Screen_layPart_64, B_Screen_layPart_90, q_lit, le_T, le_F, lt_T, lt_F, eq_T, eq_F, m1_lt, m1_le, lt_m1, le_m1, eq_m1, m1_eq, nI_add, nI_sub, nI_dec, nI_mul, nI_or, nI_and, nI_div, nI_mod, and_255, and_31, and_1, and_63, nI_shl, nI_shr, bI_F, bI_1, vp_T, cl_T, true_implies, false_implies, not_true_eq_false, not_false_eq_true, true_and, and_true, false_and, and_false, Bool.false_eq_true, Bool.true_eq_false, reduceCtorEq, implies_true, q_lc_eq, q_lc_ge, q_lc_gt, q_lc_le, lN_or, lN_and, lN_shl, lN_shr, nI_L, lN_I, l_0]
      refine ⟨_, sc_len hS, ?_⟩
      simp (disch := omega) only [q_lit, le_T, le_F, lt_T, lt_F, eq_T, eq_F, m1_lt, m1_le, lt_m1, le_m1, eq_m1, m1_eq, nI_add, nI_sub, nI_dec, nI_mul, nI_or, nI_and, nI_div, nI_mod, and_255, and_31, and_1, and_63, nI_shl, nI_shr, bI_F, bI_1, vp_T, cl_T, true_implies, false_implies, not_true_eq_false, not_false_eq_true, true_and, and_true, false_and, and_false, Bool.false_eq_true, Bool.true_eq_false, reduceCtorEq, implies_true]
      exact ⟨_, _, hl.1, _, row_el hP' (by omega), _, _, _, row_app hl2.1 (by simp only [flat_snoc, List.append_nil] at hsg ⊢; omega) _ SO, hm⟩
  · refine ⟨SE, SN, A, Ls, ⟨1, ?_⟩, by rw [List.drop_eq_nil_of_le (by omega)]; exact hS⟩
    simp (disch := omega) only [T_Screen_layPart, S_Screen_layPart, B_Screen_layPart_64, q_lit, le_T, le_F, lt_T, lt_F, eq_T, eq_F, m1_lt, m1_le, lt_m1, le_m1, eq_m1, m1_eq, nI_add, nI_sub, nI_dec, nI_mul, nI_or, nI_and, nI_div, nI_mod, and_255, and_31, and_1, and_63, nI_shl, nI_shr, bI_F, bI_1, vp_T, cl_T, true_implies, false_implies, not_true_eq_false, not_false_eq_true, true_and, and_true, false_and, and_false, Bool.false_eq_true, Bool.true_eq_false, reduceCtorEq, implies_true, q_lc_eq, q_lc_ge, q_lc_gt, q_lc_le, lN_or, lN_and, lN_shl, lN_shr, nI_L, lN_I, l_0]
    exact ⟨_, _, row_clr hP' PO, rfl, rfl⟩
termination_by pt.length - k
decreasing_by all_goals omega
