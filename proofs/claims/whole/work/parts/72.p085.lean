/-! Pure: a part is laid, on both sides. -/
/-- a part laid behind what stands: the lines before, and the last one -/
def layP (w : Nat) (d : List (List Nat)) (c pt : List Nat) : List (List Nat) × List Nat := if c = [] then layA w (d, []) pt else if w < c.length + 1 + pt.length then layA w (d ++ [c], []) pt else layA w (d, c ++ [32]) pt
theorem layP_flat (w : Nat) (d : List (List Nat)) (c pt : List Nat) : ((layP w d c pt).1 ++ [(layP w d c pt).2]).flatten.length ≤ (d ++ [c]).flatten.length + pt.length + 1 := by
  unfold layP
  split
  · rename_i h; subst h; rw [layA_flat]; simp
  · split
    · rw [layA_flat]; simp; omega
    · rw [layA_flat]; simp; omega
theorem layP_len {w : Nat} (hw : 4 ≤ w) (d : List (List Nat)) (c pt : List Nat) (hpt : pt ≠ []) (hc : c.length ≤ w) : (layP w d c pt).1.length ≤ d.length + (pt.length - 1) / 4 + (if c = [] then 0 else 1) ∧ 0 < (layP w d c pt).2.length ∧ (layP w d c pt).2.length ≤ w := by
  have hp : 0 < pt.length := List.length_pos_iff.mpr hpt
  unfold layP
  split
  · have := layA_len hw pt (d, []) (by simp)
    have h2 := this.2.2.1 hpt
    simp only [List.length_nil] at this
    exact ⟨by omega, h2, this.2.1⟩
  · split
    · have := layA_len hw pt (d ++ [c], []) (by simp)
      have h2 := this.2.2.1 hpt
      simp only [List.length_nil, List.length_append, List.length_cons] at this
      exact ⟨by omega, h2, this.2.1⟩
    · rename_i h1 h2
      rw [layA_fit pt (d, c ++ [32]) (by simp; omega)]
      simp; omega
theorem sc_layP {PE : Nat → Int32} {PC : Int32} {pt : List Nat} (hP : Rw 1024 PE PC pt) (hpt : pt ≠ []) {w : Nat} (hw : 4 ≤ w) (hw2 : w ≤ 40) (PO : Bool) {SE : Nat → Int32} {SN : Int32} (SO : Bool) {A : Nat → Int32} {Ls : Int32} {d : List (List Nat)} {c : List Nat} (hS : q_SC SE SN A Ls (d ++ [c])) (hc : c.length ≤ w) (hsg : (d ++ [c]).flatten.length + pt.length + 1 ≤ 1024) (hln : (layP w d c pt).1.length ≤ 255) :
    ∃ SE' SN' A' Ls', D_Screen_layPart 1024 1024 SE SN SO PE PC PO A Ls (nI w) SE' SN' SO (nI 0) false A' Ls' ∧ q_SC SE' SN' A' Ls' ((layP w d c pt).1 ++ [(layP w d c pt).2]) := by
  have hP' := hP
  obtain ⟨rfl, p1, p2, p3⟩ := hP
  have hp : 0 < pt.length := List.length_pos_iff.mpr hpt
  have hlen := sc_len hS
  by_cases h1 : c = []
  · subst h1
    obtain ⟨SE', SN', A', Ls', ⟨m, hm⟩, h3⟩ := t_layP (SE := SE) hP' hw hw2 PO 0 (by omega) SE SN SO A Ls (d, []) hS (by simp) (by show (d ++ [[]]).flatten.length + (pt.length - 0) ≤ 1024; omega) (by simpa [layP] using hln)
    refine ⟨SE', SN', A', Ls', ⟨m + 2, ?_⟩, by simpa [layP] using h3⟩
    simp (disch := omega) only [T_Screen_layPart, S_Screen_layPart, B_Screen_layPart_46, B_Screen_layPart_62, q_lit, le_T, le_F, lt_T, lt_F, eq_T, eq_F, m1_lt, m1_le, lt_m1, le_m1, eq_m1, m1_eq, nI_add, nI_sub, nI_dec, nI_mul, nI_or, nI_and, nI_div, nI_mod, and_255, and_31, and_1, and_63, nI_shl, nI_shr, bI_F, bI_1, vp_T, cl_T, true_implies, false_implies, not_true_eq_false, not_false_eq_true, true_and, and_true, false_and, and_false, Bool.false_eq_true, Bool.true_eq_false, reduceCtorEq, implies_true, q_lc_eq, q_lc_ge, q_lc_gt, q_lc_le, lN_or, lN_and, lN_shl, lN_shr, nI_L, lN_I, l_0]
    refine ⟨_, hlen, ?_⟩
    simp (disch := omega) only [List.length_nil, q_lit, le_T, le_F, lt_T, lt_F, eq_T, eq_F, m1_lt, m1_le, lt_m1, le_m1, eq_m1, m1_eq, nI_add, nI_sub, nI_dec, nI_mul, nI_or, nI_and, nI_div, nI_mod, and_255, and_31, and_1, and_63, nI_shl, nI_shr, bI_F, bI_1, vp_T, cl_T, true_implies, false_implies, not_true_eq_false, not_false_eq_true, true_and, and_true, false_and, and_false, Bool.false_eq_true, Bool.true_eq_false, reduceCtorEq, implies_true]
    refine ⟨_, hlen, ?_⟩
    simp (disch := omega) only [List.length_nil, q_lit, le_T, le_F, lt_T, lt_F, eq_T, eq_F, m1_lt, m1_le, lt_m1, le_m1, eq_m1, m1_eq, nI_add, nI_sub, nI_dec, nI_mul, nI_or, nI_and, nI_div, nI_mod, and_255, and_31, and_1, and_63, nI_shl, nI_shr, bI_F, bI_1, vp_T, cl_T, true_implies, false_implies, not_true_eq_false, not_false_eq_true, true_and, and_true, false_and, and_false, Bool.false_eq_true, Bool.true_eq_false, reduceCtorEq, implies_true]
    exact hm
  · have hc0 : 0 < c.length := List.length_pos_iff.mpr h1
    by_cases h2 : w < c.length + 1 + pt.length
    · have hmo := (layA_len hw pt (d ++ [c], []) (by simp)).2.2.2
      simp only [layP, h1, h2, if_true, if_false] at hln
      simp only [List.length_append, List.length_cons, List.length_nil] at hmo
      have hl := sc_line hS (by simp; omega)
      obtain ⟨SE', SN', A', Ls', ⟨m, hm⟩, h3⟩ := t_layP (SE := SE) hP' hw hw2 PO 0 (by omega) SE SN SO _ _ (d ++ [c], []) hl.2 (by simp) (by simp only [flat_snoc, List.append_nil] at hsg ⊢; omega) (by simpa using hln)
      refine ⟨SE', SN', A', Ls', ⟨m + 1, ?_⟩, by simpa [layP, h1, h2] using h3⟩
      simp (disch := omega) only [T_Screen_layPart, S_Screen_layPart, B_Screen_layPart_46, B_Screen_layPart_62, q_lit, le_T, le_F, lt_T, lt_F, eq_T, eq_F, m1_lt, m1_le, lt_m1, le_m1, eq_m1, m1_eq, nI_add, nI_sub, nI_dec, nI_mul, nI_or, nI_and, nI_div, nI_mod, and_255, and_31, and_1, and_63, nI_shl, nI_shr, bI_F, bI_1, vp_T, cl_T, true_implies, false_implies, not_true_eq_false, not_false_eq_true, true_and, and_true, false_and, and_false, Bool.false_eq_true, Bool.true_eq_false, reduceCtorEq, implies_true, q_lc_eq, q_lc_ge, q_lc_gt, q_lc_le, lN_or, lN_and, lN_shl, lN_shr, nI_L, lN_I, l_0]
      refine ⟨_, hlen, ?_⟩
      simp (disch := omega) only [q_lit, le_T, le_F, lt_T, lt_F, eq_T, eq_F, m1_lt, m1_le, lt_m1, le_m1, eq_m1, m1_eq, nI_add, nI_sub, nI_dec, nI_mul, nI_or, nI_and, nI_div, nI_mod, and_255, and_31, and_1, and_63, nI_shl, nI_shr, bI_F, bI_1, vp_T, cl_T, true_implies, false_implies, not_true_eq_false, not_false_eq_true, true_and, and_true, false_and, and_false, Bool.false_eq_true, Bool.true_eq_false, reduceCtorEq, implies_true]
      refine ⟨_, hlen, ?_⟩
      simp (disch := omega) only [q_lit, le_T, le_F, lt_T, lt_F, eq_T, eq_F, m1_lt, m1_le, lt_m1, le_m1, eq_m1, m1_eq, nI_add, nI_sub, nI_dec, nI_mul, nI_or, nI_and, nI_div, nI_mod, and_255, and_31, and_1, and_63, nI_shl, nI_shr, bI_F, bI_1, vp_T, cl_T, true_implies, false_implies, not_true_eq_false, not_false_eq_true, true_and, and_true, false_and, and_false, Bool.false_eq_true, Bool.true_eq_false, reduceCtorEq, implies_true]
      exact ⟨_, _, hl.1, hm⟩
    · have hs := sc_sign hS (by omega) 32
      obtain ⟨SE', SN', A', Ls', ⟨m, hm⟩, h3⟩ := t_layP (SE := SE) hP' hw hw2 PO 0 (by omega) _ _ SO A Ls (d, c ++ [32]) hs (by simp; omega) (by simp only [flat_snoc, List.length_append, List.length_cons, List.length_nil] at hsg ⊢; omega) (by simpa [layP, h1, h2] using hln)
      refine ⟨SE', SN', A', Ls', ⟨m + 2, ?_⟩, by simpa [layP, h1, h2] using h3⟩
      simp (disch := omega) only [T_Screen_layPart, S_Screen_layPart, B_Screen_layPart_46, B_Screen_layPart_62, q_lit, le_T, le_F, lt_T, lt_F, eq_T, eq_F, m1_lt, m1_le, lt_m1, le_m1, eq_m1, m1_eq, nI_add, nI_sub, nI_dec, nI_mul, nI_or, nI_and, nI_div, nI_mod, and_255, and_31, and_1, and_63, nI_shl, nI_shr, bI_F, bI_1, vp_T, cl_T, true_implies, false_implies, not_true_eq_false, not_false_eq_true, true_and, and_true, false_and, and_false, Bool.false_eq_true, Bool.true_eq_false, reduceCtorEq, implies_true, q_lc_eq, q_lc_ge, q_lc_gt, q_lc_le, lN_or, lN_and, lN_shl, lN_shr, nI_L, lN_I, l_0]
      refine ⟨_, hlen, ?_⟩
      simp (disch := omega) only [q_lit, le_T, le_F, lt_T, lt_F, eq_T, eq_F, m1_lt, m1_le, lt_m1, le_m1, eq_m1, m1_eq, nI_add, nI_sub, nI_dec, nI_mul, nI_or, nI_and, nI_div, nI_mod, and_255, and_31, and_1, and_63, nI_shl, nI_shr, bI_F, bI_1, vp_T, cl_T, true_implies, false_implies, not_true_eq_false, not_false_eq_true, true_and, and_true, false_and, and_false, Bool.false_eq_true, Bool.true_eq_false, reduceCtorEq, implies_true]
      refine ⟨_, hlen, ?_⟩
      simp (disch := omega) only [q_lit, le_T, le_F, lt_T, lt_F, eq_T, eq_F, m1_lt, m1_le, lt_m1, le_m1, eq_m1, m1_eq, nI_add, nI_sub, nI_dec, nI_mul, nI_or, nI_and, nI_div, nI_mod, and_255, and_31, and_1, and_63, nI_shl, nI_shr, bI_F, bI_1, vp_T, cl_T, true_implies, false_implies, not_true_eq_false, not_false_eq_true, true_and, and_true, false_and, and_false, Bool.false_eq_true, Bool.true_eq_false, reduceCtorEq, implies_true]
      refine ⟨_, hlen, ?_⟩
      simp (disch := omega) only [q_lit, le_T, le_F, lt_T, lt_F, eq_T, eq_F, m1_lt, m1_le, lt_m1, le_m1, eq_m1, m1_eq, nI_add, nI_sub, nI_dec, nI_mul, nI_or, nI_and, nI_div, nI_mod, and_255, and_31, and_1, and_63, nI_shl, nI_shr, bI_F, bI_1, vp_T, cl_T, true_implies, false_implies, not_true_eq_false, not_false_eq_true, true_and, and_true, false_and, and_false, Bool.false_eq_true, Bool.true_eq_false, reduceCtorEq, implies_true]
      exact ⟨_, _, _, row_app hS.1 (by omega) 32 SO, hm⟩
theorem t_putP {PE : Nat → Int32} {PC : Int32} {pt : List Nat} (hP : Rw 1200 PE PC pt) {w : Nat} (hw : 4 ≤ w) (hw2 : w ≤ 40) (k : Nat) (hk : k ≤ pt.length) (Ls : Int32) (Fr Sz : Nat → Int32) (Sh : Int32) (Tx : Nat → Int32) (s : List (List Nat) × List Nat) (hS : q_SM Ls Fr Sz Sh Tx (s.1 ++ [s.2])) (hc : s.2.length ≤ w) (hsg : (s.1 ++ [s.2]).flatten.length + (pt.length - k) ≤ 1024) (hln : (layA w s (pt.drop k)).1.length ≤ 255) :
    ∃ Ls' Fr' Sz' Sh' Tx', (∃ m, T_Model_putPart (nI w) PE Ls' Fr' Sz' Sh' Tx' (nI 0) m 1 (nI k) Ls Fr Sz Sh Tx PC) ∧ q_SM Ls' Fr' Sz' Sh' Tx' ((layA w s (pt.drop k)).1 ++ [(layA w s (pt.drop k)).2]) := by
  have hP' := hP
  obtain ⟨rfl, p1, p2, p3⟩ := hP
  obtain ⟨z1, z2, z3⟩ := sm_size hS
  by_cases h : k < pt.length
  · have pk := p3 k h
    rw [drop_s h] at hln ⊢
    by_cases h1 : s.2.length < w
    · have e : lay1 w s (pt.getD k 0) = (s.1, s.2 ++ [pt.getD k 0]) := by unfold lay1; rw [if_pos h1]
      obtain ⟨Sz1, Sh1, Tx1, a1, a2⟩ := sm_sign hS (by omega) (pt.getD k 0)
      obtain ⟨Ls', Fr', Sz', Sh', Tx', ⟨m, hm⟩, h3⟩ := t_putP hP' hw hw2 (k + 1) h _ _ _ _ _ (s.1, s.2 ++ [pt.getD k 0]) a2 (by simp; omega) (by simp only [flat_snoc, List.length_append, List.length_cons, List.length_nil] at hsg ⊢; omega) (by simpa only [layA, List.foldl_cons, e] using hln)
      refine ⟨Ls', Fr', Sz', Sh', Tx', ⟨m + 2, ?_⟩, by simpa only [layA, List.foldl_cons, e] using h3⟩
      subst z1
      simp (disch := omega) only [T_Model_putPart, S_Model_putPart, B_Model_putPart_51, B_Model_putPart_81, Nat.add_sub_cancel, z3, pk, q_lit, le_T, le_F, lt_T, lt_F, eq_T, eq_F, m1_lt, m1_le, lt_m1, le_m1, eq_m1, m1_eq, nI_add, nI_sub, nI_dec, nI_mul, nI_or, nI_and, nI_div, nI_mod, and_255, and_31, and_1, and_63, nI_shl, nI_shr, bI_F, bI_1, vp_T, cl_T, true_implies, false_implies, not_true_eq_false, not_false_eq_true, true_and, and_true, false_and, and_false, Bool.false_eq_true, Bool.true_eq_false, reduceCtorEq, implies_true, q_lc_eq, q_lc_ge, q_lc_gt, q_lc_le, lN_or, lN_and, lN_shl, lN_shr, nI_L, lN_I, l_0]
      exact ⟨_, _, _, a1, hm⟩
    · have e : lay1 w s (pt.getD k 0) = (s.1 ++ [s.2], [pt.getD k 0]) := by unfold lay1; rw [if_neg h1]
      have hln2 : (layA w (s.1 ++ [s.2], [pt.getD k 0]) (pt.drop (k + 1))).1.length ≤ 255 := by simpa only [layA, List.foldl_cons, e] using hln
      have hmo := (layA_len hw (pt.drop (k + 1)) (s.1 ++ [s.2], [pt.getD k 0]) (by simp; omega)).2.2.2
      simp only [List.length_append, List.length_cons, List.length_nil] at hmo
      obtain ⟨Fr1, Sz1, b1, b2⟩ := sm_line hS (by simp; omega)
      have b2' : q_SM (nI ((s.1 ++ [s.2]).length + 1)) Fr1 Sz1 Sh Tx ((s.1 ++ [s.2]) ++ [[]]) := b2
      obtain ⟨Sz2, Sh1, Tx1, a1, a2⟩ := sm_sign b2' (by simp only [flat_snoc, List.append_nil] at hsg ⊢; omega) (pt.getD k 0)
      obtain ⟨Ls', Fr', Sz', Sh', Tx', ⟨m, hm⟩, h3⟩ := t_putP hP' hw hw2 (k + 1) h _ _ _ _ _ (s.1 ++ [s.2], [pt.getD k 0]) a2 (by simp; omega) (by simp only [flat_snoc, List.length_append, List.length_cons, List.length_nil] at hsg ⊢; omega) hln2
      refine ⟨Ls', Fr', Sz', Sh', Tx', ⟨m + 2, ?_⟩, by simpa only [layA, List.foldl_cons, e] using h3⟩
      subst z1
      simp (disch := omega) only [T_Model_putPart, S_Model_putPart, B_Model_putPart_51, B_Model_putPart_81, Nat.add_sub_cancel, z3, pk, q_lit, le_T, le_F, lt_T, lt_F, eq_T, eq_F, m1_lt, m1_le, lt_m1, le_m1, eq_m1, m1_eq, nI_add, nI_sub, nI_dec, nI_mul, nI_or, nI_and, nI_div, nI_mod, and_255, and_31, and_1, and_63, nI_shl, nI_shr, bI_F, bI_1, vp_T, cl_T, true_implies, false_implies, not_true_eq_false, not_false_eq_true, true_and, and_true, false_and, and_false, Bool.false_eq_true, Bool.true_eq_false, reduceCtorEq, implies_true, q_lc_eq, q_lc_ge, q_lc_gt, q_lc_le, lN_or, lN_and, lN_shl, lN_shr, nI_L, lN_I, l_0]
      exact ⟨_, _, _, b1, _, _, _, a1, hm⟩
  · refine ⟨Ls, Fr, Sz, Sh, Tx, ⟨1, ?_⟩, by rw [List.drop_eq_nil_of_le (by omega)]; exact hS⟩
    simp (disch := omega) only [T_Model_putPart, S_Model_putPart, B_Model_putPart_51, q_lit, le_T, le_F, lt_T, lt_F, eq_T, eq_F, m1_lt, m1_le, lt_m1, le_m1, eq_m1, m1_eq, nI_add, nI_sub, nI_dec, nI_mul, nI_or, nI_and, nI_div, nI_mod, and_255, and_31, and_1, and_63, nI_shl, nI_shr, bI_F, bI_1, vp_T, cl_T, true_implies, false_implies, not_true_eq_false, not_false_eq_true, true_and, and_true, false_and, and_false, Bool.false_eq_true, Bool.true_eq_false, reduceCtorEq, implies_true, q_lc_eq, q_lc_ge, q_lc_gt, q_lc_le, lN_or, lN_and, lN_shl, lN_shr, nI_L, lN_I, l_0]
termination_by pt.length - k
decreasing_by all_goals omega
/-- the reference lays a part: on a new line if it is the paragraph's first -/
theorem mo_putP {PE : Nat → Int32} {PC : Int32} {pt : List Nat} (hP : Rw 1200 PE PC pt) (hpt : pt ≠ []) {w : Nat} (hw : 4 ≤ w) (hw2 : w ≤ 40) {Ls : Int32} {Fr Sz : Nat → Int32} {Sh : Int32} {Tx : Nat → Int32} {d : List (List Nat)} {c : List Nat} {b : Bool} (hS : (b = true ∧ c = [] ∧ q_SM Ls Fr Sz Sh Tx d) ∨ (b = false ∧ c ≠ [] ∧ q_SM Ls Fr Sz Sh Tx (d ++ [c]))) (hc : c.length ≤ w) (hsg : (d ++ [c]).flatten.length + pt.length + 1 ≤ 1024) (hln : (layP w d c pt).1.length ≤ 255) :
    ∃ Ls' Fr' Sz' Sh' Tx', D_Model_putPart b (nI w) Ls Fr Sz Sh Tx PC PE Ls' Fr' Sz' Sh' Tx' (nI 0) ∧ q_SM Ls' Fr' Sz' Sh' Tx' ((layP w d c pt).1 ++ [(layP w d c pt).2]) := by
  have hP' := hP
  obtain ⟨rfl, p1, p2, p3⟩ := hP
  have hp : 0 < pt.length := List.length_pos_iff.mpr hpt
  rcases hS with ⟨rfl, rfl, hS⟩ | ⟨rfl, h1, hS⟩
  · have hmo := (layA_len hw pt (d, []) (by simp)).2.2.2
    have hln' : (layA w (d, []) pt).1.length ≤ 255 := by simpa [layP] using hln
    simp only at hmo
    obtain ⟨Fr1, Sz1, b1, b2⟩ := sm_line hS (by omega)
    obtain ⟨Ls', Fr', Sz', Sh', Tx', ⟨m, hm⟩, h3⟩ := t_putP hP' hw hw2 0 (by omega) _ _ _ _ _ (d, []) b2 (by simp) (by show (d ++ [[]]).flatten.length + (pt.length - 0) ≤ 1024; omega) (by simpa using hln')
    refine ⟨Ls', Fr', Sz', Sh', Tx', ⟨m + 1, ?_⟩, by simpa [layP] using h3⟩
    simp (disch := omega) only [T_Model_putPart, S_Model_putPart, B_Model_putPart_49, q_lit, le_T, le_F, lt_T, lt_F, eq_T, eq_F, m1_lt, m1_le, lt_m1, le_m1, eq_m1, m1_eq, nI_add, nI_sub, nI_dec, nI_mul, nI_or, nI_and, nI_div, nI_mod, and_255, and_31, and_1, and_63, nI_shl, nI_shr, bI_F, bI_1, vp_T, cl_T, true_implies, false_implies, not_true_eq_false, not_false_eq_true, true_and, and_true, false_and, and_false, Bool.false_eq_true, Bool.true_eq_false, reduceCtorEq, implies_true, q_lc_eq, q_lc_ge, q_lc_gt, q_lc_le, lN_or, lN_and, lN_shl, lN_shr, nI_L, lN_I, l_0]
    exact ⟨_, _, _, b1, hm⟩
  · have hc0 : 0 < c.length := List.length_pos_iff.mpr h1
    obtain ⟨z1, z2, z3⟩ := sm_size hS
    by_cases h2 : w < c.length + 1 + pt.length
    · have hmo := (layA_len hw pt (d ++ [c], []) (by simp)).2.2.2
      simp only [layP, h1, h2, if_true, if_false] at hln
      simp only [List.length_append, List.length_cons, List.length_nil] at hmo
      obtain ⟨Fr1, Sz1, b1, b2⟩ := sm_line hS (by simp; omega)
      obtain ⟨Ls', Fr', Sz', Sh', Tx', ⟨m, hm⟩, h3⟩ := t_putP hP' hw hw2 0 (by omega) _ _ _ _ _ (d ++ [c], []) b2 (by simp) (by simp only [flat_snoc, List.append_nil] at hsg ⊢; omega) (by simpa using hln)
      refine ⟨Ls', Fr', Sz', Sh', Tx', ⟨m + 1, ?_⟩, by simpa [layP, h1, h2] using h3⟩
      subst z1
      simp (disch := omega) only [T_Model_putPart, S_Model_putPart, B_Model_putPart_49, Nat.add_sub_cancel, z3, q_lit, le_T, le_F, lt_T, lt_F, eq_T, eq_F, m1_lt, m1_le, lt_m1, le_m1, eq_m1, m1_eq, nI_add, nI_sub, nI_dec, nI_mul, nI_or, nI_and, nI_div, nI_mod, and_255, and_31, and_1, and_63, nI_shl, nI_shr, bI_F, bI_1, vp_T, cl_T, true_implies, false_implies, not_true_eq_false, not_false_eq_true, true_and, and_true, false_and, and_false, Bool.false_eq_true, Bool.true_eq_false, reduceCtorEq, implies_true, q_lc_eq, q_lc_ge, q_lc_gt, q_lc_le, lN_or, lN_and, lN_shl, lN_shr, nI_L, lN_I, l_0]
      exact ⟨_, _, _, b1, hm⟩
    · obtain ⟨Sz1, Sh1, Tx1, a1, a2⟩ := sm_sign hS (by omega) 32
      obtain ⟨Ls', Fr', Sz', Sh', Tx', ⟨m, hm⟩, h3⟩ := t_putP hP' hw hw2 0 (by omega) _ _ _ _ _ (d, c ++ [32]) a2 (by simp; omega) (by simp only [flat_snoc, List.length_append, List.length_cons, List.length_nil] at hsg ⊢; omega) (by simpa [layP, h1, h2] using hln)
      refine ⟨Ls', Fr', Sz', Sh', Tx', ⟨m + 1, ?_⟩, by simpa [layP, h1, h2] using h3⟩
      subst z1
      simp (disch := omega) only [T_Model_putPart, S_Model_putPart, B_Model_putPart_49, Nat.add_sub_cancel, z3, q_lit, le_T, le_F, lt_T, lt_F, eq_T, eq_F, m1_lt, m1_le, lt_m1, le_m1, eq_m1, m1_eq, nI_add, nI_sub, nI_dec, nI_mul, nI_or, nI_and, nI_div, nI_mod, and_255, and_31, and_1, and_63, nI_shl, nI_shr, bI_F, bI_1, vp_T, cl_T, true_implies, false_implies, not_true_eq_false, not_false_eq_true, true_and, and_true, false_and, and_false, Bool.false_eq_true, Bool.true_eq_false, reduceCtorEq, implies_true, q_lc_eq, q_lc_ge, q_lc_gt, q_lc_le, lN_or, lN_and, lN_shl, lN_shr, nI_L, lN_I, l_0]
      exact ⟨_, _, _, a1, hm⟩
/-- a link's signs -/
def lkSg (nm : List Nat) : List Nat := 91 :: nm ++ [93]
theorem t_sLink {nm : List Nat} (hn : q_Wd nm) (hl : nm.length ≤ 6) (O : Bool) (k : Nat) (hk : k ≤ nm.length) (PE : Nat → Int32) (PC : Int32) (pt : List Nat) (hP : Rw 1024 PE PC pt) (hpk : pt.length + (nm.length - k) + 1 ≤ 1024) :
    ∃ PE' PC', (∃ m, T_Screen_appendLink 1024 PE' PC' O m (lN (enc nm)) (nI nm.length) (nI k) PE PC O) ∧ Rw 1024 PE' PC' (pt ++ (nm.drop k ++ [93])) := by
  by_cases h : k < nm.length
  · have ha := rw_app hP (by omega) (nm.getD k 0)
    obtain ⟨PE', PC', ⟨m, hm⟩, h2⟩ := t_sLink hn hl O (k + 1) h _ _ _ ha (by simp; omega)
    refine ⟨PE', PC', ⟨m + 1, ?_⟩, ?_⟩
    · simp (disch := omega) only [T_Screen_appendLink, S_Screen_appendLink, B_Screen_appendLink_17, q_lit, le_T, le_F, lt_T, lt_F, eq_T, eq_F, m1_lt, m1_le, lt_m1, le_m1, eq_m1, m1_eq, nI_add, nI_sub, nI_dec, nI_mul, nI_or, nI_and, nI_div, nI_mod, and_255, and_31, and_1, and_63, nI_shl, nI_shr, bI_F, bI_1, vp_T, cl_T, true_implies, false_implies, not_true_eq_false, not_false_eq_true, true_and, and_true, false_and, and_false, Bool.false_eq_true, Bool.true_eq_false, reduceCtorEq, implies_true, q_lc_eq, q_lc_ge, q_lc_gt, q_lc_le, lN_or, lN_and, lN_shl, lN_shr, nI_L, lN_I, l_0]
      exact ⟨_, let_letter hn (by omega), _, _, _, row_app hP (by omega) _ O, hm⟩
    · rw [drop_s h]; simpa using h2
  · have ha := rw_app hP (by omega) 93
    refine ⟨_, _, ⟨1, ?_⟩, by rw [List.drop_eq_nil_of_le (by omega)]; exact ha⟩
    simp (disch := omega) only [T_Screen_appendLink, S_Screen_appendLink, B_Screen_appendLink_17, q_lit, le_T, le_F, lt_T, lt_F, eq_T, eq_F, m1_lt, m1_le, lt_m1, le_m1, eq_m1, m1_eq, nI_add, nI_sub, nI_dec, nI_mul, nI_or, nI_and, nI_div, nI_mod, and_255, and_31, and_1, and_63, nI_shl, nI_shr, bI_F, bI_1, vp_T, cl_T, true_implies, false_implies, not_true_eq_false, not_false_eq_true, true_and, and_true, false_and, and_false, Bool.false_eq_true, Bool.true_eq_false, reduceCtorEq, implies_true, q_lc_eq, q_lc_ge, q_lc_gt, q_lc_le, lN_or, lN_and, lN_shl, lN_shr, nI_L, lN_I, l_0]
    exact ⟨_, _, _, row_app hP (by omega) 93 O, rfl, rfl, rfl⟩
termination_by nm.length - k
decreasing_by all_goals omega
theorem sc_link {nm : List Nat} (hn : q_Wd nm) (hl : nm.length ≤ 6) (O : Bool) {PE : Nat → Int32} {PC : Int32} {pt : List Nat} (hP : Rw 1024 PE PC pt) (hpk : pt.length + 8 ≤ 1024) :
    ∃ PE' PC', D_Screen_appendLink 1024 (lN (enc nm)) PE PC O PE' PC' O ∧ Rw 1024 PE' PC' (pt ++ lkSg nm) := by
  have ha := rw_app hP (by omega) 91
  obtain ⟨PE', PC', ⟨m, hm⟩, h2⟩ := t_sLink hn hl O 0 (by omega) _ _ _ ha (by simp; omega)
  refine ⟨PE', PC', ⟨m, _, _, _, row_app hP (by omega) 91 O, _, let_length hn (by omega), hm⟩, ?_⟩
  simpa [lkSg] using h2
theorem mo_part {PE : Nat → Int32} {PC : Int32} {pt : List Nat} (hP : Rw 1200 PE PC pt) (hl : pt.length < 1200) (x : Nat) : D_Model_addPart (nI x) PC PE (nI (pt.length + 1)) (upd PE pt.length (nI x)) := by
  obtain ⟨rfl, p1, p2, p3⟩ := hP
  simp (disch := omega) only [D_Model_addPart, q_lit, le_T, le_F, lt_T, lt_F, eq_T, eq_F, m1_lt, m1_le, lt_m1, le_m1, eq_m1, m1_eq, nI_add, nI_sub, nI_dec, nI_mul, nI_or, nI_and, nI_div, nI_mod, and_255, and_31, and_1, and_63, nI_shl, nI_shr, bI_F, bI_1, vp_T, cl_T, true_implies, false_implies, not_true_eq_false, not_false_eq_true, true_and, and_true, false_and, and_false, Bool.false_eq_true, Bool.true_eq_false, reduceCtorEq, implies_true]
theorem t_mLink {Nm : Nat → Int32} {t : Nat} {nm : List Nat} (hn : q_Wd nm) (hl : nm.length ≤ 6) (ht : t < 10) (hN : ∀ k, k < 6 → Nm (6 * t + k) = nI (nm.getD k 0)) (k : Nat) (hk : k ≤ 6) (PE : Nat → Int32) (PC : Int32) (pt : List Nat) (hP : Rw 1200 PE PC pt) (hpk : pt.length + (6 - k) + 1 ≤ 1200) :
    ∃ PE' PC', (∃ m, T_Model_addLink Nm PC' PE' m (nI t) (nI k) PC PE) ∧ Rw 1200 PE' PC' (pt ++ (nm.drop k ++ [93])) := by
  by_cases h : k < 6
  · have e := hN k h
    by_cases h2 : k < nm.length
    · have hw := hn.at h2
      have ha := rw_app hP (by omega) (nm.getD k 0)
      obtain ⟨PE', PC', ⟨m, hm⟩, h3⟩ := t_mLink hn hl ht hN (k + 1) h _ _ _ ha (by simp; omega)
      refine ⟨PE', PC', ⟨m + 1, ?_⟩, by rw [drop_s h2]; simpa using h3⟩
      simp (disch := omega) only [T_Model_addLink, S_Model_addLink, B_Model_addLink_8, e, q_lit, le_T, le_F, lt_T, lt_F, eq_T, eq_F, m1_lt, m1_le, lt_m1, le_m1, eq_m1, m1_eq, nI_add, nI_sub, nI_dec, nI_mul, nI_or, nI_and, nI_div, nI_mod, and_255, and_31, and_1, and_63, nI_shl, nI_shr, bI_F, bI_1, vp_T, cl_T, true_implies, false_implies, not_true_eq_false, not_false_eq_true, true_and, and_true, false_and, and_false, Bool.false_eq_true, Bool.true_eq_false, reduceCtorEq, implies_true, q_lc_eq, q_lc_ge, q_lc_gt, q_lc_le, lN_or, lN_and, lN_shl, lN_shr, nI_L, lN_I, l_0]
      exact ⟨_, _, mo_part hP (by omega) _, hm⟩
    · have e0 : nm.getD k 0 = 0 := by simp [List.getD_eq_getElem?_getD, List.getElem?_eq_none (Nat.le_of_not_lt h2)]
      obtain ⟨PE', PC', ⟨m, hm⟩, h3⟩ := t_mLink hn hl ht hN (k + 1) h PE PC pt hP (by omega)
      refine ⟨PE', PC', ⟨m + 1, ?_⟩, by rw [List.drop_eq_nil_of_le (by omega)] at h3 ⊢; exact h3⟩
      simp (disch := omega) only [T_Model_addLink, S_Model_addLink, B_Model_addLink_8, e, e0, q_lit, le_T, le_F, lt_T, lt_F, eq_T, eq_F, m1_lt, m1_le, lt_m1, le_m1, eq_m1, m1_eq, nI_add, nI_sub, nI_dec, nI_mul, nI_or, nI_and, nI_div, nI_mod, and_255, and_31, and_1, and_63, nI_shl, nI_shr, bI_F, bI_1, vp_T, cl_T, true_implies, false_implies, not_true_eq_false, not_false_eq_true, true_and, and_true, false_and, and_false, Bool.false_eq_true, Bool.true_eq_false, reduceCtorEq, implies_true, q_lc_eq, q_lc_ge, q_lc_gt, q_lc_le, lN_or, lN_and, lN_shl, lN_shr, nI_L, lN_I, l_0]
      exact hm
  · have ha := rw_app hP (by omega) 93
    refine ⟨_, _, ⟨1, ?_⟩, by rw [List.drop_eq_nil_of_le (by omega)]; exact ha⟩
    simp (disch := omega) only [T_Model_addLink, S_Model_addLink, B_Model_addLink_8, q_lit, le_T, le_F, lt_T, lt_F, eq_T, eq_F, m1_lt, m1_le, lt_m1, le_m1, eq_m1, m1_eq, nI_add, nI_sub, nI_dec, nI_mul, nI_or, nI_and, nI_div, nI_mod, and_255, and_31, and_1, and_63, nI_shl, nI_shr, bI_F, bI_1, vp_T, cl_T, true_implies, false_implies, not_true_eq_false, not_false_eq_true, true_and, and_true, false_and, and_false, Bool.false_eq_true, Bool.true_eq_false, reduceCtorEq, implies_true, q_lc_eq, q_lc_ge, q_lc_gt, q_lc_le, lN_or, lN_and, lN_shl, lN_shr, nI_L, lN_I, l_0]
    exact ⟨_, _, mo_part hP (by omega) 93, rfl, rfl⟩
termination_by 6 - k
decreasing_by all_goals omega
theorem mo_link {Nm : Nat → Int32} {t : Nat} {nm : List Nat} (hn : q_Wd nm) (hl : nm.length ≤ 6) (ht : t < 10) (hN : ∀ k, k < 6 → Nm (6 * t + k) = nI (nm.getD k 0)) {PE : Nat → Int32} {PC : Int32} {pt : List Nat} (hP : Rw 1200 PE PC pt) (hpk : pt.length + 8 ≤ 1200) :
    ∃ PE' PC', D_Model_addLink (nI t) Nm PC PE PC' PE' ∧ Rw 1200 PE' PC' (pt ++ lkSg nm) := by
  have ha := rw_app hP (by omega) 91
  obtain ⟨PE', PC', ⟨m, hm⟩, h2⟩ := t_mLink hn hl ht hN 0 (by omega) _ _ _ ha (by simp; omega)
  refine ⟨PE', PC', ⟨m, _, _, mo_part hP (by omega) 91, hm⟩, ?_⟩
  simpa [lkSg] using h2
