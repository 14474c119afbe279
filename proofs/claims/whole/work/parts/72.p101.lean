/-! Pure: the class packs. -/
theorem t_alike {S BE : Nat → Int32} {BC T : Int32} {bs : List (List Nat)} (h : CB S BE BC T bs) {t : Nat} (ht : t < bs.length) {at0 d : Nat} (hd : 1 ≤ d) (hd2 : d ≤ at0) (ha : at0 ≤ (bd bs t).length) (n : Nat) (hn : n ≤ 63) : ∃ q, T_ImageWriter_alike 2550 BE BC (nI (alk (bd bs t) at0 d n)) q (nI (q_off bs t + at0)) (nI d) (nI (q_off bs t + (bd bs t).length)) (nI n) := by
  have hl := h.len ht
  rw [alk]
  by_cases h1 : n < 63
  · by_cases h2 : at0 + n < (bd bs t).length
    · have e1 := cb_el h ht h2
      have e2 := cb_el h ht (i := at0 + n - d) (by omega)
      have v1 := h.v ht (at0 + n)
      have v2 := h.v ht (at0 + n - d)
      rw [← Nat.add_assoc] at e1
      rw [show q_off bs t + (at0 + n - d) = q_off bs t + at0 + n - d by omega] at e2
      by_cases h3 : (bd bs t).getD (at0 + n) 0 = (bd bs t).getD (at0 + n - d) 0
      · rw [if_pos ⟨h1, h2, h3⟩]
        obtain ⟨q, hq⟩ := t_alike h ht hd hd2 ha (n + 1) (by omega)
        refine ⟨q + 1, ?_⟩
        simp (disch := omega) only [T_ImageWriter_alike, S_ImageWriter_alike, B_ImageWriter_alike_3, q_lit, le_T, le_F, lt_T, lt_F, eq_T, eq_F, m1_lt, m1_le, lt_m1, le_m1, eq_m1, m1_eq, nI_add, nI_sub, nI_dec, nI_mul, nI_or, nI_and, nI_div, nI_mod, and_255, and_31, and_1, and_63, nI_shl, nI_shr, bI_F, bI_1, vp_T, cl_T, true_implies, false_implies, not_true_eq_false, not_false_eq_true, true_and, and_true, false_and, and_false, Bool.false_eq_true, Bool.true_eq_false, reduceCtorEq, implies_true, q_lc_eq, q_lc_ge, q_lc_gt, q_lc_le, lN_or, lN_and, lN_shl, lN_shr, nI_L, lN_I, l_0]
        refine ⟨_, e1, _, e2, ?_⟩
        simp (disch := omega) only [q_lit, le_T, le_F, lt_T, lt_F, eq_T, eq_F, m1_lt, m1_le, lt_m1, le_m1, eq_m1, m1_eq, nI_add, nI_sub, nI_dec, nI_mul, nI_or, nI_and, nI_div, nI_mod, and_255, and_31, and_1, and_63, nI_shl, nI_shr, bI_F, bI_1, vp_T, cl_T, true_implies, false_implies, not_true_eq_false, not_false_eq_true, true_and, and_true, false_and, and_false, Bool.false_eq_true, Bool.true_eq_false, reduceCtorEq, implies_true]
        exact hq
      · rw [if_neg (fun h9 => h3 h9.2.2)]
        refine ⟨1, ?_⟩
        simp (disch := omega) only [T_ImageWriter_alike, S_ImageWriter_alike, B_ImageWriter_alike_3, q_lit, le_T, le_F, lt_T, lt_F, eq_T, eq_F, m1_lt, m1_le, lt_m1, le_m1, eq_m1, m1_eq, nI_add, nI_sub, nI_dec, nI_mul, nI_or, nI_and, nI_div, nI_mod, and_255, and_31, and_1, and_63, nI_shl, nI_shr, bI_F, bI_1, vp_T, cl_T, true_implies, false_implies, not_true_eq_false, not_false_eq_true, true_and, and_true, false_and, and_false, Bool.false_eq_true, Bool.true_eq_false, reduceCtorEq, implies_true, q_lc_eq, q_lc_ge, q_lc_gt, q_lc_le, lN_or, lN_and, lN_shl, lN_shr, nI_L, lN_I, l_0]
        refine ⟨_, e1, _, e2, ?_⟩
        simp (disch := omega) only [q_lit, le_T, le_F, lt_T, lt_F, eq_T, eq_F, m1_lt, m1_le, lt_m1, le_m1, eq_m1, m1_eq, nI_add, nI_sub, nI_dec, nI_mul, nI_or, nI_and, nI_div, nI_mod, and_255, and_31, and_1, and_63, nI_shl, nI_shr, bI_F, bI_1, vp_T, cl_T, true_implies, false_implies, not_true_eq_false, not_false_eq_true, true_and, and_true, false_and, and_false, Bool.false_eq_true, Bool.true_eq_false, reduceCtorEq, implies_true]
    · rw [if_neg (fun h9 => h2 h9.2.1)]
      refine ⟨1, ?_⟩
      simp (disch := omega) only [T_ImageWriter_alike, S_ImageWriter_alike, B_ImageWriter_alike_3, q_lit, le_T, le_F, lt_T, lt_F, eq_T, eq_F, m1_lt, m1_le, lt_m1, le_m1, eq_m1, m1_eq, nI_add, nI_sub, nI_dec, nI_mul, nI_or, nI_and, nI_div, nI_mod, and_255, and_31, and_1, and_63, nI_shl, nI_shr, bI_F, bI_1, vp_T, cl_T, true_implies, false_implies, not_true_eq_false, not_false_eq_true, true_and, and_true, false_and, and_false, Bool.false_eq_true, Bool.true_eq_false, reduceCtorEq, implies_true, q_lc_eq, q_lc_ge, q_lc_gt, q_lc_le, lN_or, lN_and, lN_shl, lN_shr, nI_L, lN_I, l_0]
  · rw [if_neg (fun h9 => h1 h9.1)]
    refine ⟨1, ?_⟩
    simp (disch := omega) only [T_ImageWriter_alike, S_ImageWriter_alike, B_ImageWriter_alike_3, q_lit, le_T, le_F, lt_T, lt_F, eq_T, eq_F, m1_lt, m1_le, lt_m1, le_m1, eq_m1, m1_eq, nI_add, nI_sub, nI_dec, nI_mul, nI_or, nI_and, nI_div, nI_mod, and_255, and_31, and_1, and_63, nI_shl, nI_shr, bI_F, bI_1, vp_T, cl_T, true_implies, false_implies, not_true_eq_false, not_false_eq_true, true_and, and_true, false_and, and_false, Bool.false_eq_true, Bool.true_eq_false, reduceCtorEq, implies_true, q_lc_eq, q_lc_ge, q_lc_gt, q_lc_le, lN_or, lN_and, lN_shl, lN_shr, nI_L, lN_I, l_0]
termination_by 63 - n
decreasing_by all_goals omega
theorem wr_alike {S BE : Nat → Int32} {BC T : Int32} {bs : List (List Nat)} (h : CB S BE BC T bs) {t : Nat} (ht : t < bs.length) {at0 d : Nat} (hd : 1 ≤ d) (hd2 : d ≤ at0) (ha : at0 ≤ (bd bs t).length) : D_ImageWriter_alike 2550 (nI (q_off bs t + at0)) (nI d) (nI (q_off bs t + (bd bs t).length)) BE BC (nI (alk (bd bs t) at0 d 0)) := by
  have := t_alike h ht hd hd2 ha 0 (by omega)
  simpa [D_ImageWriter_alike, q_lit] using this
def bsI (s : Nat × Nat) : Int32 := if 2 < s.1 then nI s.2 else -nI 1
theorem t_best {S BE : Nat → Int32} {BC T : Int32} {bs : List (List Nat)} (h : CB S BE BC T bs) {t : Nat} (ht : t < bs.length) {at0 : Nat} (ha : at0 ≤ (bd bs t).length) (d : Nat) (hd : 1 ≤ d) (hd2 : d ≤ at0 + 1) (s : Nat × Nat) (hs : s.1 ≤ 63) : ∃ q, T_ImageWriter_bestDistance 2550 BE BC (bsI (q_bst (bd bs t) at0 d s)) q (nI (q_off bs t)) (nI (q_off bs t + at0)) (nI (q_off bs t + (bd bs t).length)) (bsI s) (nI (max s.1 2)) (nI d) := by
  have hl := h.len ht
  rw [q_bst]
  by_cases h1 : d ≤ at0
  · rw [if_pos h1]
    have ha1 := wr_alike h ht hd h1 ha
    have hle := alk_le (bd bs t) at0 d 0 (by omega)
    by_cases h2 : s.1 < alk (bd bs t) at0 d 0
    · rw [if_pos h2]
      obtain ⟨q, hq⟩ := t_best h ht ha (d + 1) (by omega) (by omega) (alk (bd bs t) at0 d 0, d) hle
      refine ⟨q + 1, ?_⟩
      by_cases h3 : 2 < alk (bd bs t) at0 d 0
      · have e1 : bsI (alk (bd bs t) at0 d 0, d) = nI d := by simp only [bsI]; rw [if_pos h3]
        rw [e1, show max (alk (bd bs t) at0 d 0, d).1 2 = alk (bd bs t) at0 d 0 by simp only; omega] at hq
        simp (disch := omega) only [T_ImageWriter_bestDistance, S_ImageWriter_bestDistance, B_ImageWriter_bestDistance_9, q_lit, le_T, le_F, lt_T, lt_F, eq_T, eq_F, m1_lt, m1_le, lt_m1, le_m1, eq_m1, m1_eq, nI_add, nI_sub, nI_dec, nI_mul, nI_or, nI_and, nI_div, nI_mod, and_255, and_31, and_1, and_63, nI_shl, nI_shr, bI_F, bI_1, vp_T, cl_T, true_implies, false_implies, not_true_eq_false, not_false_eq_true, true_and, and_true, false_and, and_false, Bool.false_eq_true, Bool.true_eq_false, reduceCtorEq, implies_true, q_lc_eq, q_lc_ge, q_lc_gt, q_lc_le, lN_or, lN_and, lN_shl, lN_shr, nI_L, lN_I, l_0]
        refine ⟨_, ha1, ?_⟩
        simp (disch := omega) only [q_lit, le_T, le_F, lt_T, lt_F, eq_T, eq_F, m1_lt, m1_le, lt_m1, le_m1, eq_m1, m1_eq, nI_add, nI_sub, nI_dec, nI_mul, nI_or, nI_and, nI_div, nI_mod, and_255, and_31, and_1, and_63, nI_shl, nI_shr, bI_F, bI_1, vp_T, cl_T, true_implies, false_implies, not_true_eq_false, not_false_eq_true, true_and, and_true, false_and, and_false, Bool.false_eq_true, Bool.true_eq_false, reduceCtorEq, implies_true]
        exact hq
      · have e1 : bsI (alk (bd bs t) at0 d 0, d) = bsI s := by simp only [bsI]; rw [if_neg h3, if_neg (by omega)]
        rw [e1, show max (alk (bd bs t) at0 d 0, d).1 2 = max s.1 2 by simp only; omega] at hq
        simp (disch := omega) only [T_ImageWriter_bestDistance, S_ImageWriter_bestDistance, B_ImageWriter_bestDistance_9, q_lit, le_T, le_F, lt_T, lt_F, eq_T, eq_F, m1_lt, m1_le, lt_m1, le_m1, eq_m1, m1_eq, nI_add, nI_sub, nI_dec, nI_mul, nI_or, nI_and, nI_div, nI_mod, and_255, and_31, and_1, and_63, nI_shl, nI_shr, bI_F, bI_1, vp_T, cl_T, true_implies, false_implies, not_true_eq_false, not_false_eq_true, true_and, and_true, false_and, and_false, Bool.false_eq_true, Bool.true_eq_false, reduceCtorEq, implies_true, q_lc_eq, q_lc_ge, q_lc_gt, q_lc_le, lN_or, lN_and, lN_shl, lN_shr, nI_L, lN_I, l_0]
        refine ⟨_, ha1, ?_⟩
        simp (disch := omega) only [q_lit, le_T, le_F, lt_T, lt_F, eq_T, eq_F, m1_lt, m1_le, lt_m1, le_m1, eq_m1, m1_eq, nI_add, nI_sub, nI_dec, nI_mul, nI_or, nI_and, nI_div, nI_mod, and_255, and_31, and_1, and_63, nI_shl, nI_shr, bI_F, bI_1, vp_T, cl_T, true_implies, false_implies, not_true_eq_false, not_false_eq_true, true_and, and_true, false_and, and_false, Bool.false_eq_true, Bool.true_eq_false, reduceCtorEq, implies_true]
        exact hq
    · rw [if_neg h2]
      obtain ⟨q, hq⟩ := t_best h ht ha (d + 1) (by omega) (by omega) s hs
      refine ⟨q + 1, ?_⟩
      simp (disch := omega) only [T_ImageWriter_bestDistance, S_ImageWriter_bestDistance, B_ImageWriter_bestDistance_9, q_lit, le_T, le_F, lt_T, lt_F, eq_T, eq_F, m1_lt, m1_le, lt_m1, le_m1, eq_m1, m1_eq, nI_add, nI_sub, nI_dec, nI_mul, nI_or, nI_and, nI_div, nI_mod, and_255, and_31, and_1, and_63, nI_shl, nI_shr, bI_F, bI_1, vp_T, cl_T, true_implies, false_implies, not_true_eq_false, not_false_eq_true, true_and, and_true, false_and, and_false, Bool.false_eq_true, Bool.true_eq_false, reduceCtorEq, implies_true, q_lc_eq, q_lc_ge, q_lc_gt, q_lc_le, lN_or, lN_and, lN_shl, lN_shr, nI_L, lN_I, l_0]
      refine ⟨_, ha1, ?_⟩
      simp (disch := omega) only [q_lit, le_T, le_F, lt_T, lt_F, eq_T, eq_F, m1_lt, m1_le, lt_m1, le_m1, eq_m1, m1_eq, nI_add, nI_sub, nI_dec, nI_mul, nI_or, nI_and, nI_div, nI_mod, and_255, and_31, and_1, and_63, nI_shl, nI_shr, bI_F, bI_1, vp_T, cl_T, true_implies, false_implies, not_true_eq_false, not_false_eq_true, true_and, and_true, false_and, and_false, Bool.false_eq_true, Bool.true_eq_false, reduceCtorEq, implies_true]
      exact hq
  · rw [if_neg h1]
    refine ⟨1, ?_⟩
    simp (disch := omega) only [T_ImageWriter_bestDistance, S_ImageWriter_bestDistance, B_ImageWriter_bestDistance_9, q_lit, le_T, le_F, lt_T, lt_F, eq_T, eq_F, m1_lt, m1_le, lt_m1, le_m1, eq_m1, m1_eq, nI_add, nI_sub, nI_dec, nI_mul, nI_or, nI_and, nI_div, nI_mod, and_255, and_31, and_1, and_63, nI_shl, nI_shr, bI_F, bI_1, vp_T, cl_T, true_implies, false_implies, not_true_eq_false, not_false_eq_true, true_and, and_true, false_and, and_false, Bool.false_eq_true, Bool.true_eq_false, reduceCtorEq, implies_true, q_lc_eq, q_lc_ge, q_lc_gt, q_lc_le, lN_or, lN_and, lN_shl, lN_shr, nI_L, lN_I, l_0]
termination_by at0 + 1 - d
decreasing_by all_goals omega
theorem wr_best {S BE : Nat → Int32} {BC T : Int32} {bs : List (List Nat)} (h : CB S BE BC T bs) {t : Nat} (ht : t < bs.length) {at0 : Nat} (ha : at0 ≤ (bd bs t).length) : D_ImageWriter_bestDistance 2550 (nI (q_off bs t)) (nI (q_off bs t + at0)) (nI (q_off bs t + (bd bs t).length)) BE BC (bsI (q_best (bd bs t) at0)) := by
  obtain ⟨q, hq⟩ := t_best h ht ha 1 (by omega) (by omega) (0, 0) (by simp)
  refine ⟨q, ?_⟩
  have e : bsI (0, 0) = -nI 1 := by simp [bsI]
  rw [e] at hq
  simpa [q_lit, q_best] using hq
theorem el_tot {n c : Nat} (hc : c ≤ n) (hn : n < 1073741824) (k : Int32) (E : Nat → Int32) : ∃ r, D_Row_element n k E (nI c) r := by
  by_cases h : k < 0
  · exact ⟨0, fun _ => rfl, fun h9 => absurd h h9⟩
  · obtain ⟨j, hj, rfl⟩ := nI_of h
    by_cases h1 : c ≤ j
    · refine ⟨0, ?_⟩
      simp (disch := omega) only [D_Row_element, q_lit, le_T, le_F, lt_T, lt_F, eq_T, eq_F, m1_lt, m1_le, lt_m1, le_m1, eq_m1, m1_eq, nI_add, nI_sub, nI_dec, nI_mul, nI_or, nI_and, nI_div, nI_mod, and_255, and_31, and_1, and_63, nI_shl, nI_shr, bI_F, bI_1, vp_T, cl_T, true_implies, false_implies, not_true_eq_false, not_false_eq_true, true_and, and_true, false_and, and_false, Bool.false_eq_true, Bool.true_eq_false, reduceCtorEq, implies_true]
    · refine ⟨E j, ?_⟩
      simp (disch := omega) only [D_Row_element, q_lit, le_T, le_F, lt_T, lt_F, eq_T, eq_F, m1_lt, m1_le, lt_m1, le_m1, eq_m1, m1_eq, nI_add, nI_sub, nI_dec, nI_mul, nI_or, nI_and, nI_div, nI_mod, and_255, and_31, and_1, and_63, nI_shl, nI_shr, bI_F, bI_1, vp_T, cl_T, true_implies, false_implies, not_true_eq_false, not_false_eq_true, true_and, and_true, false_and, and_false, Bool.false_eq_true, Bool.true_eq_false, reduceCtorEq, implies_true]
theorem rep_tot {n c : Nat} (hc : c ≤ n) (hn : n < 1073741824) (k x : Int32) (E : Nat → Int32) : ∃ E', D_Row_replace n k x E (nI c) E' := by
  by_cases h : k < 0
  · exact ⟨E, false, ⟨fun _ => rfl, fun h9 => absurd h h9⟩, fun _ => rfl, fun h9 => absurd (by decide) h9⟩
  · obtain ⟨j, hj, rfl⟩ := nI_of h
    by_cases h1 : c ≤ j
    · refine ⟨E, false, ?_, fun _ => rfl, fun h9 => absurd (by decide) h9⟩
      simp (disch := omega) only [D_Row_has, q_lit, le_T, le_F, lt_T, lt_F, eq_T, eq_F, m1_lt, m1_le, lt_m1, le_m1, eq_m1, m1_eq, nI_add, nI_sub, nI_dec, nI_mul, nI_or, nI_and, nI_div, nI_mod, and_255, and_31, and_1, and_63, nI_shl, nI_shr, bI_F, bI_1, vp_T, cl_T, true_implies, false_implies, not_true_eq_false, not_false_eq_true, true_and, and_true, false_and, and_false, Bool.false_eq_true, Bool.true_eq_false, reduceCtorEq, implies_true]
    · refine ⟨upd E j x, true, ?_, ?_⟩
      · simp (disch := omega) only [D_Row_has, q_lit, le_T, le_F, lt_T, lt_F, eq_T, eq_F, m1_lt, m1_le, lt_m1, le_m1, eq_m1, m1_eq, nI_add, nI_sub, nI_dec, nI_mul, nI_or, nI_and, nI_div, nI_mod, and_255, and_31, and_1, and_63, nI_shl, nI_shr, bI_F, bI_1, vp_T, cl_T, true_implies, false_implies, not_true_eq_false, not_false_eq_true, true_and, and_true, false_and, and_false, Bool.false_eq_true, Bool.true_eq_false, reduceCtorEq, implies_true]
      · simp (disch := omega) only [q_lit, le_T, le_F, lt_T, lt_F, eq_T, eq_F, m1_lt, m1_le, lt_m1, le_m1, eq_m1, m1_eq, nI_add, nI_sub, nI_dec, nI_mul, nI_or, nI_and, nI_div, nI_mod, and_255, and_31, and_1, and_63, nI_shl, nI_shr, bI_F, bI_1, vp_T, cl_T, true_implies, false_implies, not_true_eq_false, not_false_eq_true, true_and, and_true, false_and, and_false, Bool.false_eq_true, Bool.true_eq_false, reduceCtorEq, implies_true]
theorem lits_1 {b : List Nat} {at0 : Nat} (h : at0 < b.length) : lits b (at0 + 1) 1 = [0, b.getD at0 0] := by
  simp only [lits, show ¬ (1 = 0) by omega, if_false, Nat.add_sub_cancel]
  rw [drop_s h]; simp
theorem lits_s {b : List Nat} {at0 n : Nat} (h : at0 < b.length) (hn : 0 < n) (hna : n ≤ at0) : lits b (at0 + 1) (n + 1) = n :: ((b.drop (at0 - n)).take n ++ [b.getD at0 0]) := by
  simp only [lits, show ¬ (n + 1 = 0) by omega, if_false, Nat.add_sub_cancel]
  congr 1
  rw [show at0 + 1 - (n + 1) = at0 - n by omega, List.take_succ]
  congr 1
  rw [List.getElem?_drop, show at0 - n + n = at0 by omega, List.getElem?_eq_getElem h]
  simp [List.getD_eq_getElem?_getD, List.getElem?_eq_getElem h]
theorem lits_len {b : List Nat} {at0 n : Nat} (h : at0 ≤ b.length) (hna : n ≤ at0) : (lits b at0 n).length = if n = 0 then 0 else n + 1 := by
  unfold lits; split
  · rfl
  · simp; omega
/-- one more plain sign -/
theorem wr_plain {b : List Nat} {at0 : Nat} (ha : at0 < b.length) {li : Nat} (hl : li ≤ 128) (hla : li ≤ at0) {E : Nat → Int32} {C : Int32} {O : Bool} {L : List Nat} {ph : Int32} (h : RO E C O (L ++ lits b at0 li)) (hph : O = false → ph = if li = 0 then -nI 1 else nI L.length) :
    ∃ r E' C' O', D_ImageWriter_appendPlain 3000 (nI (b.getD at0 0)) ph E C O r E' C' O' ∧ RO E' C' O' ((if li = 128 then L ++ lits b at0 li else L) ++ lits b (at0 + 1) (if li = 128 then 1 else li + 1)) ∧ (O' = false → r = nI (if li = 128 then L ++ lits b at0 li else L).length) := by
  have hll := lits_len (b := b) (at0 := at0) (n := li) (by omega) hla
  -- a new piece
  have newp : ∀ (M : List Nat), RO E C O M → ∃ r E' C' O', T_ImageWriter_appendPlain 3000 r E' C' O' 2 0 (nI (b.getD at0 0)) 0 E C O ∧ RO E' C' O' (M ++ lits b (at0 + 1) 1) ∧ (O' = false → r = nI M.length) := by
    intro M hM
    obtain ⟨E1, C1, O1, a1, a2⟩ := ro_app hM 0
    obtain ⟨E2, C2, O2, b1, b2⟩ := ro_app a2 (b.getD at0 0)
    refine ⟨C, E2, C2, O2, ⟨E1, C1, O1, a1, E2, C2, O2, b1, rfl, rfl, rfl, rfl⟩, by rw [lits_1 ha]; simpa using b2, fun h9 => ?_⟩
    rcases hM with ⟨_, h8⟩ | ⟨h8, h7, h6⟩
    · exact h8.1
    · exfalso
      rcases b2 with ⟨_, h5⟩ | ⟨h5, _⟩
      · have := h5.2.1
        simp only [List.length_append, List.length_cons, List.length_nil] at this; omega
      · rw [h9] at h5; cases h5
  rcases h with ⟨rfl, h1⟩ | ⟨rfl, h1, rfl⟩
  · have hp := hph rfl
    by_cases h0 : li = 0
    · subst h0
      rw [if_pos rfl] at hp
      subst hp
      obtain ⟨r, E', C', O', c1, c2, c3⟩ := newp L (Or.inl ⟨rfl, by simpa [lits] using h1⟩)
      refine ⟨r, E', C', O', ⟨2, fun _ => c1, fun h9 => absurd rfl h9⟩, by rw [if_neg (by omega), if_neg (by omega)]; exact c2, by rw [if_neg (by omega)]; exact c3⟩
    · rw [if_neg h0] at hp
      subst hp
      have hL3 := h1.2.1
      rw [List.length_append, hll, if_neg h0] at hL3
      have hget : (L ++ lits b at0 li).getD L.length 0 = li - 1 := by
        unfold lits; rw [if_neg h0]; simp [List.getD_eq_getElem?_getD]
      have hel := row_el h1 (k := L.length) (by omega)
      rw [hget] at hel
      by_cases h128 : li = 128
      · obtain ⟨r, E', C', O', c1, c2, c3⟩ := newp _ (Or.inl ⟨rfl, h1⟩)
        refine ⟨r, E', C', O', ⟨2, fun h9 => ?_, fun _ => ⟨_, hel, fun _ => c1, fun h9 => ?_⟩⟩, by rw [if_pos h128, if_pos h128]; exact c2, by rw [if_pos h128]; exact c3⟩
        · exfalso; revert h9; simp (disch := omega) only [q_lit, le_T, le_F, lt_T, lt_F, eq_T, eq_F, m1_lt, m1_le, lt_m1, le_m1, eq_m1, m1_eq, nI_add, nI_sub, nI_dec, nI_mul, nI_or, nI_and, nI_div, nI_mod, and_255, and_31, and_1, and_63, nI_shl, nI_shr, bI_F, bI_1, vp_T, cl_T, true_implies, false_implies, not_true_eq_false, not_false_eq_true, true_and, and_true, false_and, and_false, Bool.false_eq_true, Bool.true_eq_false, reduceCtorEq, implies_true]
        · exfalso; revert h9; simp (disch := omega) only [q_lit, le_T, le_F, lt_T, lt_F, eq_T, eq_F, m1_lt, m1_le, lt_m1, le_m1, eq_m1, m1_eq, nI_add, nI_sub, nI_dec, nI_mul, nI_or, nI_and, nI_div, nI_mod, and_255, and_31, and_1, and_63, nI_shl, nI_shr, bI_F, bI_1, vp_T, cl_T, true_implies, false_implies, not_true_eq_false, not_false_eq_true, true_and, and_true, false_and, and_false, Bool.false_eq_true, Bool.true_eq_false, reduceCtorEq, implies_true]
      · have hset := rw_set h1 (k := L.length) (by rw [List.length_append, hll, if_neg h0]; omega) li
        have eset : (L ++ lits b at0 li).set L.length li = L ++ (li :: (b.drop (at0 - li)).take li) := by
          unfold lits; rw [if_neg h0]; simp
        rw [eset] at hset
        obtain ⟨E2, C2, O2, b1, b2⟩ := ro_app (E := upd E L.length (nI li)) (C := C) (O := false) (Or.inl ⟨rfl, hset⟩) (b.getD at0 0)
        refine ⟨nI L.length, E2, C2, O2, ⟨1, fun h9 => ?_, fun _ => ⟨_, hel, fun h9 => ?_, fun _ => ⟨_, hel, upd E L.length (nI li), ?_, ?_⟩⟩⟩, ?_, fun _ => by rw [if_neg h128]⟩
        · exfalso; revert h9; simp (disch := omega) only [q_lit, le_T, le_F, lt_T, lt_F, eq_T, eq_F, m1_lt, m1_le, lt_m1, le_m1, eq_m1, m1_eq, nI_add, nI_sub, nI_dec, nI_mul, nI_or, nI_and, nI_div, nI_mod, and_255, and_31, and_1, and_63, nI_shl, nI_shr, bI_F, bI_1, vp_T, cl_T, true_implies, false_implies, not_true_eq_false, not_false_eq_true, true_and, and_true, false_and, and_false, Bool.false_eq_true, Bool.true_eq_false, reduceCtorEq, implies_true]
        · exfalso; revert h9; simp (disch := omega) only [q_lit, le_T, le_F, lt_T, lt_F, eq_T, eq_F, m1_lt, m1_le, lt_m1, le_m1, eq_m1, m1_eq, nI_add, nI_sub, nI_dec, nI_mul, nI_or, nI_and, nI_div, nI_mod, and_255, and_31, and_1, and_63, nI_shl, nI_shr, bI_F, bI_1, vp_T, cl_T, true_implies, false_implies, not_true_eq_false, not_false_eq_true, true_and, and_true, false_and, and_false, Bool.false_eq_true, Bool.true_eq_false, reduceCtorEq, implies_true]
        · refine ⟨true, ?_, ?_⟩
          · rw [h1.1, List.length_append, hll, if_neg h0]
            simp (disch := omega) only [D_Row_has, q_lit, le_T, le_F, lt_T, lt_F, eq_T, eq_F, m1_lt, m1_le, lt_m1, le_m1, eq_m1, m1_eq, nI_add, nI_sub, nI_dec, nI_mul, nI_or, nI_and, nI_div, nI_mod, and_255, and_31, and_1, and_63, nI_shl, nI_shr, bI_F, bI_1, vp_T, cl_T, true_implies, false_implies, not_true_eq_false, not_false_eq_true, true_and, and_true, false_and, and_false, Bool.false_eq_true, Bool.true_eq_false, reduceCtorEq, implies_true]
          · simp (disch := omega) only [q_lit, le_T, le_F, lt_T, lt_F, eq_T, eq_F, m1_lt, m1_le, lt_m1, le_m1, eq_m1, m1_eq, nI_add, nI_sub, nI_dec, nI_mul, nI_or, nI_and, nI_div, nI_mod, and_255, and_31, and_1, and_63, nI_shl, nI_shr, bI_F, bI_1, vp_T, cl_T, true_implies, false_implies, not_true_eq_false, not_false_eq_true, true_and, and_true, false_and, and_false, Bool.false_eq_true, Bool.true_eq_false, reduceCtorEq, implies_true]
            rw [show li - 1 + 1 = li by omega]
        · exact ⟨E2, C2, O2, b1, rfl, rfl, rfl, rfl⟩
        · rw [if_neg h128, if_neg h128, lits_s ha (by omega) hla]
          simpa using b2
  · -- overfull already
    have hlong : 3000 < ((if li = 128 then L ++ lits b at0 li else L) ++ lits b (at0 + 1) (if li = 128 then 1 else li + 1)).length := by
      rw [List.length_append] at h1
      by_cases h128 : li = 128
      · rw [if_pos h128, if_pos h128, List.length_append, List.length_append]; omega
      · rw [if_neg h128, if_neg h128, List.length_append, lits_len (by omega) (by omega), if_neg (by omega)]
        rw [hll] at h1
        split at h1 <;> omega
    have q_fin : ∀ (E9 : Nat → Int32) (x3 : Int32), T_ImageWriter_appendPlain 3000 x3 E9 (nI 3000) true 1 1 (nI (b.getD at0 0)) x3 E9 (nI 3000) true := by
      intro E9 x3
      refine ⟨E9, nI 3000, true, ?_, rfl, rfl, rfl, rfl⟩
      simp (disch := omega) only [D_Row_append, q_lit, le_T, le_F, lt_T, lt_F, eq_T, eq_F, m1_lt, m1_le, lt_m1, le_m1, eq_m1, m1_eq, nI_add, nI_sub, nI_dec, nI_mul, nI_or, nI_and, nI_div, nI_mod, and_255, and_31, and_1, and_63, nI_shl, nI_shr, bI_F, bI_1, vp_T, cl_T, true_implies, false_implies, not_true_eq_false, not_false_eq_true, true_and, and_true, false_and, and_false, Bool.false_eq_true, Bool.true_eq_false, reduceCtorEq, implies_true]
    have new2 : ∀ (E9 : Nat → Int32), T_ImageWriter_appendPlain 3000 (nI 3000) E9 (nI 3000) true 2 0 (nI (b.getD at0 0)) 0 E9 (nI 3000) true := by
      intro E9
      refine ⟨E9, nI 3000, true, ?_, q_fin E9 _⟩
      simp (disch := omega) only [D_Row_append, q_lit, le_T, le_F, lt_T, lt_F, eq_T, eq_F, m1_lt, m1_le, lt_m1, le_m1, eq_m1, m1_eq, nI_add, nI_sub, nI_dec, nI_mul, nI_or, nI_and, nI_div, nI_mod, and_255, and_31, and_1, and_63, nI_shl, nI_shr, bI_F, bI_1, vp_T, cl_T, true_implies, false_implies, not_true_eq_false, not_false_eq_true, true_and, and_true, false_and, and_false, Bool.false_eq_true, Bool.true_eq_false, reduceCtorEq, implies_true]
    by_cases hp : ph = -1
    · exact ⟨nI 3000, E, nI 3000, true, ⟨2, fun _ => new2 E, fun h9 => absurd hp h9⟩, Or.inr ⟨rfl, hlong, rfl⟩, fun h9 => by cases h9⟩
    · obtain ⟨r9, hr9⟩ := el_tot (n := 3000) (c := 3000) (Nat.le_refl _) (by omega) ph E
      by_cases h127 : r9 = 127
      · exact ⟨nI 3000, E, nI 3000, true, ⟨2, fun h9 => absurd h9 hp, fun _ => ⟨r9, hr9, fun _ => new2 E, fun h9 => absurd h127 h9⟩⟩, Or.inr ⟨rfl, hlong, rfl⟩, fun h9 => by cases h9⟩
      · obtain ⟨E9, hE9⟩ := rep_tot (n := 3000) (c := 3000) (Nat.le_refl _) (by omega) ph (r9 + 1) E
        exact ⟨ph, E9, nI 3000, true, ⟨1, fun h9 => absurd h9 hp, fun _ => ⟨r9, hr9, fun h9 => absurd h9 h127, fun _ => ⟨r9, hr9, E9, hE9, q_fin E9 ph⟩⟩⟩, Or.inr ⟨rfl, hlong, rfl⟩, fun h9 => by cases h9⟩
theorem t_pack {S BE : Nat → Int32} {BC T : Int32} {bs : List (List Nat)} (h : CB S BE BC T bs) {t : Nat} (ht : t < bs.length) (at0 li : Nat) (ha : at0 ≤ (bd bs t).length) (hl : li ≤ 128) (hla : li ≤ at0) (L : List Nat) (E : Nat → Int32) (C : Int32) (O : Bool) (ph : Int32) (hR : RO E C O (L ++ lits (bd bs t) at0 li)) (hph : O = false → ph = if li = 0 then -nI 1 else nI L.length) :
    ∃ E' C' O', (∃ q, T_ImageWriter_pack 2550 3000 S BE BC T E' C' O' q (nI (q_off bs t)) (nI (q_off bs t + (bd bs t).length)) ph (nI (q_off bs t + at0)) E C O) ∧ RO E' C' O' (L ++ pkS (bd bs t) at0 li) := by
  have hlen := h.len ht
  rw [pkS]
  by_cases h1 : at0 < (bd bs t).length
  · rw [dif_pos h1]
    have hbest := wr_best h ht ha
    by_cases h2 : 2 < (q_best (bd bs t) at0).1
    · rw [dif_pos h2]
      have hb := best_ok h2
      have e1 : bsI (q_best (bd bs t) at0) = nI (q_best (bd bs t) at0).2 := by simp only [bsI]; rw [if_pos h2]
      have hal := wr_alike h ht hb.1 hb.2.1 ha
      rw [← hb.2.2] at hal
      have hend := alk_end (bd bs t) at0 (q_best (bd bs t) at0).2 0 (by omega)
      rw [← hb.2.2] at hend
      have h63 : (q_best (bd bs t) at0).1 ≤ 63 := by rw [hb.2.2]; exact alk_le _ _ _ _ (by omega)
      obtain ⟨E1, C1, O1, a1, a2⟩ := ro_app hR (128 + (q_best (bd bs t) at0).1 - 3)
      obtain ⟨E2, C2, O2, b1, b2⟩ := ro_app a2 (q_best (bd bs t) at0).2
      obtain ⟨E', C', O', ⟨q, hq⟩, c2⟩ := t_pack h ht (at0 + (q_best (bd bs t) at0).1) 0 hend (by omega) (by omega) (L ++ lits (bd bs t) at0 li ++ [128 + (q_best (bd bs t) at0).1 - 3] ++ [(q_best (bd bs t) at0).2]) E2 C2 O2 (-nI 1) (by simpa [lits] using b2) (fun _ => by rw [if_pos rfl])
      refine ⟨E', C', O', ⟨q + 1, ?_⟩, by simpa using c2⟩
      rw [e1] at hbest
      rw [← Nat.add_assoc] at hq
      simp (disch := omega) only [T_ImageWriter_pack, S_ImageWriter_pack, B_ImageWriter_pack_26, q_lit, le_T, le_F, lt_T, lt_F, eq_T, eq_F, m1_lt, m1_le, lt_m1, le_m1, eq_m1, m1_eq, nI_add, nI_sub, nI_dec, nI_mul, nI_or, nI_and, nI_div, nI_mod, and_255, and_31, and_1, and_63, nI_shl, nI_shr, bI_F, bI_1, vp_T, cl_T, true_implies, false_implies, not_true_eq_false, not_false_eq_true, true_and, and_true, false_and, and_false, Bool.false_eq_true, Bool.true_eq_false, reduceCtorEq, implies_true, q_lc_eq, q_lc_ge, q_lc_gt, q_lc_le, lN_or, lN_and, lN_shl, lN_shr, nI_L, lN_I, l_0]
      refine ⟨_, hbest, ?_⟩
      simp (disch := omega) only [q_lit, le_T, le_F, lt_T, lt_F, eq_T, eq_F, m1_lt, m1_le, lt_m1, le_m1, eq_m1, m1_eq, nI_add, nI_sub, nI_dec, nI_mul, nI_or, nI_and, nI_div, nI_mod, and_255, and_31, and_1, and_63, nI_shl, nI_shr, bI_F, bI_1, vp_T, cl_T, true_implies, false_implies, not_true_eq_false, not_false_eq_true, true_and, and_true, false_and, and_false, Bool.false_eq_true, Bool.true_eq_false, reduceCtorEq, implies_true]
      exact ⟨_, hal, E1, C1, O1, by simp (disch := omega) only [q_lit, le_T, le_F, lt_T, lt_F, eq_T, eq_F, m1_lt, m1_le, lt_m1, le_m1, eq_m1, m1_eq, nI_add, nI_sub, nI_dec, nI_mul, nI_or, nI_and, nI_div, nI_mod, and_255, and_31, and_1, and_63, nI_shl, nI_shr, bI_F, bI_1, vp_T, cl_T, true_implies, false_implies, not_true_eq_false, not_false_eq_true, true_and, and_true, false_and, and_false, Bool.false_eq_true, Bool.true_eq_false, reduceCtorEq, implies_true]; exact a1, E2, C2, O2, b1, by simp (disch := omega) only [q_lit, le_T, le_F, lt_T, lt_F, eq_T, eq_F, m1_lt, m1_le, lt_m1, le_m1, eq_m1, m1_eq, nI_add, nI_sub, nI_dec, nI_mul, nI_or, nI_and, nI_div, nI_mod, and_255, and_31, and_1, and_63, nI_shl, nI_shr, bI_F, bI_1, vp_T, cl_T, true_implies, false_implies, not_true_eq_false, not_false_eq_true, true_and, and_true, false_and, and_false, Bool.false_eq_true, Bool.true_eq_false, reduceCtorEq, implies_true]; exact hq⟩
    · rw [dif_neg h2]
      have e1 : bsI (q_best (bd bs t) at0) = -nI 1 := by simp only [bsI]; rw [if_neg h2]
      rw [e1] at hbest
      have hel := cb_el h ht h1
      obtain ⟨r, E1, C1, O1, a1, a2, a3⟩ := wr_plain h1 hl hla hR hph
      obtain ⟨E', C', O', ⟨q, hq⟩, c2⟩ := t_pack h ht (at0 + 1) (if li = 128 then 1 else li + 1) (by omega) (by split <;> omega) (by split <;> omega) (if li = 128 then L ++ lits (bd bs t) at0 li else L) E1 C1 O1 r a2 (fun h9 => by rw [if_neg (by split <;> omega)]; exact a3 h9)
      refine ⟨E', C', O', ⟨q + 1, ?_⟩, ?_⟩
      · simp (disch := omega) only [T_ImageWriter_pack, S_ImageWriter_pack, B_ImageWriter_pack_26, q_lit, le_T, le_F, lt_T, lt_F, eq_T, eq_F, m1_lt, m1_le, lt_m1, le_m1, eq_m1, m1_eq, nI_add, nI_sub, nI_dec, nI_mul, nI_or, nI_and, nI_div, nI_mod, and_255, and_31, and_1, and_63, nI_shl, nI_shr, bI_F, bI_1, vp_T, cl_T, true_implies, false_implies, not_true_eq_false, not_false_eq_true, true_and, and_true, false_and, and_false, Bool.false_eq_true, Bool.true_eq_false, reduceCtorEq, implies_true, q_lc_eq, q_lc_ge, q_lc_gt, q_lc_le, lN_or, lN_and, lN_shl, lN_shr, nI_L, lN_I, l_0]
        refine ⟨_, hbest, ?_⟩
        simp (disch := omega) only [q_lit, le_T, le_F, lt_T, lt_F, eq_T, eq_F, m1_lt, m1_le, lt_m1, le_m1, eq_m1, m1_eq, nI_add, nI_sub, nI_dec, nI_mul, nI_or, nI_and, nI_div, nI_mod, and_255, and_31, and_1, and_63, nI_shl, nI_shr, bI_F, bI_1, vp_T, cl_T, true_implies, false_implies, not_true_eq_false, not_false_eq_true, true_and, and_true, false_and, and_false, Bool.false_eq_true, Bool.true_eq_false, reduceCtorEq, implies_true]
        exact ⟨_, hel, r, E1, C1, O1, a1, hq⟩
      · by_cases h128 : li = 128
        · rw [if_pos h128, if_pos h128] at c2
          rw [if_pos h128]
          rw [h128] at c2
          simpa using c2
        · rw [if_neg h128, if_neg h128] at c2
          rw [if_neg h128]; exact c2
  · rw [dif_neg h1]
    refine ⟨E, C, O, ⟨1, ?_⟩, hR⟩
    simp (disch := omega) only [T_ImageWriter_pack, S_ImageWriter_pack, B_ImageWriter_pack_26, q_lit, le_T, le_F, lt_T, lt_F, eq_T, eq_F, m1_lt, m1_le, lt_m1, le_m1, eq_m1, m1_eq, nI_add, nI_sub, nI_dec, nI_mul, nI_or, nI_and, nI_div, nI_mod, and_255, and_31, and_1, and_63, nI_shl, nI_shr, bI_F, bI_1, vp_T, cl_T, true_implies, false_implies, not_true_eq_false, not_false_eq_true, true_and, and_true, false_and, and_false, Bool.false_eq_true, Bool.true_eq_false, reduceCtorEq, implies_true, q_lc_eq, q_lc_ge, q_lc_gt, q_lc_le, lN_or, lN_and, lN_shl, lN_shr, nI_L, lN_I, l_0]
termination_by (bd bs t).length - at0
decreasing_by all_goals omega
theorem wr_pack {S BE : Nat → Int32} {BC T : Int32} {bs : List (List Nat)} (h : CB S BE BC T bs) {t : Nat} (ht : t < bs.length) {L : List Nat} {E : Nat → Int32} {C : Int32} {O : Bool} (hR : RO E C O L) : ∃ E' C' O', D_ImageWriter_pack 2550 3000 (nI t) S BE BC T E C O E' C' O' ∧ RO E' C' O' (L ++ pk (bd bs t)) := by
  obtain ⟨E', C', O', ⟨q, hq⟩, c2⟩ := t_pack h ht 0 0 (by omega) (by omega) (by omega) L E C O (-nI 1) (by simpa [lits] using hR) (fun _ => by rw [if_pos rfl])
  exact ⟨E', C', O', ⟨q, _, cb_start h ht, _, cb_end h ht, by simpa [q_lit] using hq⟩, c2⟩
