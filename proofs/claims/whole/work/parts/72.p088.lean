/-! Pure: a text of the source is read, the class. -/
theorem letRun_nil_le {L : List Nat} {k f : Nat} : (letRun L k f).length ≤ f - k := by
  unfold letRun
  exact Nat.le_trans (List.takeWhile_sublist _).length_le (by simp; omega)
theorem letEnd_ge (L : List Nat) (k f : Nat) : k ≤ letEnd L k f := by unfold letEnd; omega
theorem letEnd_le {L : List Nat} {k f : Nat} (h : k ≤ f) : letEnd L k f ≤ f := by
  have := letRun_nil_le (L := L) (k := k) (f := f)
  unfold letEnd; omega
theorem sm_let {x : Nat} (h : isSm x = true) : isLet x = true := by simp [isLet, h]
theorem smAll_run {L : List Nat} {s f : Nat} (h : smAll L s f = true) (hf : f ≤ L.length) (hs : s ≤ f) : letRun L s f = (L.drop s).take (f - s) ∧ q_Wd ((L.drop s).take (f - s)) ∧ ((L.drop s).take (f - s)).length = f - s := by
  by_cases h1 : s < f
  · rw [smAll_step h1, Bool.and_eq_true] at h
    have := smAll_run h.2 hf (by omega)
    rw [letRun_step h1 (sm_let h.1), drop_s (by omega), show f - s = (f - (s + 1)) + 1 by omega, List.take_succ_cons, this.1]
    refine ⟨rfl, ?_, by simp [this.2.2]⟩
    intro x hx
    simp only [List.mem_cons] at hx
    rcases hx with hx | hx
    · have h2 := h.1
      rw [← hx] at h2
      simpa [isSm] using h2
    · exact this.2.1 x hx
  · have : f - s = 0 := by omega
    rw [this]
    refine ⟨?_, by intro x hx; simp at hx, by simp⟩
    rw [letRun_stop (Or.inl (by omega))]; simp
termination_by f - s
decreasing_by all_goals omega
def lkOkS (L : List Nat) (k f : Nat) : Bool := decide (letEnd L (k + 1) f < f) && decide (L.getD (letEnd L (k + 1) f) 0 = 93) && isWdS L (k + 1) (letEnd L (k + 1) f) 6
def lnkA (L : List Nat) (k f ln : Nat) (a : q_Cs) : q_Cs := ((a.1, q_addB (q_addB a.2.1 2) 0, a.2.2.1, a.2.2.2.1, a.2.2.2.2.1 ++ [⟨k + 1, letEnd L (k + 1) f - (k + 1), ln, a.2.1.length - 1, (bd a.2.1 (a.2.1.length - 1)).length + 1⟩], a.2.2.2.2.2.1, a.2.2.2.2.2.2.1, a.2.2.2.2.2.2.2.1, a.2.2.2.2.2.2.2.2.1, a.2.2.2.2.2.2.2.2.2.1, a.2.2.2.2.2.2.2.2.2.2) : q_Cs)
def q_txt (L : List Nat) (f ln : Nat) (a : q_Cs) (k : Nat) : q_Cs :=
  if k < f ∧ a.2.2.2.2.2.1 = 0 then
    if L.getD k 0 = 32 then q_txt L f ln ((a.1, a.2.1, a.2.2.1, a.2.2.2.1, a.2.2.2.2.1, a.2.2.2.2.2.1, a.2.2.2.2.2.2.1, a.2.2.2.2.2.2.2.1, a.2.2.2.2.2.2.2.2.1, a.2.2.2.2.2.2.2.1, a.2.2.2.2.2.2.2.2.2.2) : q_Cs) (k + 1)
    else if L.getD k 0 = 91 then
      if lkOkS L k f = true then q_txt L f ln (lnkA L k f ln (dueB a)) (letEnd L (k + 1) f + 1)
      else q_txt L f ln (blm 6 ln (dueB a)) (k + 1)
    else q_txt L f ln (q_sgn (L.getD k 0) ln (dueB a)) (k + 1)
  else a
termination_by f - k
decreasing_by
  · omega
  · have := letEnd_ge L (k + 1) f; omega
  · omega
  · omega
theorem row_appL {n : Nat} {E : Nat → Int32} {C : Int32} {L : List Nat} (h : Rw n E C L) : L.length < 2 ^ 30 := by have := h.2.1; have := h.2.2.1; omega
theorem ci_link {L : List Nat} {sE : Nat → Int32} {sC : Int32} (hs : Rw 700 sE sC L) (hv : ∀ i, L.getD i 0 < 2147483648) {c : q_CC} {a : q_Cs} (h : q_CI L c a) (hne : a.2.1 ≠ []) (hl : a.2.1.flatten.length < 2548) (hk4 : a.2.2.2.2.1.length < 234) {k f ln : Nat} (hkf : k < f) (hf : f ≤ L.length) (hW : c.2.2.2.2.2.2.2.1 = nI ln) :
    ∃ N' L' P' K' F' E' S' BE' BC', D_Compiler_readLink 700 2550 (nI k) (nI f) c.2.1 c.2.2.1 c.2.2.2.1 c.2.2.2.2.1 c.2.2.2.2.2.1 c.2.2.2.2.2.2.1 c.2.2.2.2.2.2.2.1 sE sC c.2.2.2.2.2.2.2.2.2.2.2.2.2.1 c.2.2.2.2.2.2.2.2.2.2.2.2.2.2.1 c.2.2.2.2.2.2.2.2.2.2.2.2.2.2.2.1 c.2.2.2.2.2.2.2.2.2.2.2.2.2.2.2.2.1 c.2.2.2.2.2.2.2.2.2.2.2.2.2.2.2.2.2.2.2.2 (nI (if lkOkS L k f = true then letEnd L (k + 1) f else k)) N' L' P' K' F' E' S' BE' BC' c.2.2.2.2.2.2.2.2.2.2.2.2.2.2.2.2.1 ∧ q_CI L ((c.1, N', L', P', K', F', E', c.2.2.2.2.2.2.2.1, c.2.2.2.2.2.2.2.2.1, c.2.2.2.2.2.2.2.2.2.1, c.2.2.2.2.2.2.2.2.2.2.1, c.2.2.2.2.2.2.2.2.2.2.2.1, c.2.2.2.2.2.2.2.2.2.2.2.2.1, S', BE', BC', c.2.2.2.2.2.2.2.2.2.2.2.2.2.2.2.2.1, c.2.2.2.2.2.2.2.2.2.2.2.2.2.2.2.2.2.1, c.2.2.2.2.2.2.2.2.2.2.2.2.2.2.2.2.2.2.1, c.2.2.2.2.2.2.2.2.2.2.2.2.2.2.2.2.2.2.2.1, c.2.2.2.2.2.2.2.2.2.2.2.2.2.2.2.2.2.2.2.2) : q_CC) (if lkOkS L k f = true then lnkA L k f ln a else blm 6 ln a) := by
  have hL7 := hs.2.1
  have he1 := letEnd_ge L (k + 1) f
  have he2 := letEnd_le (L := L) (k := k + 1) (f := f) (by omega)
  have hend : D_Letters_lettersEnd 700 (nI k + 1) (nI f) sE sC (nI (letEnd L (k + 1) f)) := by rw [nI_1]; exact let_lettersEnd hs hv (k := k + 1) (f := f) (by omega) (by omega)
  obtain ⟨F', E', b1, b2⟩ := ci_blame h (k := 6) (l := ln) (by omega) (by omega)
  have hbad : ∀ q x3, T_Compiler_readLink 700 2550 c.2.2.2.2.2.2.2.1 sE sC c.2.2.2.2.2.2.2.2.2.2.2.2.2.2.2.2.2.2.2.2 (nI k) c.2.1 c.2.2.1 c.2.2.2.1 c.2.2.2.2.1 F' E' c.2.2.2.2.2.2.2.2.2.2.2.2.2.1 c.2.2.2.2.2.2.2.2.2.2.2.2.2.2.1 c.2.2.2.2.2.2.2.2.2.2.2.2.2.2.2.1 c.2.2.2.2.2.2.2.2.2.2.2.2.2.2.2.2.1 (q + 3) 0 (nI k) x3 false c.2.1 c.2.2.1 c.2.2.2.1 c.2.2.2.2.1 c.2.2.2.2.2.1 c.2.2.2.2.2.2.1 c.2.2.2.2.2.2.2.2.2.2.2.2.2.1 c.2.2.2.2.2.2.2.2.2.2.2.2.2.2.1 c.2.2.2.2.2.2.2.2.2.2.2.2.2.2.2.1 c.2.2.2.2.2.2.2.2.2.2.2.2.2.2.2.2.1 := by
    intro q x3
    simp only [T_Compiler_readLink, S_Compiler_readLink, B_Compiler_readLink_50, B_Compiler_readLink_53, B_Compiler_readLink_68]
    simp (disch := omega) only [q_lit, le_T, le_F, lt_T, lt_F, eq_T, eq_F, m1_lt, m1_le, lt_m1, le_m1, eq_m1, m1_eq, nI_add, nI_sub, nI_dec, nI_mul, nI_or, nI_and, nI_div, nI_mod, and_255, and_31, and_1, and_63, nI_shl, nI_shr, bI_F, bI_1, vp_T, cl_T, true_implies, false_implies, not_true_eq_false, not_false_eq_true, true_and, and_true, false_and, and_false, Bool.false_eq_true, Bool.true_eq_false, reduceCtorEq, implies_true]
    refine ⟨F', E', by rw [hW]; exact b1, rfl, rfl⟩
  by_cases h1 : letEnd L (k + 1) f < f
  · by_cases h2 : L.getD (letEnd L (k + 1) f) 0 = 93
    · have hiw := let_isWord hs hv (s := k + 1) (f := letEnd L (k + 1) f) (m := 6) (by omega) (by omega) (by omega)
      cases h3 : isWdS L (k + 1) (letEnd L (k + 1) f) 6 with
      | false =>
        have e : lkOkS L k f = false := by simp only [lkOkS, h3, Bool.and_false]
        rw [h3] at hiw
        refine ⟨c.2.1, c.2.2.1, c.2.2.2.1, c.2.2.2.2.1, F', E', c.2.2.2.2.2.2.2.2.2.2.2.2.2.1, c.2.2.2.2.2.2.2.2.2.2.2.2.2.2.1, c.2.2.2.2.2.2.2.2.2.2.2.2.2.2.2.1, ⟨3, _, hend, ?_⟩, by simp only [e, Bool.false_eq_true, if_false]; exact b2⟩
        · simp only [e, Bool.false_eq_true, if_false]
          simp (disch := omega) only [q_lit, le_T, le_F, lt_T, lt_F, eq_T, eq_F, m1_lt, m1_le, lt_m1, le_m1, eq_m1, m1_eq, nI_add, nI_sub, nI_dec, nI_mul, nI_or, nI_and, nI_div, nI_mod, and_255, and_31, and_1, and_63, nI_shl, nI_shr, bI_F, bI_1, vp_T, cl_T, true_implies, false_implies, not_true_eq_false, not_false_eq_true, true_and, and_true, false_and, and_false, Bool.false_eq_true, Bool.true_eq_false, reduceCtorEq, implies_true]
          refine ⟨_, row_el hs (by omega), ?_⟩
          simp (disch := omega) only [h2, q_lit, le_T, le_F, lt_T, lt_F, eq_T, eq_F, m1_lt, m1_le, lt_m1, le_m1, eq_m1, m1_eq, nI_add, nI_sub, nI_dec, nI_mul, nI_or, nI_and, nI_div, nI_mod, and_255, and_31, and_1, and_63, nI_shl, nI_shr, bI_F, bI_1, vp_T, cl_T, true_implies, false_implies, not_true_eq_false, not_false_eq_true, true_and, and_true, false_and, and_false, Bool.false_eq_true, Bool.true_eq_false, reduceCtorEq, implies_true]
          refine ⟨_, by simpa [q_lit] using hiw, ?_⟩
          simp (disch := omega) only [q_lit, le_T, le_F, lt_T, lt_F, eq_T, eq_F, m1_lt, m1_le, lt_m1, le_m1, eq_m1, m1_eq, nI_add, nI_sub, nI_dec, nI_mul, nI_or, nI_and, nI_div, nI_mod, and_255, and_31, and_1, and_63, nI_shl, nI_shr, bI_F, bI_1, vp_T, cl_T, true_implies, false_implies, not_true_eq_false, not_false_eq_true, true_and, and_true, false_and, and_false, Bool.false_eq_true, Bool.true_eq_false, reduceCtorEq, implies_true]
          exact hbad 0 _
      | true =>
        have e : lkOkS L k f = true := by simp only [lkOkS, h3, decide_eq_true h1, decide_eq_true h2, Bool.and_true]
        rw [h3] at hiw
        have hsm : smAll L (k + 1) (letEnd L (k + 1) f) = true := by
          simp only [isWdS, Bool.and_eq_true] at h3; exact h3.1.1
        have hrun := smAll_run hsm (by omega) he1
        obtain ⟨S1, BE1, BC1, d1, d2, d3⟩ := ci_add h hne (by omega) (x := 2) (by omega)
        have hne2 : q_addB a.2.1 2 ≠ [] := addB_ne _ _
        have hl2 : (q_addB a.2.1 2).flatten.length = a.2.1.flatten.length + 1 := by rw [addB_flat hne]; simp
        obtain ⟨S2, BE2, BC2, g1, g2, g3⟩ := ci_add d2 hne2 (by show (q_addB a.2.1 2).flatten.length < 2550; omega) (x := 0) (by omega)
        have hword := let_word hs hv (s := k + 1) (f := letEnd L (k + 1) f) (by omega) (by omega)
        have hK := h.2.2.2.2.2.2.2.2.2.1
        have hCL := h.2.2.2.2.2.2.2.2.2
        refine ⟨vp_updL c.2.1 a.2.2.2.2.1.length (lN (enc (letRun L (k + 1) (letEnd L (k + 1) f)))), upd c.2.2.1 a.2.2.2.2.1.length (nI ln), upd c.2.2.2.1 a.2.2.2.2.1.length BC1, nI (a.2.2.2.2.1.length + 1), c.2.2.2.2.2.1, c.2.2.2.2.2.2.1, S2, BE2, BC2, ⟨1, _, hend, ?_⟩, ?_⟩
        · simp only [e, if_true]
          simp (disch := omega) only [q_lit, le_T, le_F, lt_T, lt_F, eq_T, eq_F, m1_lt, m1_le, lt_m1, le_m1, eq_m1, m1_eq, nI_add, nI_sub, nI_dec, nI_mul, nI_or, nI_and, nI_div, nI_mod, and_255, and_31, and_1, and_63, nI_shl, nI_shr, bI_F, bI_1, vp_T, cl_T, true_implies, false_implies, not_true_eq_false, not_false_eq_true, true_and, and_true, false_and, and_false, Bool.false_eq_true, Bool.true_eq_false, reduceCtorEq, implies_true]
          refine ⟨_, row_el hs (by omega), ?_⟩
          simp (disch := omega) only [h2, q_lit, le_T, le_F, lt_T, lt_F, eq_T, eq_F, m1_lt, m1_le, lt_m1, le_m1, eq_m1, m1_eq, nI_add, nI_sub, nI_dec, nI_mul, nI_or, nI_and, nI_div, nI_mod, and_255, and_31, and_1, and_63, nI_shl, nI_shr, bI_F, bI_1, vp_T, cl_T, true_implies, false_implies, not_true_eq_false, not_false_eq_true, true_and, and_true, false_and, and_false, Bool.false_eq_true, Bool.true_eq_false, reduceCtorEq, implies_true]
          refine ⟨_, by simpa [q_lit] using hiw, ?_⟩
          rw [hK, hW]
          simp (disch := omega) only [T_Compiler_readLink, S_Compiler_readLink, B_Compiler_readLink_53, q_lit, le_T, le_F, lt_T, lt_F, eq_T, eq_F, m1_lt, m1_le, lt_m1, le_m1, eq_m1, m1_eq, nI_add, nI_sub, nI_dec, nI_mul, nI_or, nI_and, nI_div, nI_mod, and_255, and_31, and_1, and_63, nI_shl, nI_shr, bI_F, bI_1, vp_T, cl_T, true_implies, false_implies, not_true_eq_false, not_false_eq_true, true_and, and_true, false_and, and_false, Bool.false_eq_true, Bool.true_eq_false, reduceCtorEq, implies_true, q_lc_eq, q_lc_ge, q_lc_gt, q_lc_le, lN_or, lN_and, lN_shl, lN_shr, nI_L, lN_I, l_0]
          exact ⟨S1, BE1, BC1, c.2.2.2.2.2.2.2.2.2.2.2.2.2.2.2.2.1, d1, _, hword, S2, BE2, BC2, c.2.2.2.2.2.2.2.2.2.2.2.2.2.2.2.2.1, g1, rfl, rfl, rfl, rfl, rfl, rfl⟩
        · simp only [e, if_true]
          obtain ⟨z1, z2, z3, z4, z5, z6, z7, z8, z9, z10⟩ := g2
          refine ⟨z1, z2, z3, z4, z5, z6, z7, z8, z9, ?_⟩
          have hpos : 0 < a.2.1.length := List.length_pos_iff.mpr hne
          refine ⟨by simp [lnkA], by simp [lnkA]; omega, fun i hi => ?_⟩
          simp only [lnkA, List.length_append, List.length_cons, List.length_nil] at hi
          have hlast : bd (q_addB a.2.1 2) (a.2.1.length - 1) = bd a.2.1 (a.2.1.length - 1) ++ [2] := by
            rw [addB_bd hne 2 (by omega), if_pos (by omega)]
          have hlast2 : bd (q_addB (q_addB a.2.1 2) 0) (a.2.1.length - 1) = bd a.2.1 (a.2.1.length - 1) ++ [2] ++ [0] := by
            rw [addB_bd hne2 0 (by rw [addB_len hne]; omega), if_pos (by rw [addB_len hne]; omega), hlast]
          by_cases h5 : i = a.2.2.2.2.1.length
          · subst h5
            have eg : (a.2.2.2.2.1 ++ [(⟨k + 1, letEnd L (k + 1) f - (k + 1), ln, a.2.1.length - 1, (bd a.2.1 (a.2.1.length - 1)).length + 1⟩ : q_Lk)]).getD a.2.2.2.2.1.length lk0 = ⟨k + 1, letEnd L (k + 1) f - (k + 1), ln, a.2.1.length - 1, (bd a.2.1 (a.2.1.length - 1)).length + 1⟩ := by simp [List.getD_eq_getElem?_getD]
            simp only [lnkA, eg]
            refine ⟨?_, upd_eq _ _ _, ?_, ?_, ?_⟩
            · simp only [vp_updL, if_true, nmL]
              rw [hrun.1]
            · rw [upd_eq, d3, addB_off hne2 0 (by rw [addB_len hne]; omega), addB_off hne 2 (by omega)]
              have := off_succ (bs := a.2.1) (t := a.2.1.length - 1) (by omega)
              rw [show a.2.1.length - 1 + 1 = a.2.1.length by omega, off_all] at this
              rw [this]; congr 1
            · rw [addB_len hne2, addB_len hne]; omega
            · rw [hlast2]; simp
          · have hi2 : i < a.2.2.2.2.1.length := by omega
            obtain ⟨q1, q2, q3, q4, q5⟩ := hCL.2.2 i hi2
            have eg : (a.2.2.2.2.1 ++ [(⟨k + 1, letEnd L (k + 1) f - (k + 1), ln, a.2.1.length - 1, (bd a.2.1 (a.2.1.length - 1)).length + 1⟩ : q_Lk)]).getD i lk0 = a.2.2.2.2.1.getD i lk0 := by simp [List.getD_eq_getElem?_getD, List.getElem?_append_left hi2]
            simp only [lnkA, eg]
            have hb1 := addB_bd_le hne 2 q4
            have hb2 := addB_bd_le hne2 0 (t := (a.2.2.2.2.1.getD i lk0).2.2.2.1) (by rw [addB_len hne]; exact q4)
            refine ⟨by simp only [vp_updL]; rw [if_neg h5]; exact q1, by rw [upd_ne (by omega)]; exact q2, ?_, ?_, by omega⟩
            · rw [upd_ne (by omega), addB_off hne2 0 (by rw [addB_len hne]; exact q4), addB_off hne 2 q4]; exact q3
            · rw [addB_len hne2, addB_len hne]; exact q4
    · have e : lkOkS L k f = false := by simp only [lkOkS, decide_eq_false h2, Bool.and_false, Bool.false_and]
      refine ⟨c.2.1, c.2.2.1, c.2.2.2.1, c.2.2.2.2.1, F', E', c.2.2.2.2.2.2.2.2.2.2.2.2.2.1, c.2.2.2.2.2.2.2.2.2.2.2.2.2.2.1, c.2.2.2.2.2.2.2.2.2.2.2.2.2.2.2.1, ⟨3, _, hend, ?_⟩, by simp only [e, Bool.false_eq_true, if_false]; exact b2⟩
      · have hv2 := hv (letEnd L (k + 1) f)
        simp only [e, Bool.false_eq_true, if_false]
        simp (disch := omega) only [q_lit, le_T, le_F, lt_T, lt_F, eq_T, eq_F, m1_lt, m1_le, lt_m1, le_m1, eq_m1, m1_eq, nI_add, nI_sub, nI_dec, nI_mul, nI_or, nI_and, nI_div, nI_mod, and_255, and_31, and_1, and_63, nI_shl, nI_shr, bI_F, bI_1, vp_T, cl_T, true_implies, false_implies, not_true_eq_false, not_false_eq_true, true_and, and_true, false_and, and_false, Bool.false_eq_true, Bool.true_eq_false, reduceCtorEq, implies_true]
        refine ⟨_, row_el hs (by omega), ?_⟩
        simp (disch := omega) only [q_lit, le_T, le_F, lt_T, lt_F, eq_T, eq_F, m1_lt, m1_le, lt_m1, le_m1, eq_m1, m1_eq, nI_add, nI_sub, nI_dec, nI_mul, nI_or, nI_and, nI_div, nI_mod, and_255, and_31, and_1, and_63, nI_shl, nI_shr, bI_F, bI_1, vp_T, cl_T, true_implies, false_implies, not_true_eq_false, not_false_eq_true, true_and, and_true, false_and, and_false, Bool.false_eq_true, Bool.true_eq_false, reduceCtorEq, implies_true]
        exact hbad 0 _
  · have e : lkOkS L k f = false := by simp only [lkOkS, decide_eq_false h1, Bool.false_and]
    refine ⟨c.2.1, c.2.2.1, c.2.2.2.1, c.2.2.2.2.1, F', E', c.2.2.2.2.2.2.2.2.2.2.2.2.2.1, c.2.2.2.2.2.2.2.2.2.2.2.2.2.2.1, c.2.2.2.2.2.2.2.2.2.2.2.2.2.2.2.1, ⟨3, _, hend, ?_⟩, by simp only [e, Bool.false_eq_true, if_false]; exact b2⟩
    · simp only [e, Bool.false_eq_true, if_false]
      simp (disch := omega) only [q_lit, le_T, le_F, lt_T, lt_F, eq_T, eq_F, m1_lt, m1_le, lt_m1, le_m1, eq_m1, m1_eq, nI_add, nI_sub, nI_dec, nI_mul, nI_or, nI_and, nI_div, nI_mod, and_255, and_31, and_1, and_63, nI_shl, nI_shr, bI_F, bI_1, vp_T, cl_T, true_implies, false_implies, not_true_eq_false, not_false_eq_true, true_and, and_true, false_and, and_false, Bool.false_eq_true, Bool.true_eq_false, reduceCtorEq, implies_true]
      exact hbad 0 _
