/-! Pure: the reference reads a line. -/
theorem mi_end {L : List Nat} {m : q_MM} {a : q_Cs} (h : MI L m a) (hX : a.2.2.2.2.2.2.2.1 = true → m.2.2.2.2.2.2.2.2.2.2.2.2.2.2.2.2.2.2.2.1 = nI a.2.2.2.2.2.2.2.2.2.2) (hl : a.2.1.flatten.length < 2550) :
    ∃ FL' F' Bo' Le', D_Model_endParagraph m.1 m.2.1 m.2.2.1 m.2.2.2.2.1 m.2.2.2.2.2.1 m.2.2.2.2.2.2.2.2.2.2.2.2.2.2.2.2.1 m.2.2.2.2.2.2.2.2.2.2.2.2.2.2.2.2.2.1 m.2.2.2.2.2.2.2.2.2.2.2.2.2.2.2.2.2.2.1 m.2.2.2.2.2.2.2.2.2.2.2.2.2.2.2.2.2.2.2.1 FL' F' Bo' Le' false false false ∧ MR L ((FL', F', m.2.2.1, m.2.2.2.1, Bo', Le', m.2.2.2.2.2.2.1, m.2.2.2.2.2.2.2.1, m.2.2.2.2.2.2.2.2.1, m.2.2.2.2.2.2.2.2.2.1, m.2.2.2.2.2.2.2.2.2.2.1, m.2.2.2.2.2.2.2.2.2.2.2.1, m.2.2.2.2.2.2.2.2.2.2.2.2.1, m.2.2.2.2.2.2.2.2.2.2.2.2.2.1, m.2.2.2.2.2.2.2.2.2.2.2.2.2.2.1, m.2.2.2.2.2.2.2.2.2.2.2.2.2.2.2.1, false, false, false, m.2.2.2.2.2.2.2.2.2.2.2.2.2.2.2.2.2.2.2.1, m.2.2.2.2.2.2.2.2.2.2.2.2.2.2.2.2.2.2.2.2.1, m.2.2.2.2.2.2.2.2.2.2.2.2.2.2.2.2.2.2.2.2.2) : q_MM) (clP a) := by
  obtain ⟨z1, z2, z3, z4, z5, z6, z7, z8, z9, z10, z11, z12, z13, z14, z15⟩ := h
  cases hi : a.2.2.2.2.2.2.2.1 with
  | false =>
    refine ⟨m.1, m.2.1, m.2.2.2.2.1, m.2.2.2.2.2.1, ⟨2, ?_⟩, Or.inl ⟨?_, ?_⟩⟩
    · rw [z12, hi]
      simp (disch := omega) only [T_Model_endParagraph, S_Model_endParagraph, B_Model_endParagraph_24, B_Model_endParagraph_37, q_lit, le_T, le_F, lt_T, lt_F, eq_T, eq_F, m1_lt, m1_le, lt_m1, le_m1, eq_m1, m1_eq, nI_add, nI_sub, nI_dec, nI_mul, nI_or, nI_and, nI_div, nI_mod, and_255, and_31, and_1, and_63, nI_shl, nI_shr, bI_F, bI_1, vp_T, cl_T, true_implies, false_implies, not_true_eq_false, not_false_eq_true, true_and, and_true, false_and, and_false, Bool.false_eq_true, Bool.true_eq_false, reduceCtorEq, implies_true, q_lc_eq, q_lc_ge, q_lc_gt, q_lc_le, lN_or, lN_and, lN_shl, lN_shr, nI_L, lN_I, l_0]
    · simp only [clP, hi, Bool.false_eq_true, if_false]; exact z2
    · simp only [clP, hi, Bool.false_eq_true, if_false]
      exact ⟨z1, z2, z3, z4, z5, z6, z7, z8, z9, z10, z11, hi.symm, (z15 hi).symm, z14, z15⟩
  | true =>
    have hne := z14 hi
    obtain ⟨Bo1, Le1, b1, b2⟩ := mo_byte z7 hne hl 10
    cases hm : a.2.2.2.2.2.2.2.2.1 with
    | false =>
      refine ⟨m.1, m.2.1, Bo1, Le1, ⟨2, ?_⟩, Or.inl ⟨?_, ?_⟩⟩
      · rw [z12, z13, hi, hm]
        simp (disch := omega) only [T_Model_endParagraph, S_Model_endParagraph, B_Model_endParagraph_24, B_Model_endParagraph_37, q_lit, le_T, le_F, lt_T, lt_F, eq_T, eq_F, m1_lt, m1_le, lt_m1, le_m1, eq_m1, m1_eq, nI_add, nI_sub, nI_dec, nI_mul, nI_or, nI_and, nI_div, nI_mod, and_255, and_31, and_1, and_63, nI_shl, nI_shr, bI_F, bI_1, vp_T, cl_T, true_implies, false_implies, not_true_eq_false, not_false_eq_true, true_and, and_true, false_and, and_false, Bool.false_eq_true, Bool.true_eq_false, reduceCtorEq, implies_true, q_lc_eq, q_lc_ge, q_lc_gt, q_lc_le, lN_or, lN_and, lN_shl, lN_shr, nI_L, lN_I, l_0]
        exact ⟨Bo1, Le1, by rw [z4]; exact b1, rfl, rfl⟩
      · simp only [clP, hi, hm, Bool.false_eq_true, if_true, if_false]; exact z2
      · simp only [clP, hi, hm, Bool.false_eq_true, if_true, if_false]
        have e := addB_len hne 10
        exact ⟨z1, z2, z3, by simp only; rw [e]; exact z4, by simp only; rw [e]; exact z5, by simp only; rw [e]; exact z6, b2, z8, fun t ht => z9 t (by simp only at ht; rw [e] at ht; exact ht), z10, ML.grow z11 hne rfl rfl rfl rfl rfl rfl rfl, rfl, rfl, (fun h => by cases h), fun _ => rfl⟩
    | true =>
      have hX' := hX hi
      refine ⟨nI a.2.2.2.2.2.2.2.2.2.2, nI 7, Bo1, Le1, ⟨2, ?_⟩, Or.inr ?_⟩
      · rw [z12, z13, hi, hm, z1, z3, hX']
        simp (disch := omega) only [T_Model_endParagraph, S_Model_endParagraph, B_Model_endParagraph_24, B_Model_endParagraph_37, q_lit, le_T, le_F, lt_T, lt_F, eq_T, eq_F, m1_lt, m1_le, lt_m1, le_m1, eq_m1, m1_eq, nI_add, nI_sub, nI_dec, nI_mul, nI_or, nI_and, nI_div, nI_mod, and_255, and_31, and_1, and_63, nI_shl, nI_shr, bI_F, bI_1, vp_T, cl_T, true_implies, false_implies, not_true_eq_false, not_false_eq_true, true_and, and_true, false_and, and_false, Bool.false_eq_true, Bool.true_eq_false, reduceCtorEq, implies_true, q_lc_eq, q_lc_ge, q_lc_gt, q_lc_le, lN_or, lN_and, lN_shl, lN_shr, nI_L, lN_I, l_0]
        exact ⟨_, _, mo_fail0, Bo1, Le1, by rw [z4]; exact b1, rfl, rfl, rfl, rfl⟩
      · simp only [clP, hi, hm, if_true, blm, z2]
        exact ⟨by omega, by omega, trivial, trivial, _, z7.1, z4⟩
theorem m_head {L : List Nat} {sE : Nat → Int32} {sC : Int32} (hs : Rw 700 sE sC L) {s f : Nat} (hf : f ≤ L.length) (hsf : s ≤ f) {w : List Nat} (hw : w = (L.drop s).take (f - s)) (hwl : w.length = f - s) {FL F : Int32} {tn : Nat} (ht : tn < 10) (Le Hg : Nat → Int32) (ln : Nat) (k : Nat) (hk : k ≤ 6) (Nm : Nat → Int32) :
    ∃ Nm', (∃ q, T_Model_heading sE FL F (nI (tn + 1)) Nm' (upd Le tn (nI 0)) (upd Hg tn (nI ln)) q (nI s) (nI f) (nI ln) (nI k) FL F (nI tn) Nm Le Hg) ∧ (∀ i, i < 6 * tn + k ∨ 6 * tn + 6 ≤ i → Nm' i = Nm i) ∧ ∀ j, k ≤ j → j < 6 → Nm' (6 * tn + j) = nI (w.getD j 0) := by
  have hL7 := hs.2.1
  by_cases h : k < 6
  · by_cases h1 : s + k < f
    · have hel := hs.2.2.2 (s + k) (by omega)
      have ew : w.getD k 0 = L.getD (s + k) 0 := by
        rw [hw]; simp only [List.getD_eq_getElem?_getD, List.getElem?_take, if_pos (show k < f - s by omega), List.getElem?_drop]
      obtain ⟨Nm', ⟨q, hq⟩, d2, d3⟩ := m_head hs hf hsf hw hwl (FL := FL) (F := F) ht Le Hg ln (k + 1) (by omega) (upd Nm (6 * tn + k) (nI (L.getD (s + k) 0)))
      refine ⟨Nm', ⟨q + 1, ?_⟩, fun i hi => ?_, fun j hj hj2 => ?_⟩
      · simp (disch := omega) only [T_Model_heading, S_Model_heading, B_Model_heading_61, hel, q_lit, le_T, le_F, lt_T, lt_F, eq_T, eq_F, m1_lt, m1_le, lt_m1, le_m1, eq_m1, m1_eq, nI_add, nI_sub, nI_dec, nI_mul, nI_or, nI_and, nI_div, nI_mod, and_255, and_31, and_1, and_63, nI_shl, nI_shr, bI_F, bI_1, vp_T, cl_T, true_implies, false_implies, not_true_eq_false, not_false_eq_true, true_and, and_true, false_and, and_false, Bool.false_eq_true, Bool.true_eq_false, reduceCtorEq, implies_true, q_lc_eq, q_lc_ge, q_lc_gt, q_lc_le, lN_or, lN_and, lN_shl, lN_shr, nI_L, lN_I, l_0]
        exact hq
      · rw [d2 i (by omega)]; simp only [upd]; rw [if_neg (by omega)]
      · by_cases h2 : j = k
        · subst h2; rw [d2 _ (by omega), upd_eq, ew]
        · exact d3 j (by omega) hj2
    · have ew : w.getD k 0 = 0 := getD_ge (by omega)
      obtain ⟨Nm', ⟨q, hq⟩, d2, d3⟩ := m_head hs hf hsf hw hwl (FL := FL) (F := F) ht Le Hg ln (k + 1) (by omega) (upd Nm (6 * tn + k) (nI 0))
      refine ⟨Nm', ⟨q + 1, ?_⟩, fun i hi => ?_, fun j hj hj2 => ?_⟩
      · simp (disch := omega) only [T_Model_heading, S_Model_heading, B_Model_heading_61, q_lit, le_T, le_F, lt_T, lt_F, eq_T, eq_F, m1_lt, m1_le, lt_m1, le_m1, eq_m1, m1_eq, nI_add, nI_sub, nI_dec, nI_mul, nI_or, nI_and, nI_div, nI_mod, and_255, and_31, and_1, and_63, nI_shl, nI_shr, bI_F, bI_1, vp_T, cl_T, true_implies, false_implies, not_true_eq_false, not_false_eq_true, true_and, and_true, false_and, and_false, Bool.false_eq_true, Bool.true_eq_false, reduceCtorEq, implies_true, q_lc_eq, q_lc_ge, q_lc_gt, q_lc_le, lN_or, lN_and, lN_shl, lN_shr, nI_L, lN_I, l_0]
        exact hq
      · rw [d2 i (by omega)]; simp only [upd]; rw [if_neg (by omega)]
      · by_cases h2 : j = k
        · subst h2; rw [d2 _ (by omega), upd_eq, ew]
        · exact d3 j (by omega) hj2
  · refine ⟨Nm, ⟨1, ?_⟩, fun i _ => rfl, fun j hj hj2 => by omega⟩
    simp (disch := omega) only [T_Model_heading, S_Model_heading, B_Model_heading_61, q_lit, le_T, le_F, lt_T, lt_F, eq_T, eq_F, m1_lt, m1_le, lt_m1, le_m1, eq_m1, m1_eq, nI_add, nI_sub, nI_dec, nI_mul, nI_or, nI_and, nI_div, nI_mod, and_255, and_31, and_1, and_63, nI_shl, nI_shr, bI_F, bI_1, vp_T, cl_T, true_implies, false_implies, not_true_eq_false, not_false_eq_true, true_and, and_true, false_and, and_false, Bool.false_eq_true, Bool.true_eq_false, reduceCtorEq, implies_true, q_lc_eq, q_lc_ge, q_lc_gt, q_lc_le, lN_or, lN_and, lN_shl, lN_shr, nI_L, lN_I, l_0]
termination_by 6 - k
decreasing_by all_goals omega
theorem mi_head {L : List Nat} {sE : Nat → Int32} {sC : Int32} (hs : Rw 700 sE sC L) (hv : ∀ i, L.getD i 0 < 2147483648) {m : q_MM} {a : q_Cs} (h : MI L m a) (hok : NmOk a.1) {s f ln : Nat} (hsf : s ≤ f) (hf : f ≤ L.length) :
    ∃ FL' F' T' Nm' Le' Hg', D_Model_heading (nI s) (nI f) (nI ln) sE m.1 m.2.1 m.2.2.1 m.2.2.2.1 m.2.2.2.2.2.1 m.2.2.2.2.2.2.1 FL' F' T' Nm' Le' Hg' ∧ MR L ((FL', F', T', Nm', m.2.2.2.2.1, Le', Hg', m.2.2.2.2.2.2.2.1, m.2.2.2.2.2.2.2.2.1, m.2.2.2.2.2.2.2.2.2.1, m.2.2.2.2.2.2.2.2.2.2.1, m.2.2.2.2.2.2.2.2.2.2.2.1, m.2.2.2.2.2.2.2.2.2.2.2.2.1, m.2.2.2.2.2.2.2.2.2.2.2.2.2.1, m.2.2.2.2.2.2.2.2.2.2.2.2.2.2.1, m.2.2.2.2.2.2.2.2.2.2.2.2.2.2.2.1, m.2.2.2.2.2.2.2.2.2.2.2.2.2.2.2.2.1, m.2.2.2.2.2.2.2.2.2.2.2.2.2.2.2.2.2.1, m.2.2.2.2.2.2.2.2.2.2.2.2.2.2.2.2.2.2.1, m.2.2.2.2.2.2.2.2.2.2.2.2.2.2.2.2.2.2.2.1, m.2.2.2.2.2.2.2.2.2.2.2.2.2.2.2.2.2.2.2.2.1, m.2.2.2.2.2.2.2.2.2.2.2.2.2.2.2.2.2.2.2.2.2) : q_MM) (hdg L s f ln a) := by
  have hL7 := hs.2.1
  have h' := h
  obtain ⟨z1, z2, z3, z4, z5, z6, z7, z8, z9, z10, z11, z12, z13, z14, z15⟩ := h
  have h10 := z7.1
  have hnm := mo_name hs hv (k := s) (f := f) hf hsf (m := 6) (by omega)
  have bad : ∀ k, 0 < k → k < 100 → MR L ((nI ln, nI k, m.2.2.1, m.2.2.2.1, m.2.2.2.2.1, m.2.2.2.2.2.1, m.2.2.2.2.2.2.1, m.2.2.2.2.2.2.2.1, m.2.2.2.2.2.2.2.2.1, m.2.2.2.2.2.2.2.2.2.1, m.2.2.2.2.2.2.2.2.2.2.1, m.2.2.2.2.2.2.2.2.2.2.2.1, m.2.2.2.2.2.2.2.2.2.2.2.2.1, m.2.2.2.2.2.2.2.2.2.2.2.2.2.1, m.2.2.2.2.2.2.2.2.2.2.2.2.2.2.1, m.2.2.2.2.2.2.2.2.2.2.2.2.2.2.2.1, m.2.2.2.2.2.2.2.2.2.2.2.2.2.2.2.2.1, m.2.2.2.2.2.2.2.2.2.2.2.2.2.2.2.2.2.1, m.2.2.2.2.2.2.2.2.2.2.2.2.2.2.2.2.2.2.1, m.2.2.2.2.2.2.2.2.2.2.2.2.2.2.2.2.2.2.2.1, m.2.2.2.2.2.2.2.2.2.2.2.2.2.2.2.2.2.2.2.2.1, m.2.2.2.2.2.2.2.2.2.2.2.2.2.2.2.2.2.2.2.2.2) : q_MM) (blm k ln a) := fun k h1 h2 => Or.inr ⟨by simp only [blm, z2, if_true]; omega, by simp only [blm, z2, if_true]; omega, by simp only [blm, z2, if_true], by simp only [blm, z2, if_true], _, h10, z4⟩
  cases h3 : isWdS L s f 6 with
  | false =>
    rw [h3] at hnm
    refine ⟨nI ln, nI 2, m.2.2.1, m.2.2.2.1, m.2.2.2.2.2.1, m.2.2.2.2.2.2.1, ⟨0, _, by simpa [q_lit] using hnm, ?_⟩, by simp only [hdg, h3, if_true]; exact bad 2 (by omega) (by omega)⟩
    rw [z1, z3]
    simp (disch := omega) only [q_lit, le_T, le_F, lt_T, lt_F, eq_T, eq_F, m1_lt, m1_le, lt_m1, le_m1, eq_m1, m1_eq, nI_add, nI_sub, nI_dec, nI_mul, nI_or, nI_and, nI_div, nI_mod, and_255, and_31, and_1, and_63, nI_shl, nI_shr, bI_F, bI_1, vp_T, cl_T, true_implies, false_implies, not_true_eq_false, not_false_eq_true, true_and, and_true, false_and, and_false, Bool.false_eq_true, Bool.true_eq_false, reduceCtorEq, implies_true]
    exact ⟨_, _, mo_fail0, rfl, rfl⟩
  | true =>
    rw [h3] at hnm
    have hsm : smAll L s f = true ∧ s < f ∧ f - s ≤ 6 := by
      simp only [isWdS, Bool.and_eq_true, decide_eq_true_eq] at h3; exact ⟨h3.1.1, h3.1.2, h3.2⟩
    have hrun := smAll_run hsm.1 hf hsf
    have hnd := mo_named hs hv (by omega) z8 hok (k := s) (len := f - s) (by omega) hrun.2.2 hrun.2.1 hsm.2.2
    rw [z5, ← z4] at hnd
    have hsub : nI f - nI s = nI (f - s) := nI_sub hsf
    cases h4 : nmAt (wrdS L s f) a.1 0 with
    | some t =>
      have ht := nmAt_some h4
      unfold wrdS at h4
      rw [h4] at hnd
      refine ⟨nI ln, nI 4, m.2.2.1, m.2.2.2.1, m.2.2.2.2.2.1, m.2.2.2.2.2.2.1, ⟨0, _, by simpa [q_lit] using hnm, ?_⟩, by unfold wrdS at *; simp only [hdg, wrdS, h3, h4, Option.isSome_some, Bool.true_eq_false, if_true, if_false]; exact bad 4 (by omega) (by omega)⟩
      rw [z1, z3]
      simp (disch := omega) only [q_lit, le_T, le_F, lt_T, lt_F, eq_T, eq_F, m1_lt, m1_le, lt_m1, le_m1, eq_m1, m1_eq, nI_add, nI_sub, nI_dec, nI_mul, nI_or, nI_and, nI_div, nI_mod, and_255, and_31, and_1, and_63, nI_shl, nI_shr, bI_F, bI_1, vp_T, cl_T, true_implies, false_implies, not_true_eq_false, not_false_eq_true, true_and, and_true, false_and, and_false, Bool.false_eq_true, Bool.true_eq_false, reduceCtorEq, implies_true]
      refine ⟨_, hnd, ?_⟩
      simp (disch := omega) only [oI, q_lit, le_T, le_F, lt_T, lt_F, eq_T, eq_F, m1_lt, m1_le, lt_m1, le_m1, eq_m1, m1_eq, nI_add, nI_sub, nI_dec, nI_mul, nI_or, nI_and, nI_div, nI_mod, and_255, and_31, and_1, and_63, nI_shl, nI_shr, bI_F, bI_1, vp_T, cl_T, true_implies, false_implies, not_true_eq_false, not_false_eq_true, true_and, and_true, false_and, and_false, Bool.false_eq_true, Bool.true_eq_false, reduceCtorEq, implies_true]
      exact ⟨_, _, mo_fail0, rfl, rfl⟩
    | none =>
      unfold wrdS at h4
      rw [h4] at hnd
      by_cases h5 : 10 ≤ a.1.length
      · refine ⟨nI ln, nI 5, m.2.2.1, m.2.2.2.1, m.2.2.2.2.2.1, m.2.2.2.2.2.2.1, ⟨0, _, by simpa [q_lit] using hnm, ?_⟩, by simp only [hdg, wrdS, h3, h4, h5, Option.isSome_none, Bool.true_eq_false, Bool.false_eq_true, if_true, if_false]; exact bad 5 (by omega) (by omega)⟩
        have e10 : m.2.2.1 = nI 10 := by rw [z4]; congr 1; omega
        rw [z1, z3]
        rw [e10] at hnd ⊢
        simp (disch := omega) only [q_lit, le_T, le_F, lt_T, lt_F, eq_T, eq_F, m1_lt, m1_le, lt_m1, le_m1, eq_m1, m1_eq, nI_add, nI_sub, nI_dec, nI_mul, nI_or, nI_and, nI_div, nI_mod, and_255, and_31, and_1, and_63, nI_shl, nI_shr, bI_F, bI_1, vp_T, cl_T, true_implies, false_implies, not_true_eq_false, not_false_eq_true, true_and, and_true, false_and, and_false, Bool.false_eq_true, Bool.true_eq_false, reduceCtorEq, implies_true]
        refine ⟨_, hnd, ?_⟩
        simp (disch := omega) only [oI, q_lit, le_T, le_F, lt_T, lt_F, eq_T, eq_F, m1_lt, m1_le, lt_m1, le_m1, eq_m1, m1_eq, nI_add, nI_sub, nI_dec, nI_mul, nI_or, nI_and, nI_div, nI_mod, and_255, and_31, and_1, and_63, nI_shl, nI_shr, bI_F, bI_1, vp_T, cl_T, true_implies, false_implies, not_true_eq_false, not_false_eq_true, true_and, and_true, false_and, and_false, Bool.false_eq_true, Bool.true_eq_false, reduceCtorEq, implies_true]
        exact ⟨_, _, mo_fail0, rfl, rfl⟩
      · obtain ⟨Nm', ⟨q, hq⟩, d2, d3⟩ := m_head hs hf hsf (w := wrdS L s f) rfl hrun.2.2 (FL := m.1) (F := m.2.1) (tn := a.2.1.length) (by omega) m.2.2.2.2.2.1 m.2.2.2.2.2.2.1 ln 0 (by omega) m.2.2.2.1
        refine ⟨m.1, m.2.1, nI (a.2.1.length + 1), Nm', upd m.2.2.2.2.2.1 a.2.1.length (nI 0), upd m.2.2.2.2.2.2.1 a.2.1.length (nI ln), ⟨q, _, by simpa [q_lit] using hnm, ?_⟩, Or.inl ⟨by simp only [hdg, wrdS, h3, h4, h5, Option.isSome_none, Bool.true_eq_false, Bool.false_eq_true, if_false]; exact z2, ?_⟩⟩
        · rw [z4] at hnd ⊢
          simp (disch := omega) only [q_lit, le_T, le_F, lt_T, lt_F, eq_T, eq_F, m1_lt, m1_le, lt_m1, le_m1, eq_m1, m1_eq, nI_add, nI_sub, nI_dec, nI_mul, nI_or, nI_and, nI_div, nI_mod, and_255, and_31, and_1, and_63, nI_shl, nI_shr, bI_F, bI_1, vp_T, cl_T, true_implies, false_implies, not_true_eq_false, not_false_eq_true, true_and, and_true, false_and, and_false, Bool.false_eq_true, Bool.true_eq_false, reduceCtorEq, implies_true]
          refine ⟨_, hnd, ?_⟩
          simp (disch := omega) only [oI, q_lit, le_T, le_F, lt_T, lt_F, eq_T, eq_F, m1_lt, m1_le, lt_m1, le_m1, eq_m1, m1_eq, nI_add, nI_sub, nI_dec, nI_mul, nI_or, nI_and, nI_div, nI_mod, and_255, and_31, and_1, and_63, nI_shl, nI_shr, bI_F, bI_1, vp_T, cl_T, true_implies, false_implies, not_true_eq_false, not_false_eq_true, true_and, and_true, false_and, and_false, Bool.false_eq_true, Bool.true_eq_false, reduceCtorEq, implies_true]
          exact hq
        · have eh : hdg L s f ln a = ((a.1 ++ [wrdS L s f], a.2.1 ++ [[]], a.2.2.1 ++ [ln], a.2.2.2.1, a.2.2.2.2.1, a.2.2.2.2.2.1, a.2.2.2.2.2.2.1, a.2.2.2.2.2.2.2.1, a.2.2.2.2.2.2.2.2.1, a.2.2.2.2.2.2.2.2.2.1, a.2.2.2.2.2.2.2.2.2.2) : q_Cs) := by simp only [hdg, wrdS, h3, h4, h5, Option.isSome_none, Bool.true_eq_false, Bool.false_eq_true, if_false]
          rw [eh]
          refine ⟨z1, z2, z3, by simp, by simp [z5], by simp [z6], ⟨by simp; omega, fun t ht => ?_⟩, fun t ht k hk => ?_, fun t ht => ?_, z10, ?_, z12, z13, fun _ => by simp, z15⟩
          · simp only [List.length_append, List.length_cons, List.length_nil] at ht
            show upd m.2.2.2.2.2.1 a.2.1.length (nI 0) t = nI (bd (a.2.1 ++ [[]]) t).length ∧ ∀ i, i < (bd (a.2.1 ++ [[]]) t).length → i < 255 → m.2.2.2.2.1 (255 * t + i) = nI ((bd (a.2.1 ++ [[]]) t).getD i 0)
            by_cases h6 : t = a.2.1.length
            · subst h6; rw [upd_eq, bd_last]; exact ⟨rfl, fun i hi => by simp at hi⟩
            · rw [upd_ne (by omega), bd_app (by omega)]
              exact z7.2 t (by omega)
          · show Nm' (6 * t + k) = nI ((bd (a.1 ++ [wrdS L s f]) t).getD k 0)
            simp only [List.length_append, List.length_cons, List.length_nil] at ht
            by_cases h6 : t = a.1.length
            · subst h6
              rw [bd_last, z5, d3 k (by omega) hk]
            · rw [d2 _ (Or.inl (by omega)), bd_app (by omega)]
              exact z8 t (by omega) k hk
          · show upd m.2.2.2.2.2.2.1 a.2.1.length (nI ln) t = nI ((a.2.2.1 ++ [ln]).getD t 0)
            simp only [List.length_append, List.length_cons, List.length_nil] at ht
            rw [getD_snoc, z6]
            by_cases h6 : t = a.2.1.length
            · subst h6; rw [upd_eq, if_pos rfl]
            · rw [upd_ne (by omega), if_neg h6]; exact z9 t (by omega)
          · refine ⟨z11.1, z11.2.1, fun i hi => ?_⟩
            obtain ⟨q1, q2, q3, q4, q5, q6, q7⟩ := z11.2.2 i hi
            exact ⟨q1, q2, q3, q4, by show _ < (a.2.1 ++ [[]]).length; rw [List.length_append]; exact Nat.lt_add_right _ q5, by simp only; rw [bd_app q5]; exact q6, q7⟩
