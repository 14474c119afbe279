/-! Pure: the reference reads all lines and resolves. -/
theorem m_kw {L : List Nat} {sE : Nat → Int32} {sC : Int32} (hs : Rw 700 sE sC L) {s f : Nat} (hf : f ≤ L.length) (hsf : s ≤ f) (h8 : f - s ≤ 8) (hwd : q_Wd (wrdS L s f)) (hwl : (wrdS L s f).length = f - s) {FL F : Int32} {tn : Nat} (ht : 0 < tn) (ht10 : tn ≤ 10) {K : Int32} {KL KG KB : Nat → Int32} {ks : List (List Nat × Nat)} (hK : MW 8 250 KL KG KB K ks) (hkl : ks.length < 250) (k : Nat) (hk : s ≤ k) (hk2 : k ≤ f) (hN : Nat → Int32) (hh : ∀ j, j < k - s → hN j = nI ((wrdS L s f).getD j 0)) :
    ∃ K' KL' KG' KB' hN', (∃ q, T_Model_keywordLine sE (nI tn) FL F K' KL' KG' KB' (nI (f - s)) hN' q (nI s) (nI f) (nI k) FL F K KL KG KB (nI (f - s)) hN) ∧ MW 8 250 KL' KG' KB' K' (insW (wrdS L s f) (1 <<< (tn - 1)) ks) := by
  have hL7 := hs.2.1
  by_cases h : k < f
  · have hel := hs.2.2.2 k (by omega)
    have ew : (wrdS L s f).getD (k - s) 0 = L.getD k 0 := by
      unfold wrdS; simp only [List.getD_eq_getElem?_getD, List.getElem?_take, if_pos (show k - s < f - s by omega), List.getElem?_drop, show s + (k - s) = k by omega]
    obtain ⟨K', KL', KG', KB', hN', ⟨q, hq⟩, d2⟩ := m_kw hs hf hsf h8 hwd hwl (FL := FL) (F := F) ht ht10 hK hkl (k + 1) (by omega) h (upd hN (k - s) (nI (L.getD k 0))) (fun j hj => by
      by_cases h2 : j = k - s
      · subst h2; rw [upd_eq, ew]
      · simp only [upd]; rw [if_neg h2]; exact hh j (by omega))
    refine ⟨K', KL', KG', KB', hN', ⟨q + 1, ?_⟩, d2⟩
    simp (disch := omega) only [T_Model_keywordLine, S_Model_keywordLine, B_Model_keywordLine_46, hel, q_lit, le_T, le_F, lt_T, lt_F, eq_T, eq_F, m1_lt, m1_le, lt_m1, le_m1, eq_m1, m1_eq, nI_add, nI_sub, nI_dec, nI_mul, nI_or, nI_and, nI_div, nI_mod, and_255, and_31, and_1, and_63, nI_shl, nI_shr, bI_F, bI_1, vp_T, cl_T, true_implies, false_implies, not_true_eq_false, not_false_eq_true, true_and, and_true, false_and, and_false, Bool.false_eq_true, Bool.true_eq_false, reduceCtorEq, implies_true, q_lc_eq, q_lc_ge, q_lc_gt, q_lc_le, lN_or, lN_and, lN_shl, lN_shr, nI_L, lN_I, l_0]
    exact hq
  · have hkf : k = f := by omega
    subst hkf
    have hHd : q_Hd hN (nI (k - s)) (wrdS L s k) := ⟨by rw [hwl], by omega, fun j hj => hh j (by omega)⟩
    obtain ⟨K', KL', KG', KB', b1, b2⟩ := mo_addKeyword hHd hwd (by omega) hK hkl (1 <<< (tn - 1))
    refine ⟨K', KL', KG', KB', hN, ⟨1, ?_⟩, b2⟩
    have e : (1 <<< ((nI tn - 1) &&& 31) : Int32) = nI (1 <<< (tn - 1)) := by
      simp (disch := omega) only [q_lit, le_T, le_F, lt_T, lt_F, eq_T, eq_F, m1_lt, m1_le, lt_m1, le_m1, eq_m1, m1_eq, nI_add, nI_sub, nI_dec, nI_mul, nI_or, nI_and, nI_div, nI_mod, and_255, and_31, and_1, and_63, nI_shl, nI_shr, bI_F, bI_1, vp_T, cl_T, true_implies, false_implies, not_true_eq_false, not_false_eq_true, true_and, and_true, false_and, and_false, Bool.false_eq_true, Bool.true_eq_false, reduceCtorEq, implies_true]
      rw [Nat.mod_eq_of_lt (by omega)]
    simp only [T_Model_keywordLine, S_Model_keywordLine, B_Model_keywordLine_46]
    rw [e]
    simp (disch := omega) only [q_lit, le_T, le_F, lt_T, lt_F, eq_T, eq_F, m1_lt, m1_le, lt_m1, le_m1, eq_m1, m1_eq, nI_add, nI_sub, nI_dec, nI_mul, nI_or, nI_and, nI_div, nI_mod, and_255, and_31, and_1, and_63, nI_shl, nI_shr, bI_F, bI_1, vp_T, cl_T, true_implies, false_implies, not_true_eq_false, not_false_eq_true, true_and, and_true, false_and, and_false, Bool.false_eq_true, Bool.true_eq_false, reduceCtorEq, implies_true]
    exact ⟨K', KL', KG', KB', b1, rfl, rfl, rfl, rfl⟩
termination_by f - k
decreasing_by all_goals omega
theorem mi_kwd {L : List Nat} {sE : Nat → Int32} {sC : Int32} (hs : Rw 700 sE sC L) (hv : ∀ i, L.getD i 0 < 2147483648) {m : q_MM} {a : q_Cs} (h : MI L m a) (hkl : a.2.2.2.1.length < 250) {s f ln : Nat} (hsf : s ≤ f) (hf : f ≤ L.length) :
    ∃ FL' F' K' KL' KG' KB' hL' hN', D_Model_keywordLine (nI s) (nI f) (nI ln) sE m.1 m.2.1 m.2.2.1 m.2.2.2.2.2.2.2.1 m.2.2.2.2.2.2.2.2.1 m.2.2.2.2.2.2.2.2.2.1 m.2.2.2.2.2.2.2.2.2.2.1 m.2.2.2.2.2.2.2.2.2.2.2.2.2.2.2.2.2.2.2.2.1 m.2.2.2.2.2.2.2.2.2.2.2.2.2.2.2.2.2.2.2.2.2 FL' F' K' KL' KG' KB' hL' hN' ∧ MR L ((FL', F', m.2.2.1, m.2.2.2.1, m.2.2.2.2.1, m.2.2.2.2.2.1, m.2.2.2.2.2.2.1, K', KL', KG', KB', m.2.2.2.2.2.2.2.2.2.2.2.1, m.2.2.2.2.2.2.2.2.2.2.2.2.1, m.2.2.2.2.2.2.2.2.2.2.2.2.2.1, m.2.2.2.2.2.2.2.2.2.2.2.2.2.2.1, m.2.2.2.2.2.2.2.2.2.2.2.2.2.2.2.1, m.2.2.2.2.2.2.2.2.2.2.2.2.2.2.2.2.1, m.2.2.2.2.2.2.2.2.2.2.2.2.2.2.2.2.2.1, m.2.2.2.2.2.2.2.2.2.2.2.2.2.2.2.2.2.2.1, m.2.2.2.2.2.2.2.2.2.2.2.2.2.2.2.2.2.2.2.1, hL', hN') : q_MM) (kwd L s f ln a) := by
  have hL7 := hs.2.1
  obtain ⟨z1, z2, z3, z4, z5, z6, z7, z8, z9, z10, z11, z12, z13, z14, z15⟩ := h
  have h10 := z7.1
  have hnm := mo_name hs hv (k := s) (f := f) hf hsf (m := 8) (by omega)
  have bad : ∀ k, 0 < k → k < 100 → MR L ((nI ln, nI k, m.2.2.1, m.2.2.2.1, m.2.2.2.2.1, m.2.2.2.2.2.1, m.2.2.2.2.2.2.1, m.2.2.2.2.2.2.2.1, m.2.2.2.2.2.2.2.2.1, m.2.2.2.2.2.2.2.2.2.1, m.2.2.2.2.2.2.2.2.2.2.1, m.2.2.2.2.2.2.2.2.2.2.2.1, m.2.2.2.2.2.2.2.2.2.2.2.2.1, m.2.2.2.2.2.2.2.2.2.2.2.2.2.1, m.2.2.2.2.2.2.2.2.2.2.2.2.2.2.1, m.2.2.2.2.2.2.2.2.2.2.2.2.2.2.2.1, m.2.2.2.2.2.2.2.2.2.2.2.2.2.2.2.2.1, m.2.2.2.2.2.2.2.2.2.2.2.2.2.2.2.2.2.1, m.2.2.2.2.2.2.2.2.2.2.2.2.2.2.2.2.2.2.1, m.2.2.2.2.2.2.2.2.2.2.2.2.2.2.2.2.2.2.2.1, m.2.2.2.2.2.2.2.2.2.2.2.2.2.2.2.2.2.2.2.2.1, m.2.2.2.2.2.2.2.2.2.2.2.2.2.2.2.2.2.2.2.2.2) : q_MM) (blm k ln a) := fun k h1 h2 => Or.inr ⟨by simp only [blm, z2, if_true]; omega, by simp only [blm, z2, if_true]; omega, by simp only [blm, z2, if_true], by simp only [blm, z2, if_true], _, h10, z4⟩
  by_cases h0 : a.2.1 = []
  · refine ⟨nI ln, nI 1, m.2.2.2.2.2.2.2.1, m.2.2.2.2.2.2.2.2.1, m.2.2.2.2.2.2.2.2.2.1, m.2.2.2.2.2.2.2.2.2.2.1, m.2.2.2.2.2.2.2.2.2.2.2.2.2.2.2.2.2.2.2.2.1, m.2.2.2.2.2.2.2.2.2.2.2.2.2.2.2.2.2.2.2.2.2, ⟨0, ?_⟩, by simp only [kwd, h0, if_true]; exact bad 1 (by omega) (by omega)⟩
    have e0 : m.2.2.1 = nI 0 := by rw [z4, h0]; rfl
    rw [e0, z1, z3]
    simp (disch := omega) only [q_lit, le_T, le_F, lt_T, lt_F, eq_T, eq_F, m1_lt, m1_le, lt_m1, le_m1, eq_m1, m1_eq, nI_add, nI_sub, nI_dec, nI_mul, nI_or, nI_and, nI_div, nI_mod, and_255, and_31, and_1, and_63, nI_shl, nI_shr, bI_F, bI_1, vp_T, cl_T, true_implies, false_implies, not_true_eq_false, not_false_eq_true, true_and, and_true, false_and, and_false, Bool.false_eq_true, Bool.true_eq_false, reduceCtorEq, implies_true]
    exact ⟨_, _, mo_fail0, rfl, rfl⟩
  · have hpos : 0 < a.2.1.length := List.length_pos_iff.mpr h0
    cases h3 : isWdS L s f 8 with
    | false =>
      rw [h3] at hnm
      refine ⟨nI ln, nI 3, m.2.2.2.2.2.2.2.1, m.2.2.2.2.2.2.2.2.1, m.2.2.2.2.2.2.2.2.2.1, m.2.2.2.2.2.2.2.2.2.2.1, m.2.2.2.2.2.2.2.2.2.2.2.2.2.2.2.2.2.2.2.2.1, m.2.2.2.2.2.2.2.2.2.2.2.2.2.2.2.2.2.2.2.2.2, ⟨0, ?_⟩, by simp only [kwd, h0, h3, if_true, if_false]; exact bad 3 (by omega) (by omega)⟩
      rw [z4, z1, z3]
      simp (disch := omega) only [q_lit, le_T, le_F, lt_T, lt_F, eq_T, eq_F, m1_lt, m1_le, lt_m1, le_m1, eq_m1, m1_eq, nI_add, nI_sub, nI_dec, nI_mul, nI_or, nI_and, nI_div, nI_mod, and_255, and_31, and_1, and_63, nI_shl, nI_shr, bI_F, bI_1, vp_T, cl_T, true_implies, false_implies, not_true_eq_false, not_false_eq_true, true_and, and_true, false_and, and_false, Bool.false_eq_true, Bool.true_eq_false, reduceCtorEq, implies_true]
      refine ⟨_, hnm, ?_⟩
      simp (disch := omega) only [q_lit, le_T, le_F, lt_T, lt_F, eq_T, eq_F, m1_lt, m1_le, lt_m1, le_m1, eq_m1, m1_eq, nI_add, nI_sub, nI_dec, nI_mul, nI_or, nI_and, nI_div, nI_mod, and_255, and_31, and_1, and_63, nI_shl, nI_shr, bI_F, bI_1, vp_T, cl_T, true_implies, false_implies, not_true_eq_false, not_false_eq_true, true_and, and_true, false_and, and_false, Bool.false_eq_true, Bool.true_eq_false, reduceCtorEq, implies_true]
      exact ⟨_, _, mo_fail0, rfl, rfl⟩
    | true =>
      rw [h3] at hnm
      have hsm : smAll L s f = true ∧ s < f ∧ f - s ≤ 8 := by
        simp only [isWdS, Bool.and_eq_true, decide_eq_true_eq] at h3; exact ⟨h3.1.1, h3.1.2, h3.2⟩
      have hrun := smAll_run hsm.1 hf hsf
      obtain ⟨K', KL', KG', KB', hN', ⟨q, hq⟩, d2⟩ := m_kw hs hf hsf hsm.2.2 hrun.2.1 hrun.2.2 (FL := m.1) (F := m.2.1) hpos h10 z10 hkl s (Nat.le_refl _) hsf m.2.2.2.2.2.2.2.2.2.2.2.2.2.2.2.2.2.2.2.2.2 (fun j hj => by omega)
      refine ⟨m.1, m.2.1, K', KL', KG', KB', nI (f - s), hN', ⟨q, ?_⟩, Or.inl ⟨?_, ?_⟩⟩
      · rw [z4]
        simp (disch := omega) only [q_lit, le_T, le_F, lt_T, lt_F, eq_T, eq_F, m1_lt, m1_le, lt_m1, le_m1, eq_m1, m1_eq, nI_add, nI_sub, nI_dec, nI_mul, nI_or, nI_and, nI_div, nI_mod, and_255, and_31, and_1, and_63, nI_shl, nI_shr, bI_F, bI_1, vp_T, cl_T, true_implies, false_implies, not_true_eq_false, not_false_eq_true, true_and, and_true, false_and, and_false, Bool.false_eq_true, Bool.true_eq_false, reduceCtorEq, implies_true]
        refine ⟨_, hnm, ?_⟩
        simp (disch := omega) only [q_lit, le_T, le_F, lt_T, lt_F, eq_T, eq_F, m1_lt, m1_le, lt_m1, le_m1, eq_m1, m1_eq, nI_add, nI_sub, nI_dec, nI_mul, nI_or, nI_and, nI_div, nI_mod, and_255, and_31, and_1, and_63, nI_shl, nI_shr, bI_F, bI_1, vp_T, cl_T, true_implies, false_implies, not_true_eq_false, not_false_eq_true, true_and, and_true, false_and, and_false, Bool.false_eq_true, Bool.true_eq_false, reduceCtorEq, implies_true]
        exact hq
      · simp only [kwd, h0, h3, Bool.true_eq_false, if_false]; exact z2
      · simp only [kwd, h0, h3, Bool.true_eq_false, if_false]
        exact ⟨z1, z2, z3, z4, z5, z6, z7, z8, z9, d2, z11, z12, z13, z14, z15⟩
theorem hdg_ft {L : List Nat} {s f ln : Nat} {a : q_Cs} (h : ¬ a.2.2.2.2.2.1 = 0) : (hdg L s f ln a).2.2.2.2.2.1 = a.2.2.2.2.2.1 ∧ (hdg L s f ln a).2.2.2.2.2.2.1 = a.2.2.2.2.2.2.1 := by
  unfold hdg
  split
  · simp [blm, h]
  · split
    · simp [blm, h]
    · split
      · simp [blm, h]
      · exact ⟨rfl, rfl⟩
theorem kwd_ft {L : List Nat} {s f ln : Nat} {a : q_Cs} (h : ¬ a.2.2.2.2.2.1 = 0) : (kwd L s f ln a).2.2.2.2.2.1 = a.2.2.2.2.2.1 ∧ (kwd L s f ln a).2.2.2.2.2.2.1 = a.2.2.2.2.2.2.1 := by
  unfold kwd
  split
  · simp [blm, h]
  · split
    · simp [blm, h]
    · exact ⟨rfl, rfl⟩
theorem MR.fault {L : List Nat} {m : q_MM} {a b : q_Cs} (h : MR L m a) (hf : ¬ a.2.2.2.2.2.1 = 0) (h1 : b.2.2.2.2.2.1 = a.2.2.2.2.2.1) (h2 : b.2.2.2.2.2.2.1 = a.2.2.2.2.2.2.1) : MR L m b := by
  rcases h with ⟨h, _⟩ | ⟨_, h4, h5, h6, h7⟩
  · exact absurd h hf
  · exact Or.inr ⟨by rw [h1]; exact hf, by rw [h1]; exact h4, by rw [h1]; exact h5, by rw [h2]; exact h6, h7⟩
theorem hdg_inP {L : List Nat} {s f ln : Nat} {a : q_Cs} : (hdg L s f ln a).2.2.2.2.2.2.2.1 = a.2.2.2.2.2.2.2.1 := by
  unfold hdg; split
  · rfl
  · split
    · rfl
    · split <;> rfl
theorem kwd_inP {L : List Nat} {s f ln : Nat} {a : q_Cs} : (kwd L s f ln a).2.2.2.2.2.2.2.1 = a.2.2.2.2.2.2.2.1 := by
  unfold kwd; split
  · rfl
  · split <;> rfl
theorem mi_line {L : List Nat} {sE : Nat → Int32} {sC : Int32} (hs : Rw 700 sE sC L) (hv : ∀ i, L.getD i 0 < 2147483648) {m : q_MM} {a : q_Cs} (h : MI L m a) (hX : a.2.2.2.2.2.2.2.1 = true → m.2.2.2.2.2.2.2.2.2.2.2.2.2.2.2.2.2.2.2.1 = nI a.2.2.2.2.2.2.2.2.2.2) {s f ln : Nat} (hA : WA L a s) (hsf : s < f ∨ (s = f)) (hf : f ≤ L.length) :
    ∃ m', D_Model_readLine (nI s) (nI f) (nI ln) sE m.1 m.2.1 m.2.2.1 m.2.2.2.1 m.2.2.2.2.1 m.2.2.2.2.2.1 m.2.2.2.2.2.2.1 m.2.2.2.2.2.2.2.1 m.2.2.2.2.2.2.2.2.1 m.2.2.2.2.2.2.2.2.2.1 m.2.2.2.2.2.2.2.2.2.2.1 m.2.2.2.2.2.2.2.2.2.2.2.1 m.2.2.2.2.2.2.2.2.2.2.2.2.1 m.2.2.2.2.2.2.2.2.2.2.2.2.2.1 m.2.2.2.2.2.2.2.2.2.2.2.2.2.2.1 m.2.2.2.2.2.2.2.2.2.2.2.2.2.2.2.1 m.2.2.2.2.2.2.2.2.2.2.2.2.2.2.2.2.1 m.2.2.2.2.2.2.2.2.2.2.2.2.2.2.2.2.2.1 m.2.2.2.2.2.2.2.2.2.2.2.2.2.2.2.2.2.2.1 m.2.2.2.2.2.2.2.2.2.2.2.2.2.2.2.2.2.2.2.1 m.2.2.2.2.2.2.2.2.2.2.2.2.2.2.2.2.2.2.2.2.1 m.2.2.2.2.2.2.2.2.2.2.2.2.2.2.2.2.2.2.2.2.2 m'.1 m'.2.1 m'.2.2.1 m'.2.2.2.1 m'.2.2.2.2.1 m'.2.2.2.2.2.1 m'.2.2.2.2.2.2.1 m'.2.2.2.2.2.2.2.1 m'.2.2.2.2.2.2.2.2.1 m'.2.2.2.2.2.2.2.2.2.1 m'.2.2.2.2.2.2.2.2.2.2.1 m'.2.2.2.2.2.2.2.2.2.2.2.1 m'.2.2.2.2.2.2.2.2.2.2.2.2.1 m'.2.2.2.2.2.2.2.2.2.2.2.2.2.1 m'.2.2.2.2.2.2.2.2.2.2.2.2.2.2.1 m'.2.2.2.2.2.2.2.2.2.2.2.2.2.2.2.1 m'.2.2.2.2.2.2.2.2.2.2.2.2.2.2.2.2.1 m'.2.2.2.2.2.2.2.2.2.2.2.2.2.2.2.2.2.1 m'.2.2.2.2.2.2.2.2.2.2.2.2.2.2.2.2.2.2.1 m'.2.2.2.2.2.2.2.2.2.2.2.2.2.2.2.2.2.2.2.1 m'.2.2.2.2.2.2.2.2.2.2.2.2.2.2.2.2.2.2.2.2.1 m'.2.2.2.2.2.2.2.2.2.2.2.2.2.2.2.2.2.2.2.2.2 ∧ MR L m' (lin L s f ln a) ∧ ((lin L s f ln a).2.2.2.2.2.1 = 0 → (lin L s f ln a).2.2.2.2.2.2.2.1 = true → m'.2.2.2.2.2.2.2.2.2.2.2.2.2.2.2.2.2.2.2.1 = nI (lin L s f ln a).2.2.2.2.2.2.2.2.2.2) := by
  have hL7 := hs.2.1
  have hb := hA.2.2.1
  have hsf' : s ≤ f := by omega
  have hbl := mo_blank hs hv hf hsf'
  obtain ⟨FL1, F1, Bo1, Le1, d1, d2⟩ := mi_end h hX (by omega)
  have hcl := clP_ns a
  have hvs := hv s
  -- the sign that the line begins with
  have hgo : ∀ (m' : q_MM) (q : Nat), (∀ x4, ((s < f ∧ x4 = nI (L.getD s 0)) ∨ (s = f ∧ x4 = nI 0)) → T_Model_readLine sE m'.1 m'.2.1 m'.2.2.1 m'.2.2.2.1 m'.2.2.2.2.1 m'.2.2.2.2.2.1 m'.2.2.2.2.2.2.1 m'.2.2.2.2.2.2.2.1 m'.2.2.2.2.2.2.2.2.1 m'.2.2.2.2.2.2.2.2.2.1 m'.2.2.2.2.2.2.2.2.2.2.1 m'.2.2.2.2.2.2.2.2.2.2.2.1 m'.2.2.2.2.2.2.2.2.2.2.2.2.1 m'.2.2.2.2.2.2.2.2.2.2.2.2.2.1 m'.2.2.2.2.2.2.2.2.2.2.2.2.2.2.1 m'.2.2.2.2.2.2.2.2.2.2.2.2.2.2.2.1 m'.2.2.2.2.2.2.2.2.2.2.2.2.2.2.2.2.1 m'.2.2.2.2.2.2.2.2.2.2.2.2.2.2.2.2.2.1 m'.2.2.2.2.2.2.2.2.2.2.2.2.2.2.2.2.2.2.1 m'.2.2.2.2.2.2.2.2.2.2.2.2.2.2.2.2.2.2.2.1 m'.2.2.2.2.2.2.2.2.2.2.2.2.2.2.2.2.2.2.2.2.1 m'.2.2.2.2.2.2.2.2.2.2.2.2.2.2.2.2.2.2.2.2.2 q 0 (nI s) (nI f) (nI ln) x4 m.1 m.2.1 m.2.2.1 m.2.2.2.1 m.2.2.2.2.1 m.2.2.2.2.2.1 m.2.2.2.2.2.2.1 m.2.2.2.2.2.2.2.1 m.2.2.2.2.2.2.2.2.1 m.2.2.2.2.2.2.2.2.2.1 m.2.2.2.2.2.2.2.2.2.2.1 m.2.2.2.2.2.2.2.2.2.2.2.1 m.2.2.2.2.2.2.2.2.2.2.2.2.1 m.2.2.2.2.2.2.2.2.2.2.2.2.2.1 m.2.2.2.2.2.2.2.2.2.2.2.2.2.2.1 m.2.2.2.2.2.2.2.2.2.2.2.2.2.2.2.1 m.2.2.2.2.2.2.2.2.2.2.2.2.2.2.2.2.1 m.2.2.2.2.2.2.2.2.2.2.2.2.2.2.2.2.2.1 m.2.2.2.2.2.2.2.2.2.2.2.2.2.2.2.2.2.2.1 m.2.2.2.2.2.2.2.2.2.2.2.2.2.2.2.2.2.2.2.1 m.2.2.2.2.2.2.2.2.2.2.2.2.2.2.2.2.2.2.2.2.1 m.2.2.2.2.2.2.2.2.2.2.2.2.2.2.2.2.2.2.2.2.2) → D_Model_readLine (nI s) (nI f) (nI ln) sE m.1 m.2.1 m.2.2.1 m.2.2.2.1 m.2.2.2.2.1 m.2.2.2.2.2.1 m.2.2.2.2.2.2.1 m.2.2.2.2.2.2.2.1 m.2.2.2.2.2.2.2.2.1 m.2.2.2.2.2.2.2.2.2.1 m.2.2.2.2.2.2.2.2.2.2.1 m.2.2.2.2.2.2.2.2.2.2.2.1 m.2.2.2.2.2.2.2.2.2.2.2.2.1 m.2.2.2.2.2.2.2.2.2.2.2.2.2.1 m.2.2.2.2.2.2.2.2.2.2.2.2.2.2.1 m.2.2.2.2.2.2.2.2.2.2.2.2.2.2.2.1 m.2.2.2.2.2.2.2.2.2.2.2.2.2.2.2.2.1 m.2.2.2.2.2.2.2.2.2.2.2.2.2.2.2.2.2.1 m.2.2.2.2.2.2.2.2.2.2.2.2.2.2.2.2.2.2.1 m.2.2.2.2.2.2.2.2.2.2.2.2.2.2.2.2.2.2.2.1 m.2.2.2.2.2.2.2.2.2.2.2.2.2.2.2.2.2.2.2.2.1 m.2.2.2.2.2.2.2.2.2.2.2.2.2.2.2.2.2.2.2.2.2 m'.1 m'.2.1 m'.2.2.1 m'.2.2.2.1 m'.2.2.2.2.1 m'.2.2.2.2.2.1 m'.2.2.2.2.2.2.1 m'.2.2.2.2.2.2.2.1 m'.2.2.2.2.2.2.2.2.1 m'.2.2.2.2.2.2.2.2.2.1 m'.2.2.2.2.2.2.2.2.2.2.1 m'.2.2.2.2.2.2.2.2.2.2.2.1 m'.2.2.2.2.2.2.2.2.2.2.2.2.1 m'.2.2.2.2.2.2.2.2.2.2.2.2.2.1 m'.2.2.2.2.2.2.2.2.2.2.2.2.2.2.1 m'.2.2.2.2.2.2.2.2.2.2.2.2.2.2.2.1 m'.2.2.2.2.2.2.2.2.2.2.2.2.2.2.2.2.1 m'.2.2.2.2.2.2.2.2.2.2.2.2.2.2.2.2.2.1 m'.2.2.2.2.2.2.2.2.2.2.2.2.2.2.2.2.2.2.1 m'.2.2.2.2.2.2.2.2.2.2.2.2.2.2.2.2.2.2.2.1 m'.2.2.2.2.2.2.2.2.2.2.2.2.2.2.2.2.2.2.2.2.1 m'.2.2.2.2.2.2.2.2.2.2.2.2.2.2.2.2.2.2.2.2.2 := by
    intro m' q h9
    refine ⟨q, fun h3 => h9 0 (Or.inr ⟨?_, rfl⟩), fun h3 => ?_⟩
    · rcases hsf with h4 | h4
      · exact absurd h3 (nI_ge h4 (by omega))
      · exact h4
    · have h4 : s < f := by
        rcases hsf with h4 | h4
        · exact h4
        · exact absurd (nI_le (show f ≤ s by omega) (by omega)) h3
      rw [nI_clamp (by omega), hs.2.2.2 s (by omega)]
      exact ⟨vp_in_nI (by omega) (by omega), h9 _ (Or.inl ⟨h4, rfl⟩)⟩
  have ft1 : ¬ (clP a).2.2.2.2.2.1 = 0 → (clP a).2.2.2.2.2.1 < 100 ∧ F1 = nI (clP a).2.2.2.2.2.1 := by
    intro h9
    rcases d2 with ⟨h8, _⟩ | ⟨_, h4, h5, _⟩
    · exact absurd h8 h9
    · exact ⟨h4, h5⟩
  have ft0 : (clP a).2.2.2.2.2.1 = 0 → F1 = nI 0 := by
    intro h9
    rcases d2 with ⟨_, h8⟩ | ⟨h8, _⟩
    · exact h8.1
    · exact absurd h9 h8
  cases hbk : blkS L s f with
  | true =>
    rw [hbk] at hbl
    have el : lin L s f ln a = clP a := by simp only [lin, hbk, if_true]
    rw [el]
    refine ⟨((FL1, F1, m.2.2.1, m.2.2.2.1, Bo1, Le1, m.2.2.2.2.2.2.1, m.2.2.2.2.2.2.2.1, m.2.2.2.2.2.2.2.2.1, m.2.2.2.2.2.2.2.2.2.1, m.2.2.2.2.2.2.2.2.2.2.1, m.2.2.2.2.2.2.2.2.2.2.2.1, m.2.2.2.2.2.2.2.2.2.2.2.2.1, m.2.2.2.2.2.2.2.2.2.2.2.2.2.1, m.2.2.2.2.2.2.2.2.2.2.2.2.2.2.1, m.2.2.2.2.2.2.2.2.2.2.2.2.2.2.2.1, false, false, false, m.2.2.2.2.2.2.2.2.2.2.2.2.2.2.2.2.2.2.2.1, m.2.2.2.2.2.2.2.2.2.2.2.2.2.2.2.2.2.2.2.2.1, m.2.2.2.2.2.2.2.2.2.2.2.2.2.2.2.2.2.2.2.2.2) : q_MM), ?_, d2, fun _ h9 => by rw [hcl.2.2.2.1] at h9; cases h9⟩
    have q_fin : ∀ x4 : Int32, T_Model_readLine sE FL1 F1 m.2.2.1 m.2.2.2.1 Bo1 Le1 m.2.2.2.2.2.2.1 m.2.2.2.2.2.2.2.1 m.2.2.2.2.2.2.2.2.1 m.2.2.2.2.2.2.2.2.2.1 m.2.2.2.2.2.2.2.2.2.2.1 m.2.2.2.2.2.2.2.2.2.2.2.1 m.2.2.2.2.2.2.2.2.2.2.2.2.1 m.2.2.2.2.2.2.2.2.2.2.2.2.2.1 m.2.2.2.2.2.2.2.2.2.2.2.2.2.2.1 m.2.2.2.2.2.2.2.2.2.2.2.2.2.2.2.1 false false false m.2.2.2.2.2.2.2.2.2.2.2.2.2.2.2.2.2.2.2.1 m.2.2.2.2.2.2.2.2.2.2.2.2.2.2.2.2.2.2.2.2.1 m.2.2.2.2.2.2.2.2.2.2.2.2.2.2.2.2.2.2.2.2.2 2 1 (nI s) (nI f) (nI ln) x4 m.1 m.2.1 m.2.2.1 m.2.2.2.1 m.2.2.2.2.1 m.2.2.2.2.2.1 m.2.2.2.2.2.2.1 m.2.2.2.2.2.2.2.1 m.2.2.2.2.2.2.2.2.1 m.2.2.2.2.2.2.2.2.2.1 m.2.2.2.2.2.2.2.2.2.2.1 m.2.2.2.2.2.2.2.2.2.2.2.1 m.2.2.2.2.2.2.2.2.2.2.2.2.1 m.2.2.2.2.2.2.2.2.2.2.2.2.2.1 m.2.2.2.2.2.2.2.2.2.2.2.2.2.2.1 m.2.2.2.2.2.2.2.2.2.2.2.2.2.2.2.1 m.2.2.2.2.2.2.2.2.2.2.2.2.2.2.2.2.1 m.2.2.2.2.2.2.2.2.2.2.2.2.2.2.2.2.2.1 m.2.2.2.2.2.2.2.2.2.2.2.2.2.2.2.2.2.2.1 m.2.2.2.2.2.2.2.2.2.2.2.2.2.2.2.2.2.2.2.1 m.2.2.2.2.2.2.2.2.2.2.2.2.2.2.2.2.2.2.2.2.1 m.2.2.2.2.2.2.2.2.2.2.2.2.2.2.2.2.2.2.2.2.2 := by
      intro x4
      refine ⟨FL1, F1, Bo1, Le1, false, false, false, d1, ?_⟩
      by_cases h9 : (clP a).2.2.2.2.2.1 = 0
      · rw [ft0 h9]
        simp only [T_Model_readLine, S_Model_readLine, B_Model_readLine_44]
        simp (disch := omega) only [q_lit, le_T, le_F, lt_T, lt_F, eq_T, eq_F, m1_lt, m1_le, lt_m1, le_m1, eq_m1, m1_eq, nI_add, nI_sub, nI_dec, nI_mul, nI_or, nI_and, nI_div, nI_mod, and_255, and_31, and_1, and_63, nI_shl, nI_shr, bI_F, bI_1, vp_T, cl_T, true_implies, false_implies, not_true_eq_false, not_false_eq_true, true_and, and_true, false_and, and_false, Bool.false_eq_true, Bool.true_eq_false, reduceCtorEq, implies_true]
        exact ⟨true, hbl, by simp (disch := omega) only [q_lit, le_T, le_F, lt_T, lt_F, eq_T, eq_F, m1_lt, m1_le, lt_m1, le_m1, eq_m1, m1_eq, nI_add, nI_sub, nI_dec, nI_mul, nI_or, nI_and, nI_div, nI_mod, and_255, and_31, and_1, and_63, nI_shl, nI_shr, bI_F, bI_1, vp_T, cl_T, true_implies, false_implies, not_true_eq_false, not_false_eq_true, true_and, and_true, false_and, and_false, Bool.false_eq_true, Bool.true_eq_false, reduceCtorEq, implies_true]⟩
      · have h8 := ft1 h9
        rw [h8.2]
        simp only [T_Model_readLine, S_Model_readLine, B_Model_readLine_44]
        have h7 := h8.1
        simp (disch := omega) only [q_lit, le_T, le_F, lt_T, lt_F, eq_T, eq_F, m1_lt, m1_le, lt_m1, le_m1, eq_m1, m1_eq, nI_add, nI_sub, nI_dec, nI_mul, nI_or, nI_and, nI_div, nI_mod, and_255, and_31, and_1, and_63, nI_shl, nI_shr, bI_F, bI_1, vp_T, cl_T, true_implies, false_implies, not_true_eq_false, not_false_eq_true, true_and, and_true, false_and, and_false, Bool.false_eq_true, Bool.true_eq_false, reduceCtorEq, implies_true]
    refine hgo _ 3 (fun x4 h1 => ?_)
    by_cases a1 : x4 = 35
    · exact ⟨fun _ => q_fin _, fun h9 => absurd a1 h9⟩
    · exact ⟨fun _ => q_fin _, fun _ => ⟨fun _ => q_fin _, fun _ => ⟨true, hbl, fun h9 => absurd h9 (by decide), fun _ => q_fin _⟩⟩⟩
  | false =>
    have hlt := blk_lt hbk
    rw [hbk] at hbl
    have hx4 : ∀ x4, ((s < f ∧ x4 = nI (L.getD s 0)) ∨ (s = f ∧ x4 = nI 0)) → x4 = nI (L.getD s 0) := by
      intro x4 h9
      rcases h9 with ⟨_, h9⟩ | ⟨h9, _⟩
      · exact h9
      · omega
    by_cases h35 : L.getD s 0 = 35
    · have el : lin L s f ln a = hdg L (s + 1) f ln (clP a) := by simp only [lin, hbk, h35, Bool.false_eq_true, if_true, if_false]
      rw [el]
      by_cases h9 : (clP a).2.2.2.2.2.1 = 0
      · have hMI : MI L ((FL1, F1, m.2.2.1, m.2.2.2.1, Bo1, Le1, m.2.2.2.2.2.2.1, m.2.2.2.2.2.2.2.1, m.2.2.2.2.2.2.2.2.1, m.2.2.2.2.2.2.2.2.2.1, m.2.2.2.2.2.2.2.2.2.2.1, m.2.2.2.2.2.2.2.2.2.2.2.1, m.2.2.2.2.2.2.2.2.2.2.2.2.1, m.2.2.2.2.2.2.2.2.2.2.2.2.2.1, m.2.2.2.2.2.2.2.2.2.2.2.2.2.2.1, m.2.2.2.2.2.2.2.2.2.2.2.2.2.2.2.1, false, false, false, m.2.2.2.2.2.2.2.2.2.2.2.2.2.2.2.2.2.2.2.1, m.2.2.2.2.2.2.2.2.2.2.2.2.2.2.2.2.2.2.2.2.1, m.2.2.2.2.2.2.2.2.2.2.2.2.2.2.2.2.2.2.2.2.2) : q_MM) (clP a) := by
          rcases d2 with ⟨_, h8⟩ | ⟨h8, _⟩
          · exact h8
          · exact absurd h9 h8
        obtain ⟨FL2, F2, T2, Nm2, Le2, Hg2, g1, g2⟩ := mi_head hs hv (ln := ln) hMI (by rw [hcl.1]; exact hA.1) (s := s + 1) (f := f) (by omega) hf
        refine ⟨((FL2, F2, T2, Nm2, Bo1, Le2, Hg2, m.2.2.2.2.2.2.2.1, m.2.2.2.2.2.2.2.2.1, m.2.2.2.2.2.2.2.2.2.1, m.2.2.2.2.2.2.2.2.2.2.1, m.2.2.2.2.2.2.2.2.2.2.2.1, m.2.2.2.2.2.2.2.2.2.2.2.2.1, m.2.2.2.2.2.2.2.2.2.2.2.2.2.1, m.2.2.2.2.2.2.2.2.2.2.2.2.2.2.1, m.2.2.2.2.2.2.2.2.2.2.2.2.2.2.2.1, false, false, false, m.2.2.2.2.2.2.2.2.2.2.2.2.2.2.2.2.2.2.2.1, m.2.2.2.2.2.2.2.2.2.2.2.2.2.2.2.2.2.2.2.2.1, m.2.2.2.2.2.2.2.2.2.2.2.2.2.2.2.2.2.2.2.2.2) : q_MM), hgo _ 3 (fun x4 h1 => ?_), g2, fun _ h8 => by rw [hdg_inP, hcl.2.2.2.1] at h8; cases h8⟩
        rw [hx4 x4 h1, h35]
        have e1 := ft0 h9
        simp only [T_Model_readLine, S_Model_readLine, B_Model_readLine_17, B_Model_readLine_40, B_Model_readLine_44]
        simp (disch := omega) only [q_lit, le_T, le_F, lt_T, lt_F, eq_T, eq_F, m1_lt, m1_le, lt_m1, le_m1, eq_m1, m1_eq, nI_add, nI_sub, nI_dec, nI_mul, nI_or, nI_and, nI_div, nI_mod, and_255, and_31, and_1, and_63, nI_shl, nI_shr, bI_F, bI_1, vp_T, cl_T, true_implies, false_implies, not_true_eq_false, not_false_eq_true, true_and, and_true, false_and, and_false, Bool.false_eq_true, Bool.true_eq_false, reduceCtorEq, implies_true]
        refine ⟨FL1, F1, Bo1, Le1, false, false, false, d1, ?_⟩
        rw [e1] at g1 ⊢
        simp (disch := omega) only [q_lit, le_T, le_F, lt_T, lt_F, eq_T, eq_F, m1_lt, m1_le, lt_m1, le_m1, eq_m1, m1_eq, nI_add, nI_sub, nI_dec, nI_mul, nI_or, nI_and, nI_div, nI_mod, and_255, and_31, and_1, and_63, nI_shl, nI_shr, bI_F, bI_1, vp_T, cl_T, true_implies, false_implies, not_true_eq_false, not_false_eq_true, true_and, and_true, false_and, and_false, Bool.false_eq_true, Bool.true_eq_false, reduceCtorEq, implies_true]
        refine ⟨false, hbl, ?_⟩
        simp (disch := omega) only [q_lit, le_T, le_F, lt_T, lt_F, eq_T, eq_F, m1_lt, m1_le, lt_m1, le_m1, eq_m1, m1_eq, nI_add, nI_sub, nI_dec, nI_mul, nI_or, nI_and, nI_div, nI_mod, and_255, and_31, and_1, and_63, nI_shl, nI_shr, bI_F, bI_1, vp_T, cl_T, true_implies, false_implies, not_true_eq_false, not_false_eq_true, true_and, and_true, false_and, and_false, Bool.false_eq_true, Bool.true_eq_false, reduceCtorEq, implies_true]
        exact ⟨FL2, F2, T2, Nm2, Le2, Hg2, g1, by repeat' constructor⟩
      · have h8 := ft1 h9
        have hh := hdg_ft (L := L) (s := s + 1) (f := f) (ln := ln) h9
        refine ⟨((FL1, F1, m.2.2.1, m.2.2.2.1, Bo1, Le1, m.2.2.2.2.2.2.1, m.2.2.2.2.2.2.2.1, m.2.2.2.2.2.2.2.2.1, m.2.2.2.2.2.2.2.2.2.1, m.2.2.2.2.2.2.2.2.2.2.1, m.2.2.2.2.2.2.2.2.2.2.2.1, m.2.2.2.2.2.2.2.2.2.2.2.2.1, m.2.2.2.2.2.2.2.2.2.2.2.2.2.1, m.2.2.2.2.2.2.2.2.2.2.2.2.2.2.1, m.2.2.2.2.2.2.2.2.2.2.2.2.2.2.2.1, false, false, false, m.2.2.2.2.2.2.2.2.2.2.2.2.2.2.2.2.2.2.2.1, m.2.2.2.2.2.2.2.2.2.2.2.2.2.2.2.2.2.2.2.2.1, m.2.2.2.2.2.2.2.2.2.2.2.2.2.2.2.2.2.2.2.2.2) : q_MM), hgo _ 3 (fun x4 h1 => ?_), d2.fault h9 hh.1 hh.2, fun h7 => by rw [hh.1] at h7; exact absurd h7 h9⟩
        rw [hx4 x4 h1, h35]
        simp only [T_Model_readLine, S_Model_readLine, B_Model_readLine_17, B_Model_readLine_40, B_Model_readLine_44]
        simp (disch := omega) only [q_lit, le_T, le_F, lt_T, lt_F, eq_T, eq_F, m1_lt, m1_le, lt_m1, le_m1, eq_m1, m1_eq, nI_add, nI_sub, nI_dec, nI_mul, nI_or, nI_and, nI_div, nI_mod, and_255, and_31, and_1, and_63, nI_shl, nI_shr, bI_F, bI_1, vp_T, cl_T, true_implies, false_implies, not_true_eq_false, not_false_eq_true, true_and, and_true, false_and, and_false, Bool.false_eq_true, Bool.true_eq_false, reduceCtorEq, implies_true]
        refine ⟨FL1, F1, Bo1, Le1, false, false, false, d1, ?_⟩
        rw [h8.2]
        have h7 := h8.1
        simp (disch := omega) only [q_lit, le_T, le_F, lt_T, lt_F, eq_T, eq_F, m1_lt, m1_le, lt_m1, le_m1, eq_m1, m1_eq, nI_add, nI_sub, nI_dec, nI_mul, nI_or, nI_and, nI_div, nI_mod, and_255, and_31, and_1, and_63, nI_shl, nI_shr, bI_F, bI_1, vp_T, cl_T, true_implies, false_implies, not_true_eq_false, not_false_eq_true, true_and, and_true, false_and, and_false, Bool.false_eq_true, Bool.true_eq_false, reduceCtorEq, implies_true]
    · by_cases h33 : L.getD s 0 = 33
      · have el : lin L s f ln a = kwd L (s + 1) f ln (clP a) := by unfold lin; rw [if_neg (by rw [hbk]; simp), if_neg h35, if_pos h33]
        rw [el]
        by_cases h9 : (clP a).2.2.2.2.2.1 = 0
        · have hMI : MI L ((FL1, F1, m.2.2.1, m.2.2.2.1, Bo1, Le1, m.2.2.2.2.2.2.1, m.2.2.2.2.2.2.2.1, m.2.2.2.2.2.2.2.2.1, m.2.2.2.2.2.2.2.2.2.1, m.2.2.2.2.2.2.2.2.2.2.1, m.2.2.2.2.2.2.2.2.2.2.2.1, m.2.2.2.2.2.2.2.2.2.2.2.2.1, m.2.2.2.2.2.2.2.2.2.2.2.2.2.1, m.2.2.2.2.2.2.2.2.2.2.2.2.2.2.1, m.2.2.2.2.2.2.2.2.2.2.2.2.2.2.2.1, false, false, false, m.2.2.2.2.2.2.2.2.2.2.2.2.2.2.2.2.2.2.2.1, m.2.2.2.2.2.2.2.2.2.2.2.2.2.2.2.2.2.2.2.2.1, m.2.2.2.2.2.2.2.2.2.2.2.2.2.2.2.2.2.2.2.2.2) : q_MM) (clP a) := by
            rcases d2 with ⟨_, h8⟩ | ⟨h8, _⟩
            · exact h8
            · exact absurd h9 h8
          obtain ⟨FL2, F2, K2, KL2, KG2, KB2, hL2, hN2, g1, g2⟩ := mi_kwd hs hv (ln := ln) hMI (by rw [hcl.2.1]; have := hA.2.2.2.2.1; omega) (s := s + 1) (f := f) (by omega) hf
          refine ⟨((FL2, F2, m.2.2.1, m.2.2.2.1, Bo1, Le1, m.2.2.2.2.2.2.1, K2, KL2, KG2, KB2, m.2.2.2.2.2.2.2.2.2.2.2.1, m.2.2.2.2.2.2.2.2.2.2.2.2.1, m.2.2.2.2.2.2.2.2.2.2.2.2.2.1, m.2.2.2.2.2.2.2.2.2.2.2.2.2.2.1, m.2.2.2.2.2.2.2.2.2.2.2.2.2.2.2.1, false, false, false, m.2.2.2.2.2.2.2.2.2.2.2.2.2.2.2.2.2.2.2.1, hL2, hN2) : q_MM), hgo _ 3 (fun x4 h1 => ?_), g2, fun _ h8 => by rw [kwd_inP, hcl.2.2.2.1] at h8; cases h8⟩
          rw [hx4 x4 h1, h33]
          have e1 := ft0 h9
          simp only [T_Model_readLine, S_Model_readLine, B_Model_readLine_17, B_Model_readLine_40, B_Model_readLine_44]
          simp (disch := omega) only [q_lit, le_T, le_F, lt_T, lt_F, eq_T, eq_F, m1_lt, m1_le, lt_m1, le_m1, eq_m1, m1_eq, nI_add, nI_sub, nI_dec, nI_mul, nI_or, nI_and, nI_div, nI_mod, and_255, and_31, and_1, and_63, nI_shl, nI_shr, bI_F, bI_1, vp_T, cl_T, true_implies, false_implies, not_true_eq_false, not_false_eq_true, true_and, and_true, false_and, and_false, Bool.false_eq_true, Bool.true_eq_false, reduceCtorEq, implies_true]
          refine ⟨FL1, F1, Bo1, Le1, false, false, false, d1, ?_⟩
          rw [e1] at g1 ⊢
          simp (disch := omega) only [q_lit, le_T, le_F, lt_T, lt_F, eq_T, eq_F, m1_lt, m1_le, lt_m1, le_m1, eq_m1, m1_eq, nI_add, nI_sub, nI_dec, nI_mul, nI_or, nI_and, nI_div, nI_mod, and_255, and_31, and_1, and_63, nI_shl, nI_shr, bI_F, bI_1, vp_T, cl_T, true_implies, false_implies, not_true_eq_false, not_false_eq_true, true_and, and_true, false_and, and_false, Bool.false_eq_true, Bool.true_eq_false, reduceCtorEq, implies_true]
          refine ⟨false, hbl, ?_⟩
          simp (disch := omega) only [q_lit, le_T, le_F, lt_T, lt_F, eq_T, eq_F, m1_lt, m1_le, lt_m1, le_m1, eq_m1, m1_eq, nI_add, nI_sub, nI_dec, nI_mul, nI_or, nI_and, nI_div, nI_mod, and_255, and_31, and_1, and_63, nI_shl, nI_shr, bI_F, bI_1, vp_T, cl_T, true_implies, false_implies, not_true_eq_false, not_false_eq_true, true_and, and_true, false_and, and_false, Bool.false_eq_true, Bool.true_eq_false, reduceCtorEq, implies_true]
          exact ⟨FL2, F2, K2, KL2, KG2, KB2, hL2, hN2, g1, by repeat' constructor⟩
        · have h8 := ft1 h9
          have hh := kwd_ft (L := L) (s := s + 1) (f := f) (ln := ln) h9
          refine ⟨((FL1, F1, m.2.2.1, m.2.2.2.1, Bo1, Le1, m.2.2.2.2.2.2.1, m.2.2.2.2.2.2.2.1, m.2.2.2.2.2.2.2.2.1, m.2.2.2.2.2.2.2.2.2.1, m.2.2.2.2.2.2.2.2.2.2.1, m.2.2.2.2.2.2.2.2.2.2.2.1, m.2.2.2.2.2.2.2.2.2.2.2.2.1, m.2.2.2.2.2.2.2.2.2.2.2.2.2.1, m.2.2.2.2.2.2.2.2.2.2.2.2.2.2.1, m.2.2.2.2.2.2.2.2.2.2.2.2.2.2.2.1, false, false, false, m.2.2.2.2.2.2.2.2.2.2.2.2.2.2.2.2.2.2.2.1, m.2.2.2.2.2.2.2.2.2.2.2.2.2.2.2.2.2.2.2.2.1, m.2.2.2.2.2.2.2.2.2.2.2.2.2.2.2.2.2.2.2.2.2) : q_MM), hgo _ 3 (fun x4 h1 => ?_), d2.fault h9 hh.1 hh.2, fun h7 => by rw [hh.1] at h7; exact absurd h7 h9⟩
          rw [hx4 x4 h1, h33]
          simp only [T_Model_readLine, S_Model_readLine, B_Model_readLine_17, B_Model_readLine_40, B_Model_readLine_44]
          simp (disch := omega) only [q_lit, le_T, le_F, lt_T, lt_F, eq_T, eq_F, m1_lt, m1_le, lt_m1, le_m1, eq_m1, m1_eq, nI_add, nI_sub, nI_dec, nI_mul, nI_or, nI_and, nI_div, nI_mod, and_255, and_31, and_1, and_63, nI_shl, nI_shr, bI_F, bI_1, vp_T, cl_T, true_implies, false_implies, not_true_eq_false, not_false_eq_true, true_and, and_true, false_and, and_false, Bool.false_eq_true, Bool.true_eq_false, reduceCtorEq, implies_true]
          refine ⟨FL1, F1, Bo1, Le1, false, false, false, d1, ?_⟩
          rw [h8.2]
          have h7 := h8.1
          simp (disch := omega) only [q_lit, le_T, le_F, lt_T, lt_F, eq_T, eq_F, m1_lt, m1_le, lt_m1, le_m1, eq_m1, m1_eq, nI_add, nI_sub, nI_dec, nI_mul, nI_or, nI_and, nI_div, nI_mod, and_255, and_31, and_1, and_63, nI_shl, nI_shr, bI_F, bI_1, vp_T, cl_T, true_implies, false_implies, not_true_eq_false, not_false_eq_true, true_and, and_true, false_and, and_false, Bool.false_eq_true, Bool.true_eq_false, reduceCtorEq, implies_true]
      · obtain ⟨z1, z2, z3, z4, z5, z6, z7, z8, z9, z10, z11, z12, z13, z14, z15⟩ := h
        by_cases h0 : a.2.1 = []
        · have el : lin L s f ln a = blm 1 ln a := by simp only [lin, hbk, h35, h33, h0, Bool.false_eq_true, if_true, if_false]
          rw [el]
          have hft : ¬ (blm 1 ln a).2.2.2.2.2.1 = 0 := by simp [blm, z2]
          have e0 : m.2.2.1 = nI 0 := by rw [z4, h0]; rfl
          refine ⟨((nI ln, nI 1, m.2.2.1, m.2.2.2.1, m.2.2.2.2.1, m.2.2.2.2.2.1, m.2.2.2.2.2.2.1, m.2.2.2.2.2.2.2.1, m.2.2.2.2.2.2.2.2.1, m.2.2.2.2.2.2.2.2.2.1, m.2.2.2.2.2.2.2.2.2.2.1, m.2.2.2.2.2.2.2.2.2.2.2.1, m.2.2.2.2.2.2.2.2.2.2.2.2.1, m.2.2.2.2.2.2.2.2.2.2.2.2.2.1, m.2.2.2.2.2.2.2.2.2.2.2.2.2.2.1, m.2.2.2.2.2.2.2.2.2.2.2.2.2.2.2.1, m.2.2.2.2.2.2.2.2.2.2.2.2.2.2.2.2.1, m.2.2.2.2.2.2.2.2.2.2.2.2.2.2.2.2.2.1, m.2.2.2.2.2.2.2.2.2.2.2.2.2.2.2.2.2.2.1, m.2.2.2.2.2.2.2.2.2.2.2.2.2.2.2.2.2.2.2.1, m.2.2.2.2.2.2.2.2.2.2.2.2.2.2.2.2.2.2.2.2.1, m.2.2.2.2.2.2.2.2.2.2.2.2.2.2.2.2.2.2.2.2.2) : q_MM), hgo _ 2 (fun x4 h1 => ?_), Or.inr ⟨hft, by simp [blm, z2], by simp [blm, z2], by simp [blm, z2], 0, by omega, e0⟩, fun h7 => absurd h7 hft⟩
          rw [hx4 x4 h1]
          simp only [T_Model_readLine, S_Model_readLine, B_Model_readLine_17, B_Model_readLine_40, B_Model_readLine_44]
          simp (disch := omega) only [q_lit, le_T, le_F, lt_T, lt_F, eq_T, eq_F, m1_lt, m1_le, lt_m1, le_m1, eq_m1, m1_eq, nI_add, nI_sub, nI_dec, nI_mul, nI_or, nI_and, nI_div, nI_mod, and_255, and_31, and_1, and_63, nI_shl, nI_shr, bI_F, bI_1, vp_T, cl_T, true_implies, false_implies, not_true_eq_false, not_false_eq_true, true_and, and_true, false_and, and_false, Bool.false_eq_true, Bool.true_eq_false, reduceCtorEq, implies_true]
          refine ⟨false, hbl, ?_⟩
          rw [z1, z3]
          simp (disch := omega) only [q_lit, le_T, le_F, lt_T, lt_F, eq_T, eq_F, m1_lt, m1_le, lt_m1, le_m1, eq_m1, m1_eq, nI_add, nI_sub, nI_dec, nI_mul, nI_or, nI_and, nI_div, nI_mod, and_255, and_31, and_1, and_63, nI_shl, nI_shr, bI_F, bI_1, vp_T, cl_T, true_implies, false_implies, not_true_eq_false, not_false_eq_true, true_and, and_true, false_and, and_false, Bool.false_eq_true, Bool.true_eq_false, reduceCtorEq, implies_true]
          refine ⟨false, hbl, ?_⟩
          simp (disch := omega) only [q_lit, le_T, le_F, lt_T, lt_F, eq_T, eq_F, m1_lt, m1_le, lt_m1, le_m1, eq_m1, m1_eq, nI_add, nI_sub, nI_dec, nI_mul, nI_or, nI_and, nI_div, nI_mod, and_255, and_31, and_1, and_63, nI_shl, nI_shr, bI_F, bI_1, vp_T, cl_T, true_implies, false_implies, not_true_eq_false, not_false_eq_true, true_and, and_true, false_and, and_false, Bool.false_eq_true, Bool.true_eq_false, reduceCtorEq, implies_true]
          refine ⟨nI ln, nI 1, m.2.2.2.2.1, m.2.2.2.2.2.1, m.2.2.2.2.2.2.2.2.2.2.2.1, m.2.2.2.2.2.2.2.2.2.2.2.2.1, m.2.2.2.2.2.2.2.2.2.2.2.2.2.1, m.2.2.2.2.2.2.2.2.2.2.2.2.2.2.1, m.2.2.2.2.2.2.2.2.2.2.2.2.2.2.2.1, m.2.2.2.2.2.2.2.2.2.2.2.2.2.2.2.2.1, m.2.2.2.2.2.2.2.2.2.2.2.2.2.2.2.2.2.1, m.2.2.2.2.2.2.2.2.2.2.2.2.2.2.2.2.2.2.1, m.2.2.2.2.2.2.2.2.2.2.2.2.2.2.2.2.2.2.2.1, ⟨0, ?_⟩, rfl, rfl, rfl, rfl, rfl, rfl, rfl, rfl, rfl, rfl, rfl, rfl, rfl⟩
          rw [e0]
          simp (disch := omega) only [q_lit, le_T, le_F, lt_T, lt_F, eq_T, eq_F, m1_lt, m1_le, lt_m1, le_m1, eq_m1, m1_eq, nI_add, nI_sub, nI_dec, nI_mul, nI_or, nI_and, nI_div, nI_mod, and_255, and_31, and_1, and_63, nI_shl, nI_shr, bI_F, bI_1, vp_T, cl_T, true_implies, false_implies, not_true_eq_false, not_false_eq_true, true_and, and_true, false_and, and_false, Bool.false_eq_true, Bool.true_eq_false, reduceCtorEq, implies_true]
          exact ⟨_, _, mo_fail0, rfl, rfl⟩
        · have hpos : 0 < a.2.1.length := List.length_pos_iff.mpr h0
          have h10 := z7.1
          have el : lin L s f ln a = q_txt L f ln ((a.1, a.2.1, a.2.2.1, a.2.2.2.1, a.2.2.2.2.1, a.2.2.2.2.2.1, a.2.2.2.2.2.2.1, a.2.2.2.2.2.2.2.1, a.2.2.2.2.2.2.2.2.1, a.2.2.2.2.2.2.2.1, ln) : q_Cs) s := by simp only [lin, hbk, h35, h33, h0, Bool.false_eq_true, if_false]
          rw [el]
          obtain ⟨m', ⟨q, hq⟩, e2, e3, e4⟩ := mi_txt hs hv (ln := ln) hf s ((a.1, a.2.1, a.2.2.1, a.2.2.2.1, a.2.2.2.2.1, a.2.2.2.2.2.1, a.2.2.2.2.2.2.1, a.2.2.2.2.2.2.2.1, a.2.2.2.2.2.2.2.2.1, a.2.2.2.2.2.2.2.1, ln) : q_Cs) ((m.1, m.2.1, m.2.2.1, m.2.2.2.1, m.2.2.2.2.1, m.2.2.2.2.2.1, m.2.2.2.2.2.2.1, m.2.2.2.2.2.2.2.1, m.2.2.2.2.2.2.2.2.1, m.2.2.2.2.2.2.2.2.2.1, m.2.2.2.2.2.2.2.2.2.2.1, m.2.2.2.2.2.2.2.2.2.2.2.1, m.2.2.2.2.2.2.2.2.2.2.2.2.1, m.2.2.2.2.2.2.2.2.2.2.2.2.2.1, m.2.2.2.2.2.2.2.2.2.2.2.2.2.2.1, m.2.2.2.2.2.2.2.2.2.2.2.2.2.2.2.1, m.2.2.2.2.2.2.2.2.2.2.2.2.2.2.2.2.1, m.2.2.2.2.2.2.2.2.2.2.2.2.2.2.2.2.2.1, true, m.2.2.2.2.2.2.2.2.2.2.2.2.2.2.2.2.2.2.2.1, m.2.2.2.2.2.2.2.2.2.2.2.2.2.2.2.2.2.2.2.2.1, m.2.2.2.2.2.2.2.2.2.2.2.2.2.2.2.2.2.2.2.2.2) : q_MM) ⟨z1, z2, z3, z4, z5, z6, z7, z8, z9, z10, z11, z12, z13, z14, z15⟩ h0 (by simp only [Bool.true_and]) rfl (Or.inr hbk) hb hA.2.2.2.1 hsf'
          obtain ⟨k1, k2, k3, k4, k5, k6, k7, k8, k9⟩ := e3
          refine ⟨m', hgo _ 2 (fun x4 h1 => ?_), e2, fun h7 _ => by rw [(e4 h7).1, (e4 h7).2]⟩
          rw [hx4 x4 h1]
          simp only [T_Model_readLine, S_Model_readLine, B_Model_readLine_17, B_Model_readLine_40, B_Model_readLine_44]
          simp (disch := omega) only [q_lit, le_T, le_F, lt_T, lt_F, eq_T, eq_F, m1_lt, m1_le, lt_m1, le_m1, eq_m1, m1_eq, nI_add, nI_sub, nI_dec, nI_mul, nI_or, nI_and, nI_div, nI_mod, and_255, and_31, and_1, and_63, nI_shl, nI_shr, bI_F, bI_1, vp_T, cl_T, true_implies, false_implies, not_true_eq_false, not_false_eq_true, true_and, and_true, false_and, and_false, Bool.false_eq_true, Bool.true_eq_false, reduceCtorEq, implies_true]
          refine ⟨false, hbl, ?_⟩
          rw [z1] at hq ⊢
          simp (disch := omega) only [q_lit, le_T, le_F, lt_T, lt_F, eq_T, eq_F, m1_lt, m1_le, lt_m1, le_m1, eq_m1, m1_eq, nI_add, nI_sub, nI_dec, nI_mul, nI_or, nI_and, nI_div, nI_mod, and_255, and_31, and_1, and_63, nI_shl, nI_shr, bI_F, bI_1, vp_T, cl_T, true_implies, false_implies, not_true_eq_false, not_false_eq_true, true_and, and_true, false_and, and_false, Bool.false_eq_true, Bool.true_eq_false, reduceCtorEq, implies_true]
          refine ⟨false, hbl, ?_⟩
          simp (disch := omega) only [q_lit, le_T, le_F, lt_T, lt_F, eq_T, eq_F, m1_lt, m1_le, lt_m1, le_m1, eq_m1, m1_eq, nI_add, nI_sub, nI_dec, nI_mul, nI_or, nI_and, nI_div, nI_mod, and_255, and_31, and_1, and_63, nI_shl, nI_shr, bI_F, bI_1, vp_T, cl_T, true_implies, false_implies, not_true_eq_false, not_false_eq_true, true_and, and_true, false_and, and_false, Bool.false_eq_true, Bool.true_eq_false, reduceCtorEq, implies_true]
          refine ⟨m'.1, m'.2.1, m'.2.2.2.2.1, m'.2.2.2.2.2.1, m'.2.2.2.2.2.2.2.2.2.2.2.1, m'.2.2.2.2.2.2.2.2.2.2.2.2.1, m'.2.2.2.2.2.2.2.2.2.2.2.2.2.1, m'.2.2.2.2.2.2.2.2.2.2.2.2.2.2.1, m'.2.2.2.2.2.2.2.2.2.2.2.2.2.2.2.1, m'.2.2.2.2.2.2.2.2.2.2.2.2.2.2.2.2.1, m'.2.2.2.2.2.2.2.2.2.2.2.2.2.2.2.2.2.1, m'.2.2.2.2.2.2.2.2.2.2.2.2.2.2.2.2.2.2.1, m'.2.2.2.2.2.2.2.2.2.2.2.2.2.2.2.2.2.2.2.1, ⟨q, ?_⟩, rfl, rfl, k1, k2, rfl, rfl, k3, k4, k5, k6, k7, rfl, rfl, rfl, rfl, rfl, rfl, rfl, rfl, rfl, k8, k9⟩
          rw [z4] at hq ⊢
          simp (disch := omega) only [q_lit, le_T, le_F, lt_T, lt_F, eq_T, eq_F, m1_lt, m1_le, lt_m1, le_m1, eq_m1, m1_eq, nI_add, nI_sub, nI_dec, nI_mul, nI_or, nI_and, nI_div, nI_mod, and_255, and_31, and_1, and_63, nI_shl, nI_shr, bI_F, bI_1, vp_T, cl_T, true_implies, false_implies, not_true_eq_false, not_false_eq_true, true_and, and_true, false_and, and_false, Bool.false_eq_true, Bool.true_eq_false, reduceCtorEq, implies_true]
          exact hq
