/-! Pure: the reference writes tree, index, image. -/
theorem m_key {Lt Ln Bt : Nat → Int32} {C : Int32} {m : List (List Nat × Nat)} (hm : MW 8 250 Lt Ln Bt C m) {cmp : Bool} {iS : Int32} {J : List Nat} {B : Nat} {k : Nat} (hk : k < m.length) (j : Nat) (hj : j ≤ (mw m k).length) (Im : Nat → Int32) (U : Bool) (Ot To : Int32) (L : List Nat) (h : q_EM cmp iS J B Im U Ot To L) (hl : L.length + ((mw m k).length - j) ≤ B) :
    ∃ Im' U' Ot' To', (∃ q, T_Model_emitKey Lt Ln iS cmp Im' U' Ot' To' q (nI k) (nI j) Im U Ot To) ∧ q_EM cmp iS J B Im' U' Ot' To' (L ++ (mw m k).drop j) := by
  obtain ⟨rfl, hm2, hm3⟩ := hm
  obtain ⟨e1, e2, e3, e4, e5⟩ := hm3 k hk
  by_cases h1 : j < (mw m k).length
  · have w1 := e3.at h1
    obtain ⟨I1, U1, O1, T1, a1, a2⟩ := mo_emit h (b := (mw m k).getD j 0) (by omega) (by omega)
    obtain ⟨I2, U2, O2, T2, ⟨q, hq⟩, b2⟩ := m_key ⟨rfl, hm2, hm3⟩ hk (j + 1) (by omega) I1 U1 O1 T1 _ a2 (by simp; omega)
    refine ⟨I2, U2, O2, T2, ⟨q + 1, ?_⟩, ?_⟩
    · simp (disch := omega) only [T_Model_emitKey, S_Model_emitKey, B_Model_emitKey_12, e1, e5 j h1, q_lit, le_T, le_F, lt_T, lt_F, eq_T, eq_F, m1_lt, m1_le, lt_m1, le_m1, eq_m1, m1_eq, nI_add, nI_sub, nI_dec, nI_mul, nI_or, nI_and, nI_div, nI_mod, and_255, and_31, and_1, and_63, nI_shl, nI_shr, bI_F, bI_1, vp_T, cl_T, true_implies, false_implies, not_true_eq_false, not_false_eq_true, true_and, and_true, false_and, and_false, Bool.false_eq_true, Bool.true_eq_false, reduceCtorEq, implies_true, q_lc_eq, q_lc_ge, q_lc_gt, q_lc_le, lN_or, lN_and, lN_shl, lN_shr, nI_L, lN_I, l_0]
      exact ⟨I1, U1, O1, T1, a1, hq⟩
    · rw [drop_s h1]; simpa using b2
  · refine ⟨Im, U, Ot, To, ⟨1, ?_⟩, ?_⟩
    · simp (disch := omega) only [T_Model_emitKey, S_Model_emitKey, B_Model_emitKey_12, e1, q_lit, le_T, le_F, lt_T, lt_F, eq_T, eq_F, m1_lt, m1_le, lt_m1, le_m1, eq_m1, m1_eq, nI_add, nI_sub, nI_dec, nI_mul, nI_or, nI_and, nI_div, nI_mod, and_255, and_31, and_1, and_63, nI_shl, nI_shr, bI_F, bI_1, vp_T, cl_T, true_implies, false_implies, not_true_eq_false, not_false_eq_true, true_and, and_true, false_and, and_false, Bool.false_eq_true, Bool.true_eq_false, reduceCtorEq, implies_true, q_lc_eq, q_lc_ge, q_lc_gt, q_lc_le, lN_or, lN_and, lN_shl, lN_shr, nI_L, lN_I, l_0]
    · rw [List.drop_eq_nil_of_le (by omega)]; simpa using h
termination_by (mw m k).length - j
decreasing_by all_goals omega
theorem mo_key {Lt Ln Bt : Nat → Int32} {C : Int32} {m : List (List Nat × Nat)} (hm : MW 8 250 Lt Ln Bt C m) {cmp : Bool} {iS : Int32} {J : List Nat} {B : Nat} {Im : Nat → Int32} {U : Bool} {Ot To : Int32} {L : List Nat} (h : q_EM cmp iS J B Im U Ot To L) {k : Nat} (hk : k < m.length) (hl : L.length + (wrd (mw m k)).length ≤ B) :
    ∃ Im' U' Ot' To', D_Model_emitKey (nI k) Lt Ln iS Im cmp U Ot To Im' U' Ot' To' ∧ q_EM cmp iS J B Im' U' Ot' To' (L ++ wrd (mw m k)) := by
  have hm' := hm
  obtain ⟨-, hm2, hm3⟩ := hm
  obtain ⟨e1, e2, e3, e4, e5⟩ := hm3 k hk
  simp only [wrd, List.length_cons] at hl
  obtain ⟨I1, U1, O1, T1, a1, a2⟩ := mo_emit h (b := (mw m k).length) (by omega) (by omega)
  obtain ⟨I2, U2, O2, T2, ⟨q, hq⟩, b2⟩ := m_key hm' hk 0 (by omega) I1 U1 O1 T1 _ a2 (by simp; omega)
  refine ⟨I2, U2, O2, T2, ⟨q, ?_⟩, by simpa [wrd] using b2⟩
  simp (disch := omega) only [e1, q_lit, le_T, le_F, lt_T, lt_F, eq_T, eq_F, m1_lt, m1_le, lt_m1, le_m1, eq_m1, m1_eq, nI_add, nI_sub, nI_dec, nI_mul, nI_or, nI_and, nI_div, nI_mod, and_255, and_31, and_1, and_63, nI_shl, nI_shr, bI_F, bI_1, vp_T, cl_T, true_implies, false_implies, not_true_eq_false, not_false_eq_true, true_and, and_true, false_and, and_false, Bool.false_eq_true, Bool.true_eq_false, reduceCtorEq, implies_true]
  exact ⟨I1, U1, O1, T1, a1, hq⟩
theorem mod4n {k : Nat} (hk : k < 1000000) : nI k - nI k / nI 4 * nI 4 = nI (k % 4) := by have := mod4 hk; simpa only [q_lit] using this
theorem by4 {n : Nat} (hn : n < 1000000) : (nI n + nI 3) / nI 4 = nI ((n + 3) / 4) := by simp (disch := omega) only [q_lit, le_T, le_F, lt_T, lt_F, eq_T, eq_F, m1_lt, m1_le, lt_m1, le_m1, eq_m1, m1_eq, nI_add, nI_sub, nI_dec, nI_mul, nI_or, nI_and, nI_div, nI_mod, and_255, and_31, and_1, and_63, nI_shl, nI_shr, bI_F, bI_1, vp_T, cl_T, true_implies, false_implies, not_true_eq_false, not_false_eq_true, true_and, and_true, false_and, and_false, Bool.false_eq_true, Bool.true_eq_false, reduceCtorEq, implies_true]
theorem mo_nodes {n : Nat} (hn : n ≤ 64) : D_Model_nodesOf (nI n) (nI (treeN (4 * n))) := by
  have t : ∀ q (x1 x2 : Nat), x1 ≤ 1 → x2 < 1000000 → T_Model_nodesOf (nI x2) (q + 1) (nI x1) (nI x2) := fun q x1 x2 h h2 => by simp (disch := omega) only [T_Model_nodesOf, S_Model_nodesOf, B_Model_nodesOf_4, q_lit, le_T, le_F, lt_T, lt_F, eq_T, eq_F, m1_lt, m1_le, lt_m1, le_m1, eq_m1, m1_eq, nI_add, nI_sub, nI_dec, nI_mul, nI_or, nI_and, nI_div, nI_mod, and_255, and_31, and_1, and_63, nI_shl, nI_shr, bI_F, bI_1, vp_T, cl_T, true_implies, false_implies, not_true_eq_false, not_false_eq_true, true_and, and_true, false_and, and_false, Bool.false_eq_true, Bool.true_eq_false, reduceCtorEq, implies_true, q_lc_eq, q_lc_ge, q_lc_gt, q_lc_le, lN_or, lN_and, lN_shl, lN_shr, nI_L, lN_I, l_0]
  have s : ∀ q (x1 x2 : Nat) R, 1 < x1 → x1 < 1000 → x2 < 1000000 → T_Model_nodesOf R q (nI ((x1 + 3) / 4)) (nI (x2 + (x1 + 3) / 4)) → T_Model_nodesOf R (q + 1) (nI x1) (nI x2) := fun q x1 x2 R h h2 h3 hq => by
    simp (disch := omega) only [T_Model_nodesOf, S_Model_nodesOf, B_Model_nodesOf_4, q_lit, le_T, le_F, lt_T, lt_F, eq_T, eq_F, m1_lt, m1_le, lt_m1, le_m1, eq_m1, m1_eq, nI_add, nI_sub, nI_dec, nI_mul, nI_or, nI_and, nI_div, nI_mod, and_255, and_31, and_1, and_63, nI_shl, nI_shr, bI_F, bI_1, vp_T, cl_T, true_implies, false_implies, not_true_eq_false, not_false_eq_true, true_and, and_true, false_and, and_false, Bool.false_eq_true, Bool.true_eq_false, reduceCtorEq, implies_true, q_lc_eq, q_lc_ge, q_lc_gt, q_lc_le, lN_or, lN_and, lN_shl, lN_shr, nI_L, lN_I, l_0]
    exact hq
  by_cases h1 : n ≤ 1
  · refine ⟨1, ?_⟩
    have : treeN (4 * n) = n := by simp only [treeN, up4]; rw [if_neg (by omega)]; omega
    rw [this]; exact t 0 n n h1 (by omega)
  · by_cases h2 : n ≤ 4
    · refine ⟨2, ?_⟩
      have : treeN (4 * n) = n + (n + 3) / 4 := by simp only [treeN, up4]; rw [if_pos (by omega), if_neg (by omega)]; omega
      rw [this]; exact s 1 n n _ (by omega) (by omega) (by omega) (t 0 _ _ (by omega) (by omega))
    · by_cases h3 : n ≤ 16
      · refine ⟨3, ?_⟩
        have : treeN (4 * n) = n + (n + 3) / 4 + ((n + 3) / 4 + 3) / 4 := by simp only [treeN, up4]; rw [if_pos (by omega), if_pos (by omega), if_neg (by omega)]; omega
        rw [this]; exact s 2 n n _ (by omega) (by omega) (by omega) (s 1 _ _ _ (by omega) (by omega) (by omega) (t 0 _ _ (by omega) (by omega)))
      · refine ⟨4, ?_⟩
        have : treeN (4 * n) = n + (n + 3) / 4 + ((n + 3) / 4 + 3) / 4 + (((n + 3) / 4 + 3) / 4 + 3) / 4 := by simp only [treeN, up4]; rw [if_pos (by omega), if_pos (by omega), if_pos (by omega)]; omega
        rw [this]; exact s 3 n n _ (by omega) (by omega) (by omega) (s 2 _ _ _ (by omega) (by omega) (by omega) (s 1 _ _ _ (by omega) (by omega) (by omega) (t 0 _ _ (by omega) (by omega))))
theorem treeN_4 (k : Nat) : treeN (4 * ((k + 3) / 4)) = treeN k := by
  simp only [treeN, up4]
  by_cases h1 : 4 < k
  · rw [if_pos h1, if_pos (show 4 < 4 * ((k + 3) / 4) by omega)]
    by_cases h2 : 16 < k
    · rw [if_pos h2, if_pos (show 16 < 4 * ((k + 3) / 4) by omega)]
      by_cases h3 : 64 < k
      · rw [if_pos h3, if_pos (show 64 < 4 * ((k + 3) / 4) by omega)]; omega
      · rw [if_neg h3, if_neg (show ¬ 64 < 4 * ((k + 3) / 4) by omega)]; omega
    · rw [if_neg h2, if_neg (show ¬ 16 < 4 * ((k + 3) / 4) by omega)]; omega
  · rw [if_neg h1, if_neg (show ¬ 4 < 4 * ((k + 3) / 4) by omega)]; omega
/-- the count at a node's head, if one is due -/
def hdc (n k : Nat) : List Nat := if k % 4 = 0 then [if n - k < 4 then n - k else 4] else []
theorem lvs_s (m : List (List Nat × Nat)) (k : Nat) : lvs m (k + 1) = lvs m k ++ (hdc m.length k ++ (wrd (mw m k) ++ pr2 (mb m k))) := rfl
theorem rowA_s (m : List (List Nat × Nat)) (f s n k : Nat) : rowA m f s n (k + 1) = rowA m f s n k ++ (hdc n k ++ ([f + k] ++ wrd (mw m (k * s)))) := rfl
theorem lvs_mono (m : List (List Nat × Nat)) {a b : Nat} (h : a ≤ b) : (lvs m a).length ≤ (lvs m b).length := by
  induction b with
  | zero => rw [show a = 0 by omega]; exact Nat.le_refl _
  | succ b ih =>
    by_cases h1 : a = b + 1
    · rw [h1]; exact Nat.le_refl _
    · have := ih (by omega); rw [lvs_s]; simp only [List.length_append]; omega
theorem rowA_mono (m : List (List Nat × Nat)) (f s n : Nat) {a b : Nat} (h : a ≤ b) : (rowA m f s n a).length ≤ (rowA m f s n b).length := by
  induction b with
  | zero => rw [show a = 0 by omega]; exact Nat.le_refl _
  | succ b ih =>
    by_cases h1 : a = b + 1
    · rw [h1]; exact Nat.le_refl _
    · have := ih (by omega); rw [rowA_s]; simp only [List.length_append]; omega
/-- a count is written if it is due -/
theorem mo_hdc {cmp : Bool} {iS : Int32} {J : List Nat} {B : Nat} {Im : Nat → Int32} {U : Bool} {Ot To : Int32} {L : List Nat} (h : q_EM cmp iS J B Im U Ot To L) {n k : Nat} (hn : n < 1000) (hk : k < n) (hl : L.length + (hdc n k).length ≤ B) : ∃ Im' U' Ot' To', (k % 4 = 0 → 4 ≤ n - k → D_Model_emit (nI 4) iS Im cmp U Ot To Im' U' Ot' To') ∧ (k % 4 = 0 → ¬ 4 ≤ n - k → D_Model_emit (nI (n - k)) iS Im cmp U Ot To Im' U' Ot' To') ∧ (¬ k % 4 = 0 → Im' = Im ∧ U' = U ∧ Ot' = Ot ∧ To' = To) ∧ q_EM cmp iS J B Im' U' Ot' To' (L ++ hdc n k) := by
  unfold hdc at hl ⊢
  by_cases h1 : k % 4 = 0
  · rw [if_pos h1] at hl ⊢
    by_cases h2 : 4 ≤ n - k
    · rw [if_neg (by omega)] at hl ⊢
      obtain ⟨I1, U1, O1, T1, a1, a2⟩ := mo_emit h (b := 4) (by omega) (by simpa using hl)
      exact ⟨I1, U1, O1, T1, fun _ _ => a1, fun _ h9 => absurd h2 h9, fun h9 => absurd h1 h9, a2⟩
    · rw [if_pos (by omega)] at hl ⊢
      obtain ⟨I1, U1, O1, T1, a1, a2⟩ := mo_emit h (b := n - k) (by omega) (by simpa using hl)
      exact ⟨I1, U1, O1, T1, fun _ h9 => absurd h9 h2, fun _ _ => a1, fun h9 => absurd h1 h9, a2⟩
  · rw [if_neg h1] at hl ⊢
    exact ⟨Im, U, Ot, To, fun h9 => absurd h9 h1, fun h9 => absurd h9 h1, fun _ => ⟨rfl, rfl, rfl, rfl⟩, by simpa using h⟩
theorem m_tree0 {Lt Ln Bt : Nat → Int32} {C : Int32} {m : List (List Nat × Nat)} (hm : MW 8 250 Lt Ln Bt C m) {cmp : Bool} {iS : Int32} {J : List Nat} {B : Nat} {L : List Nat} (hok : ∀ i, i < m.length → mb m i < 65536) {R : List Nat} {x1 : Int32}
    (q_fin : ∀ Im U Ot To, q_EM cmp iS J B Im U Ot To (L ++ lvs m m.length) → ∃ Im' U' Ot' To', (∃ q, T_Model_emitTree C Lt Ln Bt iS cmp Im' U' Ot' To' q 2 (nI 0) x1 (nI 0) (nI 4) (nI 0) Im U Ot To) ∧ q_EM cmp iS J B Im' U' Ot' To' R)
    (hl : L.length + (lvs m m.length).length ≤ B) (k : Nat) (hk : k ≤ m.length) (Im : Nat → Int32) (U : Bool) (Ot To : Int32) (h : q_EM cmp iS J B Im U Ot To (L ++ lvs m k)) :
    ∃ Im' U' Ot' To', (∃ q, T_Model_emitTree C Lt Ln Bt iS cmp Im' U' Ot' To' q 0 x1 (nI k) (nI 0) (nI 0) (nI 0) Im U Ot To) ∧ q_EM cmp iS J B Im' U' Ot' To' R := by
  have hm' := hm
  obtain ⟨rfl, hm2, hm3⟩ := hm
  by_cases h1 : k < m.length
  · obtain ⟨e1, e2, e3, e4, e5⟩ := hm3 k h1
    have hb := hok k h1
    have hmo := lvs_mono m (show k + 1 ≤ m.length by omega)
    rw [lvs_s] at hmo
    simp only [List.length_append] at hmo
    have hp2 : (pr2 (mb m k)).length = 2 := rfl
    obtain ⟨I1, U1, O1, T1, a1, a2, a3, a4⟩ := mo_hdc h (n := m.length) (k := k) (by omega) h1 (by simp only [List.length_append]; omega)
    obtain ⟨I2, U2, O2, T2, b1, b2⟩ := mo_key hm' a4 h1 (by simp only [List.length_append]; omega)
    obtain ⟨I3, U3, O3, T3, c1, c2⟩ := mo_two b2 (n := mb m k) (by omega) (by simp only [List.length_append]; omega)
    obtain ⟨I4, U4, O4, T4, ⟨q, hq⟩, d2⟩ := m_tree0 hm' hok q_fin hl (k + 1) h1 I3 U3 O3 T3 (by rw [lvs_s]; simpa using c2)
    refine ⟨I4, U4, O4, T4, ⟨q + 2, ?_⟩, d2⟩
    have st1 : T_Model_emitTree (nI m.length) Lt Ln Bt iS cmp I4 U4 O4 T4 (q + 1) 1 x1 (nI k) (nI 0) (nI 0) (nI 0) I1 U1 O1 T1 := by
      simp (disch := omega) only [T_Model_emitTree, S_Model_emitTree, B_Model_emitTree_56, e2, q_lit, le_T, le_F, lt_T, lt_F, eq_T, eq_F, m1_lt, m1_le, lt_m1, le_m1, eq_m1, m1_eq, nI_add, nI_sub, nI_dec, nI_mul, nI_or, nI_and, nI_div, nI_mod, and_255, and_31, and_1, and_63, nI_shl, nI_shr, bI_F, bI_1, vp_T, cl_T, true_implies, false_implies, not_true_eq_false, not_false_eq_true, true_and, and_true, false_and, and_false, Bool.false_eq_true, Bool.true_eq_false, reduceCtorEq, implies_true, q_lc_eq, q_lc_ge, q_lc_gt, q_lc_le, lN_or, lN_and, lN_shl, lN_shr, nI_L, lN_I, l_0]
      exact ⟨I2, U2, O2, T2, b1, I3, U3, O3, T3, c1, hq⟩
    rw [T_Model_emitTree]
    by_cases h4 : k % 4 = 0
    · by_cases h5 : 4 ≤ m.length - k
      · simp (disch := omega) only [S_Model_emitTree, B_Model_emitTree_18, mod4n, q_lit, le_T, le_F, lt_T, lt_F, eq_T, eq_F, nI_sub, true_implies, false_implies, not_true_eq_false, not_false_eq_true, true_and, and_true]
        exact ⟨I1, U1, O1, T1, a1 h4 h5, st1⟩
      · simp (disch := omega) only [S_Model_emitTree, B_Model_emitTree_18, mod4n, q_lit, le_T, le_F, lt_T, lt_F, eq_T, eq_F, nI_sub, true_implies, false_implies, not_true_eq_false, not_false_eq_true, true_and, and_true]
        exact ⟨I1, U1, O1, T1, a2 h4 h5, st1⟩
    · obtain ⟨rfl, rfl, rfl, rfl⟩ := a3 h4
      simp (disch := omega) only [S_Model_emitTree, B_Model_emitTree_18, mod4n, q_lit, le_T, le_F, lt_T, lt_F, eq_T, eq_F, nI_sub, true_implies, false_implies, not_true_eq_false, not_false_eq_true, true_and, and_true]
      exact st1
  · rw [show k = m.length by omega] at h ⊢
    obtain ⟨I1, U1, O1, T1, ⟨q, hq⟩, a2⟩ := q_fin Im U Ot To h
    refine ⟨I1, U1, O1, T1, ⟨q + 1, ?_⟩, a2⟩
    rw [T_Model_emitTree]
    simp (disch := omega) only [S_Model_emitTree, B_Model_emitTree_18, q_lit, le_T, le_F, lt_T, lt_F, eq_T, eq_F, m1_lt, m1_le, lt_m1, le_m1, eq_m1, m1_eq, nI_add, nI_sub, nI_dec, nI_mul, nI_or, nI_and, nI_div, nI_mod, and_255, and_31, and_1, and_63, nI_shl, nI_shr, bI_F, bI_1, vp_T, cl_T, true_implies, false_implies, not_true_eq_false, not_false_eq_true, true_and, and_true, false_and, and_false, Bool.false_eq_true, Bool.true_eq_false, reduceCtorEq, implies_true]
    exact hq
termination_by m.length - k
decreasing_by all_goals omega
theorem m_rowA {Lt Ln Bt : Nat → Int32} {C : Int32} {m : List (List Nat × Nat)} (hm : MW 8 250 Lt Ln Bt C m) {cmp : Bool} {iS : Int32} {J : List Nat} {B : Nat} {L : List Nat} {f s n : Nat} (hf : f < 1000) (hs : s < 1000) (hn : n < 1000) (hns : ∀ k, k < n → k * s < m.length) {R : List Nat}
    (q_fin : ∀ Im U Ot To, q_EM cmp iS J B Im U Ot To (L ++ rowA m f s n n) → ∃ Im' U' Ot' To', (∃ q, T_Model_emitTree C Lt Ln Bt iS cmp Im' U' Ot' To' q 2 (nI 0) (nI ((n + 3) / 4)) (nI (f + n)) (nI (4 * s)) (nI 0) Im U Ot To) ∧ q_EM cmp iS J B Im' U' Ot' To' R)
    (hl : L.length + (rowA m f s n n).length ≤ B) (k : Nat) (hk : k ≤ n) (Im : Nat → Int32) (U : Bool) (Ot To : Int32) (h : q_EM cmp iS J B Im U Ot To (L ++ rowA m f s n k)) :
    ∃ Im' U' Ot' To', (∃ q, T_Model_emitTree C Lt Ln Bt iS cmp Im' U' Ot' To' q 3 (nI 0) (nI n) (nI f) (nI s) (nI k) Im U Ot To) ∧ q_EM cmp iS J B Im' U' Ot' To' R := by
  by_cases h1 : k < n
  · have hks := hns k h1
    have hmo := rowA_mono m f s n (show k + 1 ≤ n by omega)
    rw [rowA_s] at hmo
    simp only [List.length_append, List.length_cons, List.length_nil] at hmo
    obtain ⟨I1, U1, O1, T1, a1, a2, a3, a4⟩ := mo_hdc h (n := n) (k := k) (by omega) h1 (by simp only [List.length_append]; omega)
    obtain ⟨I2, U2, O2, T2, b1, b2⟩ := mo_emit a4 (b := f + k) (by omega) (by simp only [List.length_append]; omega)
    obtain ⟨I3, U3, O3, T3, c1, c2⟩ := mo_key hm b2 hks (by simp only [List.length_append, List.length_cons, List.length_nil]; omega)
    obtain ⟨I4, U4, O4, T4, ⟨q, hq⟩, d2⟩ := m_rowA hm hf hs hn hns q_fin hl (k + 1) h1 I3 U3 O3 T3 (by rw [rowA_s]; simpa using c2)
    refine ⟨I4, U4, O4, T4, ⟨q + 2, ?_⟩, d2⟩
    have st1 : T_Model_emitTree C Lt Ln Bt iS cmp I4 U4 O4 T4 (q + 1) 4 (nI 0) (nI n) (nI f) (nI s) (nI k) I1 U1 O1 T1 := by
      simp (disch := omega) only [T_Model_emitTree, S_Model_emitTree, B_Model_emitTree_125, q_lit, le_T, le_F, lt_T, lt_F, eq_T, eq_F, m1_lt, m1_le, lt_m1, le_m1, eq_m1, m1_eq, nI_add, nI_sub, nI_dec, nI_mul, nI_or, nI_and, nI_div, nI_mod, and_255, and_31, and_1, and_63, nI_shl, nI_shr, bI_F, bI_1, vp_T, cl_T, true_implies, false_implies, not_true_eq_false, not_false_eq_true, true_and, and_true, false_and, and_false, Bool.false_eq_true, Bool.true_eq_false, reduceCtorEq, implies_true, q_lc_eq, q_lc_ge, q_lc_gt, q_lc_le, lN_or, lN_and, lN_shl, lN_shr, nI_L, lN_I, l_0]
      exact ⟨I2, U2, O2, T2, b1, I3, U3, O3, T3, c1, hq⟩
    rw [T_Model_emitTree]
    by_cases h4 : k % 4 = 0
    · by_cases h5 : 4 ≤ n - k
      · simp (disch := omega) only [S_Model_emitTree, B_Model_emitTree_92, mod4n, q_lit, le_T, le_F, lt_T, lt_F, eq_T, eq_F, nI_sub, true_implies, false_implies, not_true_eq_false, not_false_eq_true, true_and, and_true]
        exact ⟨I1, U1, O1, T1, a1 h4 h5, st1⟩
      · simp (disch := omega) only [S_Model_emitTree, B_Model_emitTree_92, mod4n, q_lit, le_T, le_F, lt_T, lt_F, eq_T, eq_F, nI_sub, true_implies, false_implies, not_true_eq_false, not_false_eq_true, true_and, and_true]
        exact ⟨I1, U1, O1, T1, a2 h4 h5, st1⟩
    · obtain ⟨rfl, rfl, rfl, rfl⟩ := a3 h4
      simp (disch := omega) only [S_Model_emitTree, B_Model_emitTree_92, mod4n, q_lit, le_T, le_F, lt_T, lt_F, eq_T, eq_F, nI_sub, true_implies, false_implies, not_true_eq_false, not_false_eq_true, true_and, and_true]
      exact st1
  · rw [show k = n by omega] at h ⊢
    obtain ⟨I1, U1, O1, T1, ⟨q, hq⟩, a2⟩ := q_fin Im U Ot To h
    refine ⟨I1, U1, O1, T1, ⟨q + 1, ?_⟩, a2⟩
    rw [T_Model_emitTree]
    simp (disch := omega) only [S_Model_emitTree, B_Model_emitTree_92, q_lit, le_T, le_F, lt_T, lt_F, eq_T, eq_F, m1_lt, m1_le, lt_m1, le_m1, eq_m1, m1_eq, nI_add, nI_sub, nI_dec, nI_mul, nI_or, nI_and, nI_div, nI_mod, and_255, and_31, and_1, and_63, nI_shl, nI_shr, bI_F, bI_1, vp_T, cl_T, true_implies, false_implies, not_true_eq_false, not_false_eq_true, true_and, and_true, false_and, and_false, Bool.false_eq_true, Bool.true_eq_false, reduceCtorEq, implies_true]
    exact hq
termination_by n - k
decreasing_by all_goals omega
theorem m_tr2 {Lt Ln Bt : Nat → Int32} {C : Int32} {m : List (List Nat × Nat)} (hm : MW 8 250 Lt Ln Bt C m) {cmp : Bool} {iS : Int32} {J : List Nat} {B : Nat} {L : List Nat} {f s n : Nat} (hf : f < 1000) (hs : s < 1000) (hn : n < 1000) (hns : ∀ k, k < n → k * s < m.length) (h2 : 1 < n) {R : List Nat}
    (q_fin : ∀ Im U Ot To, q_EM cmp iS J B Im U Ot To (L ++ rowA m f s n n) → ∃ Im' U' Ot' To', (∃ q, T_Model_emitTree C Lt Ln Bt iS cmp Im' U' Ot' To' q 2 (nI 0) (nI ((n + 3) / 4)) (nI (f + n)) (nI (4 * s)) (nI 0) Im U Ot To) ∧ q_EM cmp iS J B Im' U' Ot' To' R)
    (hl : L.length + (rowA m f s n n).length ≤ B) (Im : Nat → Int32) (U : Bool) (Ot To : Int32) (h : q_EM cmp iS J B Im U Ot To L) :
    ∃ Im' U' Ot' To', (∃ q, T_Model_emitTree C Lt Ln Bt iS cmp Im' U' Ot' To' q 2 (nI 0) (nI n) (nI f) (nI s) (nI 0) Im U Ot To) ∧ q_EM cmp iS J B Im' U' Ot' To' R := by
  obtain ⟨I1, U1, O1, T1, ⟨q, hq⟩, a2⟩ := m_rowA hm hf hs hn hns q_fin hl 0 (by omega) Im U Ot To (by simpa [rowA] using h)
  refine ⟨I1, U1, O1, T1, ⟨q + 1, ?_⟩, a2⟩
  rw [T_Model_emitTree]
  simp (disch := omega) only [S_Model_emitTree, B_Model_emitTree_84, q_lit, le_T, le_F, lt_T, lt_F, eq_T, eq_F, m1_lt, m1_le, lt_m1, le_m1, eq_m1, m1_eq, nI_add, nI_sub, nI_dec, nI_mul, nI_or, nI_and, nI_div, nI_mod, and_255, and_31, and_1, and_63, nI_shl, nI_shr, bI_F, bI_1, vp_T, cl_T, true_implies, false_implies, not_true_eq_false, not_false_eq_true, true_and, and_true, false_and, and_false, Bool.false_eq_true, Bool.true_eq_false, reduceCtorEq, implies_true]
  exact hq
theorem m_tr3 {Lt Ln Bt : Nat → Int32} {C : Int32} {m : List (List Nat × Nat)} (hm : MW 8 250 Lt Ln Bt C m) {cmp : Bool} {iS : Int32} {J : List Nat} {B : Nat} {L : List Nat} {f s n : Nat} (h2 : n ≤ 1) (Im : Nat → Int32) (U : Bool) (Ot To : Int32) (h : q_EM cmp iS J B Im U Ot To L) :
    ∃ Im' U' Ot' To', (∃ q, T_Model_emitTree C Lt Ln Bt iS cmp Im' U' Ot' To' q 2 (nI 0) (nI n) (nI f) (nI s) (nI 0) Im U Ot To) ∧ q_EM cmp iS J B Im' U' Ot' To' L := by
  refine ⟨Im, U, Ot, To, ⟨1, ?_⟩, h⟩
  rw [T_Model_emitTree]
  simp (disch := omega) only [S_Model_emitTree, B_Model_emitTree_84, q_lit, le_T, le_F, lt_T, lt_F, eq_T, eq_F, m1_lt, m1_le, lt_m1, le_m1, eq_m1, m1_eq, nI_add, nI_sub, nI_dec, nI_mul, nI_or, nI_and, nI_div, nI_mod, and_255, and_31, and_1, and_63, nI_shl, nI_shr, bI_F, bI_1, vp_T, cl_T, true_implies, false_implies, not_true_eq_false, not_false_eq_true, true_and, and_true, false_and, and_false, Bool.false_eq_true, Bool.true_eq_false, reduceCtorEq, implies_true]
theorem mo_tree {Lt Ln Bt : Nat → Int32} {C : Int32} {m : List (List Nat × Nat)} (hm : MW 8 250 Lt Ln Bt C m) {cmp : Bool} {iS : Int32} {J : List Nat} {B : Nat} {Im : Nat → Int32} {U : Bool} {Ot To : Int32} {L : List Nat} (h : q_EM cmp iS J B Im U Ot To L) (hok : ∀ i, i < m.length → mb m i < 65536) (hl : L.length + (tree m).length ≤ B) :
    ∃ Im' U' Ot' To', D_Model_emitTree C Lt Ln Bt iS Im cmp U Ot To Im' U' Ot' To' ∧ q_EM cmp iS J B Im' U' Ot' To' (L ++ tree m) := by
  have hm2 := hm.2.1
  have hC := hm.1
  have e4 : (C + 3) / 4 = nI (up4 m.length 4) := by rw [hC]; simp (disch := omega) only [up4, q_lit, le_T, le_F, lt_T, lt_F, eq_T, eq_F, m1_lt, m1_le, lt_m1, le_m1, eq_m1, m1_eq, nI_add, nI_sub, nI_dec, nI_mul, nI_or, nI_and, nI_div, nI_mod, and_255, and_31, and_1, and_63, nI_shl, nI_shr, bI_F, bI_1, vp_T, cl_T, true_implies, false_implies, not_true_eq_false, not_false_eq_true, true_and, and_true, false_and, and_false, Bool.false_eq_true, Bool.true_eq_false, reduceCtorEq, implies_true]
  have hnd := mo_nodes (n := up4 m.length 4) (by simp only [up4]; omega)
  rw [show treeN (4 * up4 m.length 4) = treeN m.length from treeN_4 m.length] at hnd
  have hl0 := hl
  unfold tree at hl ⊢
  simp only [List.length_append, List.length_cons, List.length_nil] at hl
  have htn : treeN m.length < 1000 := by simp only [treeN, up4]; split <;> (try split) <;> (try split) <;> omega
  obtain ⟨I1, U1, O1, T1, a1, a2⟩ := mo_emit h (b := treeN m.length) (by omega) (by omega)
  have key : ∀ {R : List Nat}, (∀ Im U Ot To, q_EM cmp iS J B Im U Ot To (L ++ [treeN m.length] ++ lvs m m.length) → ∃ Im' U' Ot' To', (∃ q, T_Model_emitTree C Lt Ln Bt iS cmp Im' U' Ot' To' q 2 (nI 0) (nI (up4 m.length 4)) (nI 0) (nI 4) (nI 0) Im U Ot To) ∧ q_EM cmp iS J B Im' U' Ot' To' R) → ∃ Im' U' Ot' To', D_Model_emitTree C Lt Ln Bt iS Im cmp U Ot To Im' U' Ot' To' ∧ q_EM cmp iS J B Im' U' Ot' To' R := by
    intro R q_fin
    obtain ⟨I2, U2, O2, T2, ⟨q, hq⟩, b2⟩ := m_tree0 hm hok q_fin (by simp only [List.length_append, List.length_cons, List.length_nil]; omega) 0 (by omega) I1 U1 O1 T1 (by simpa [lvs] using a2)
    refine ⟨I2, U2, O2, T2, ⟨q, _, ?_, I1, U1, O1, T1, a1, ?_⟩, b2⟩
    · rw [e4]; exact hnd
    · rw [e4]; exact hq
  refine key (fun I3 U3 O3 T3 c => ?_)
  by_cases h4 : 4 < m.length
  · rw [if_pos h4] at hl ⊢
    simp only [List.length_append] at hl
    have hn1 : ∀ k, k < up4 m.length 4 → k * 4 < m.length := fun k hk => up4_mul (by omega) hk
    have q1 : (up4 m.length 4 + 3) / 4 = up4 m.length 16 := by simp only [up4]; omega
    have q2 : (up4 m.length 16 + 3) / 4 = up4 m.length 64 := by simp only [up4]; omega
    have q3 : (up4 m.length 64 + 3) / 4 = up4 m.length 256 := by simp only [up4]; omega
    refine m_tr2 hm (f := 0) (s := 4) (n := up4 m.length 4) (by omega) (by omega) (by simp only [up4]; omega) hn1 (by simp only [up4]; omega) (fun I4 U4 O4 T4 d => ?_) (by simp only [List.length_append, List.length_cons, List.length_nil]; omega) I3 U3 O3 T3 c
    rw [q1]
    by_cases h16 : 16 < m.length
    · rw [if_pos h16] at hl ⊢
      simp only [List.length_append] at hl
      refine m_tr2 hm (f := 0 + up4 m.length 4) (s := 16) (n := up4 m.length 16) (by simp only [up4]; omega) (by omega) (by simp only [up4]; omega) (fun k hk => up4_mul (by omega) hk) (by simp only [up4]; omega) (fun I5 U5 O5 T5 e => ?_) (by simp only [Nat.zero_add, List.length_append, List.length_cons, List.length_nil]; omega) I4 U4 O4 T4 d
      rw [q2]
      by_cases h64 : 64 < m.length
      · rw [if_pos h64] at hl ⊢
        refine m_tr2 hm (f := 0 + up4 m.length 4 + up4 m.length 16) (s := 64) (n := up4 m.length 64) (by simp only [up4]; omega) (by omega) (by simp only [up4]; omega) (fun k hk => up4_mul (by omega) hk) (by simp only [up4]; omega) (fun I6 U6 O6 T6 g => ?_) (by simp only [Nat.zero_add, List.length_append, List.length_cons, List.length_nil]; simp only [Nat.zero_add] at hl; omega) I5 U5 O5 T5 e
        rw [q3]
        obtain ⟨I7, U7, O7, T7, x1, x2⟩ := m_tr3 hm (f := 0 + up4 m.length 4 + up4 m.length 16 + up4 m.length 64) (s := 256) (n := up4 m.length 256) (by simp only [up4]; omega) I6 U6 O6 T6 g
        exact ⟨I7, U7, O7, T7, x1, by simpa using x2⟩
      · rw [if_neg h64] at hl ⊢
        obtain ⟨I7, U7, O7, T7, x1, x2⟩ := m_tr3 hm (f := 0 + up4 m.length 4 + up4 m.length 16) (s := 64) (n := up4 m.length 64) (by simp only [up4]; omega) I5 U5 O5 T5 e
        exact ⟨I7, U7, O7, T7, x1, by simpa using x2⟩
    · rw [if_neg h16] at hl ⊢
      obtain ⟨I7, U7, O7, T7, x1, x2⟩ := m_tr3 hm (f := 0 + up4 m.length 4) (s := 16) (n := up4 m.length 16) (by simp only [up4]; omega) I4 U4 O4 T4 d
      exact ⟨I7, U7, O7, T7, x1, by simpa using x2⟩
  · rw [if_neg h4] at hl ⊢
    obtain ⟨I7, U7, O7, T7, x1, x2⟩ := m_tr3 hm (f := 0) (s := 4) (n := up4 m.length 4) (by simp only [up4]; omega) I3 U3 O3 T3 c
    exact ⟨I7, U7, O7, T7, x1, by simpa using x2⟩
