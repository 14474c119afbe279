/-! Pure: the reference writes the index, and an image. -/
theorem tpD_s (b t : Nat) (ht : t < 10) : tpD b (10 - t) = (if b >>> t % 2 = 1 then [t] else []) ++ tpD b (10 - (t + 1)) := by
  rw [show 10 - t = (10 - (t + 1)) + 1 by omega, tpD, show 9 - (10 - (t + 1)) = t by omega]
theorem tpD_nil {b : Nat} (d : Nat) (hd : d ≤ 10) (h : b < 2 ^ (10 - d)) : tpD b d = [] := by
  induction d with
  | zero => rfl
  | succ d ih =>
    have h2 : b < 2 ^ (10 - d) := Nat.lt_of_lt_of_le h (Nat.pow_le_pow_right (by omega) (by omega))
    have h3 : b >>> (9 - d) = 0 := by
      rw [Nat.shiftRight_eq_div_pow]
      exact Nat.div_eq_of_lt (by rw [show 9 - d = 10 - (d + 1) by omega]; exact h)
    rw [tpD, h3, ih (by omega) h2]
    simp
theorem m_ix3 {Lt Ln Bt : Nat → Int32} {C : Int32} {m : List (List Nat × Nat)} (hm : MW 12 1280 Lt Ln Bt C m) {cmp : Bool} {iS : Int32} {J : List Nat} {B : Nat} {tn w : Nat} (hw : w < m.length) (htn : tn ≤ 10) (hb : mb m w < 2 ^ tn) {L2 R : List Nat} (hl : L2.length ≤ B)
    (q_fin : ∀ Im U Ot To, q_EM cmp iS J B Im U Ot To L2 → ∃ Im' U' Ot' To', (∃ q, T_Model_emitIndex (nI tn) C Lt Ln Bt iS cmp Im' U' Ot' To' q 0 (nI (w + 1)) (nI 0) (nI 0) (nI 0) Im U Ot To) ∧ q_EM cmp iS J B Im' U' Ot' To' R)
    (t : Nat) (ht : t ≤ tn) (p : Nat) (hp : p ≤ t) (Im : Nat → Int32) (U : Bool) (Ot To : Int32) (L : List Nat) (h : q_EM cmp iS J B Im U Ot To L) (hL : L ++ dlt p (tpD (mb m w) (10 - t)) = L2) :
    ∃ Im' U' Ot' To', (∃ q, T_Model_emitIndex (nI tn) C Lt Ln Bt iS cmp Im' U' Ot' To' q 3 (nI w) (nI 0) (nI p) (nI t) Im U Ot To) ∧ q_EM cmp iS J B Im' U' Ot' To' R := by
  have hm' := hm
  obtain ⟨-, hm2, hm3⟩ := hm
  obtain ⟨e1, e2, e3, e4, e5⟩ := hm3 w hw
  have hbb : mb m w < 1024 := Nat.lt_of_lt_of_le hb (Nat.le_trans (Nat.pow_le_pow_right (by omega) htn) (by decide))
  by_cases h1 : t < tn
  · rw [tpD_s _ t (by omega)] at hL
    by_cases h2 : (mb m w) >>> t % 2 = 1
    · rw [if_pos h2] at hL
      simp only [List.cons_append, List.nil_append, dlt] at hL
      have hlen : (L ++ (t - p) :: dlt t (tpD (mb m w) (10 - (t + 1)))).length ≤ B := by rw [hL]; exact hl
      simp only [List.length_append, List.length_cons] at hlen
      obtain ⟨I1, U1, O1, T1, a1, a2⟩ := mo_emit h (b := t - p) (by omega) (by omega)
      obtain ⟨I2, U2, O2, T2, ⟨q, hq⟩, b2⟩ := m_ix3 hm' hw htn hb hl q_fin (t + 1) h1 t (by omega) I1 U1 O1 T1 _ a2 (by rw [← hL]; simp)
      refine ⟨I2, U2, O2, T2, ⟨q + 1, ?_⟩, b2⟩
      simp (disch := omega) only [T_Model_emitIndex, S_Model_emitIndex, B_Model_emitIndex_102, e2, show t % 32 = t from Nat.mod_eq_of_lt (by omega), q_lit, le_T, le_F, lt_T, lt_F, eq_T, eq_F, m1_lt, m1_le, lt_m1, le_m1, eq_m1, m1_eq, nI_add, nI_sub, nI_dec, nI_mul, nI_or, nI_and, nI_div, nI_mod, and_255, and_31, and_1, and_63, nI_shl, nI_shr, bI_F, bI_1, vp_T, cl_T, true_implies, false_implies, not_true_eq_false, not_false_eq_true, true_and, and_true, false_and, and_false, Bool.false_eq_true, Bool.true_eq_false, reduceCtorEq, implies_true, q_lc_eq, q_lc_ge, q_lc_gt, q_lc_le, lN_or, lN_and, lN_shl, lN_shr, nI_L, lN_I, l_0]
      exact ⟨I1, U1, O1, T1, a1, hq⟩
    · rw [if_neg h2] at hL
      obtain ⟨I2, U2, O2, T2, ⟨q, hq⟩, b2⟩ := m_ix3 hm' hw htn hb hl q_fin (t + 1) h1 p (by omega) Im U Ot To _ h (by simpa using hL)
      refine ⟨I2, U2, O2, T2, ⟨q + 1, ?_⟩, b2⟩
      simp (disch := omega) only [T_Model_emitIndex, S_Model_emitIndex, B_Model_emitIndex_102, e2, show t % 32 = t from Nat.mod_eq_of_lt (by omega), q_lit, le_T, le_F, lt_T, lt_F, eq_T, eq_F, m1_lt, m1_le, lt_m1, le_m1, eq_m1, m1_eq, nI_add, nI_sub, nI_dec, nI_mul, nI_or, nI_and, nI_div, nI_mod, and_255, and_31, and_1, and_63, nI_shl, nI_shr, bI_F, bI_1, vp_T, cl_T, true_implies, false_implies, not_true_eq_false, not_false_eq_true, true_and, and_true, false_and, and_false, Bool.false_eq_true, Bool.true_eq_false, reduceCtorEq, implies_true, q_lc_eq, q_lc_ge, q_lc_gt, q_lc_le, lN_or, lN_and, lN_shl, lN_shr, nI_L, lN_I, l_0]
      exact hq
  · have ht2 : t = tn := by omega
    subst ht2
    rw [tpD_nil (10 - t) (by omega) (by rw [show 10 - (10 - t) = t by omega]; exact hb)] at hL
    simp only [dlt, List.append_nil] at hL
    rw [hL] at h
    obtain ⟨I1, U1, O1, T1, ⟨q, hq⟩, b2⟩ := q_fin Im U Ot To h
    refine ⟨I1, U1, O1, T1, ⟨q + 1, ?_⟩, b2⟩
    simp (disch := omega) only [T_Model_emitIndex, S_Model_emitIndex, B_Model_emitIndex_102, q_lit, le_T, le_F, lt_T, lt_F, eq_T, eq_F, m1_lt, m1_le, lt_m1, le_m1, eq_m1, m1_eq, nI_add, nI_sub, nI_dec, nI_mul, nI_or, nI_and, nI_div, nI_mod, and_255, and_31, and_1, and_63, nI_shl, nI_shr, bI_F, bI_1, vp_T, cl_T, true_implies, false_implies, not_true_eq_false, not_false_eq_true, true_and, and_true, false_and, and_false, Bool.false_eq_true, Bool.true_eq_false, reduceCtorEq, implies_true, q_lc_eq, q_lc_ge, q_lc_gt, q_lc_le, lN_or, lN_and, lN_shl, lN_shr, nI_L, lN_I, l_0]
    exact hq
termination_by tn - t
decreasing_by all_goals omega
theorem m_ix2 {Lt Ln Bt : Nat → Int32} {C : Int32} {m : List (List Nat × Nat)} (hm : MW 12 1280 Lt Ln Bt C m) {cmp : Bool} {iS : Int32} {J : List Nat} {B : Nat} {tn w : Nat} (hw : w < m.length) (htn : tn ≤ 10) (hb : mb m w < 2 ^ tn) {L L2 R : List Nat} (hl : L2.length ≤ B)
    (q_fin : ∀ Im U Ot To, q_EM cmp iS J B Im U Ot To L2 → ∃ Im' U' Ot' To', (∃ q, T_Model_emitIndex (nI tn) C Lt Ln Bt iS cmp Im' U' Ot' To' q 0 (nI (w + 1)) (nI 0) (nI 0) (nI 0) Im U Ot To) ∧ q_EM cmp iS J B Im' U' Ot' To' R)
    (hL : L ++ tpB (mb m w) = L2) (Im : Nat → Int32) (U : Bool) (Ot To : Int32) (h : q_EM cmp iS J B Im U Ot To L) (t : Nat) (ht : t ≤ tn) (c : Nat) (hc : c + (tpD (mb m w) (10 - t)).length = (tpD (mb m w) 10).length) (hct : c ≤ t) :
    ∃ Im' U' Ot' To', (∃ q, T_Model_emitIndex (nI tn) C Lt Ln Bt iS cmp Im' U' Ot' To' q 2 (nI w) (nI c) (nI t) (nI 0) Im U Ot To) ∧ q_EM cmp iS J B Im' U' Ot' To' R := by
  have hm' := hm
  obtain ⟨-, hm2, hm3⟩ := hm
  obtain ⟨e1, e2, e3, e4, e5⟩ := hm3 w hw
  have hbb : mb m w < 1024 := Nat.lt_of_lt_of_le hb (Nat.le_trans (Nat.pow_le_pow_right (by omega) htn) (by decide))
  by_cases h1 : t < tn
  · have h3 := tpD_s (mb m w) t (by omega)
    have h4 : (mb m w) >>> t % 2 = if (mb m w) >>> t % 2 = 1 then 1 else 0 := by split <;> omega
    obtain ⟨I2, U2, O2, T2, ⟨q, hq⟩, b2⟩ := m_ix2 hm' hw htn hb hl q_fin hL Im U Ot To h (t + 1) h1 (c + (mb m w) >>> t % 2) (by
      rw [h3] at hc
      simp only [List.length_append] at hc
      split at hc
      · simp only [List.length_cons, List.length_nil] at hc; omega
      · simp only [List.length_nil] at hc; omega) (by omega)
    refine ⟨I2, U2, O2, T2, ⟨q + 1, ?_⟩, b2⟩
    simp (disch := omega) only [T_Model_emitIndex, S_Model_emitIndex, B_Model_emitIndex_65, e2, show t % 32 = t from Nat.mod_eq_of_lt (by omega), q_lit, le_T, le_F, lt_T, lt_F, eq_T, eq_F, m1_lt, m1_le, lt_m1, le_m1, eq_m1, m1_eq, nI_add, nI_sub, nI_dec, nI_mul, nI_or, nI_and, nI_div, nI_mod, and_255, and_31, and_1, and_63, nI_shl, nI_shr, bI_F, bI_1, vp_T, cl_T, true_implies, false_implies, not_true_eq_false, not_false_eq_true, true_and, and_true, false_and, and_false, Bool.false_eq_true, Bool.true_eq_false, reduceCtorEq, implies_true, q_lc_eq, q_lc_ge, q_lc_gt, q_lc_le, lN_or, lN_and, lN_shl, lN_shr, nI_L, lN_I, l_0]
    exact hq
  · have ht2 : t = tn := by omega
    subst ht2
    rw [tpD_nil (10 - t) (by omega) (by rw [show 10 - (10 - t) = t by omega]; exact hb)] at hc
    simp only [List.length_nil, Nat.add_zero] at hc
    have hlen : (L ++ tpB (mb m w)).length ≤ B := by rw [hL]; exact hl
    simp only [tpB, List.length_append, List.length_cons] at hlen
    obtain ⟨I1, U1, O1, T1, a1, a2⟩ := mo_emit h (b := c) (by omega) (by omega)
    obtain ⟨I2, U2, O2, T2, ⟨q, hq⟩, b2⟩ := m_ix3 hm' hw htn hb hl q_fin 0 (by omega) 0 (by omega) I1 U1 O1 T1 _ a2 (by rw [← hL, tpB, hc]; simp)
    refine ⟨I2, U2, O2, T2, ⟨q + 1, ?_⟩, b2⟩
    simp (disch := omega) only [T_Model_emitIndex, S_Model_emitIndex, B_Model_emitIndex_65, q_lit, le_T, le_F, lt_T, lt_F, eq_T, eq_F, m1_lt, m1_le, lt_m1, le_m1, eq_m1, m1_eq, nI_add, nI_sub, nI_dec, nI_mul, nI_or, nI_and, nI_div, nI_mod, and_255, and_31, and_1, and_63, nI_shl, nI_shr, bI_F, bI_1, vp_T, cl_T, true_implies, false_implies, not_true_eq_false, not_false_eq_true, true_and, and_true, false_and, and_false, Bool.false_eq_true, Bool.true_eq_false, reduceCtorEq, implies_true, q_lc_eq, q_lc_ge, q_lc_gt, q_lc_le, lN_or, lN_and, lN_shl, lN_shr, nI_L, lN_I, l_0]
    exact ⟨I1, U1, O1, T1, a1, hq⟩
termination_by tn - t
decreasing_by all_goals omega
theorem m_ix1 {Lt Ln Bt : Nat → Int32} {C : Int32} {m : List (List Nat × Nat)} (hm : MW 12 1280 Lt Ln Bt C m) {cmp : Bool} {iS : Int32} {J : List Nat} {B : Nat} {tn w : Nat} (hw : w < m.length) (htn : tn ≤ 10) (hb : mb m w < 2 ^ tn) {L2 R : List Nat} (hl : L2.length ≤ B)
    (q_fin : ∀ Im U Ot To, q_EM cmp iS J B Im U Ot To L2 → ∃ Im' U' Ot' To', (∃ q, T_Model_emitIndex (nI tn) C Lt Ln Bt iS cmp Im' U' Ot' To' q 0 (nI (w + 1)) (nI 0) (nI 0) (nI 0) Im U Ot To) ∧ q_EM cmp iS J B Im' U' Ot' To' R)
    (j : Nat) (hj : j ≤ (mw m w).length) (Im : Nat → Int32) (U : Bool) (Ot To : Int32) (L : List Nat) (h : q_EM cmp iS J B Im U Ot To L) (hL : L ++ ((mw m w).drop j ++ tpB (mb m w)) = L2) :
    ∃ Im' U' Ot' To', (∃ q, T_Model_emitIndex (nI tn) C Lt Ln Bt iS cmp Im' U' Ot' To' q 1 (nI w) (nI j) (nI 0) (nI 0) Im U Ot To) ∧ q_EM cmp iS J B Im' U' Ot' To' R := by
  have hm' := hm
  obtain ⟨-, hm2, hm3⟩ := hm
  obtain ⟨e1, e2, e3, e4, e5⟩ := hm3 w hw
  by_cases h1 : j < (mw m w).length
  · have w1 := e3.at h1
    rw [drop_s h1] at hL
    have hlen := hl
    rw [← hL] at hlen
    simp only [List.length_append, List.length_cons, List.cons_append] at hlen
    obtain ⟨I1, U1, O1, T1, a1, a2⟩ := mo_emit h (b := (mw m w).getD j 0) (by omega) (by omega)
    obtain ⟨I2, U2, O2, T2, ⟨q, hq⟩, b2⟩ := m_ix1 hm' hw htn hb hl q_fin (j + 1) (by omega) I1 U1 O1 T1 _ a2 (by rw [← hL]; simp)
    refine ⟨I2, U2, O2, T2, ⟨q + 1, ?_⟩, b2⟩
    simp (disch := omega) only [T_Model_emitIndex, S_Model_emitIndex, B_Model_emitIndex_30, e1, e5 j h1, q_lit, le_T, le_F, lt_T, lt_F, eq_T, eq_F, m1_lt, m1_le, lt_m1, le_m1, eq_m1, m1_eq, nI_add, nI_sub, nI_dec, nI_mul, nI_or, nI_and, nI_div, nI_mod, and_255, and_31, and_1, and_63, nI_shl, nI_shr, bI_F, bI_1, vp_T, cl_T, true_implies, false_implies, not_true_eq_false, not_false_eq_true, true_and, and_true, false_and, and_false, Bool.false_eq_true, Bool.true_eq_false, reduceCtorEq, implies_true, q_lc_eq, q_lc_ge, q_lc_gt, q_lc_le, lN_or, lN_and, lN_shl, lN_shr, nI_L, lN_I, l_0]
    exact ⟨I1, U1, O1, T1, a1, hq⟩
  · rw [List.drop_eq_nil_of_le (by omega)] at hL
    obtain ⟨I2, U2, O2, T2, ⟨q, hq⟩, b2⟩ := m_ix2 hm' hw htn hb hl q_fin (by simpa using hL) Im U Ot To h 0 (by omega) 0 (by simp) (by omega)
    refine ⟨I2, U2, O2, T2, ⟨q + 1, ?_⟩, b2⟩
    simp (disch := omega) only [T_Model_emitIndex, S_Model_emitIndex, B_Model_emitIndex_30, e1, q_lit, le_T, le_F, lt_T, lt_F, eq_T, eq_F, m1_lt, m1_le, lt_m1, le_m1, eq_m1, m1_eq, nI_add, nI_sub, nI_dec, nI_mul, nI_or, nI_and, nI_div, nI_mod, and_255, and_31, and_1, and_63, nI_shl, nI_shr, bI_F, bI_1, vp_T, cl_T, true_implies, false_implies, not_true_eq_false, not_false_eq_true, true_and, and_true, false_and, and_false, Bool.false_eq_true, Bool.true_eq_false, reduceCtorEq, implies_true, q_lc_eq, q_lc_ge, q_lc_gt, q_lc_le, lN_or, lN_and, lN_shl, lN_shr, nI_L, lN_I, l_0]
    exact hq
termination_by (mw m w).length - j
decreasing_by all_goals omega
theorem idx_s (m : List (List Nat × Nat)) (k : Nat) : q_idx m (k + 1) = q_idx m k ++ (wrd (mw m k) ++ tpB (mb m k)) := rfl
theorem idx_mono (m : List (List Nat × Nat)) {a b : Nat} (h : a ≤ b) : (q_idx m a).length ≤ (q_idx m b).length := by
  induction b with
  | zero => rw [show a = 0 by omega]; exact Nat.le_refl _
  | succ b ih =>
    by_cases h1 : a = b + 1
    · rw [h1]; exact Nat.le_refl _
    · have := ih (by omega); rw [idx_s]; simp only [List.length_append]; omega
theorem m_ix0 {Lt Ln Bt : Nat → Int32} {C : Int32} {m : List (List Nat × Nat)} (hm : MW 12 1280 Lt Ln Bt C m) {cmp : Bool} {iS : Int32} {J : List Nat} {B : Nat} {tn : Nat} (htn : tn ≤ 10) (hb : ∀ w, w < m.length → mb m w < 2 ^ tn) {L : List Nat} (hl : L.length + (q_idx m m.length).length ≤ B)
    (w : Nat) (hw : w ≤ m.length) (Im : Nat → Int32) (U : Bool) (Ot To : Int32) (h : q_EM cmp iS J B Im U Ot To (L ++ q_idx m w)) :
    ∃ Im' U' Ot' To', (∃ q, T_Model_emitIndex (nI tn) C Lt Ln Bt iS cmp Im' U' Ot' To' q 0 (nI w) (nI 0) (nI 0) (nI 0) Im U Ot To) ∧ q_EM cmp iS J B Im' U' Ot' To' (L ++ q_idx m m.length) := by
  have hm' := hm
  obtain ⟨rfl, hm2, hm3⟩ := hm
  by_cases h1 : w < m.length
  · obtain ⟨e1, e2, e3, e4, e5⟩ := hm3 w h1
    have hmo := idx_mono m (show w + 1 ≤ m.length by omega)
    rw [idx_s] at hmo
    simp only [wrd, List.length_append, List.length_cons] at hmo
    obtain ⟨I1, U1, O1, T1, a1, a2⟩ := mo_emit h (b := (mw m w).length) (by omega) (by simp only [List.length_append]; omega)
    obtain ⟨I2, U2, O2, T2, ⟨q, hq⟩, b2⟩ := m_ix1 hm' h1 htn (hb w h1) (L2 := L ++ q_idx m (w + 1)) (by rw [idx_s]; simp only [wrd, List.length_append, List.length_cons]; omega) (fun I U O T hE => m_ix0 hm' htn hb hl (w + 1) h1 I U O T hE) 0 (by omega) I1 U1 O1 T1 _ a2 (by rw [idx_s]; simp [wrd])
    refine ⟨I2, U2, O2, T2, ⟨q + 1, ?_⟩, b2⟩
    simp (disch := omega) only [T_Model_emitIndex, S_Model_emitIndex, B_Model_emitIndex_10, e1, q_lit, le_T, le_F, lt_T, lt_F, eq_T, eq_F, m1_lt, m1_le, lt_m1, le_m1, eq_m1, m1_eq, nI_add, nI_sub, nI_dec, nI_mul, nI_or, nI_and, nI_div, nI_mod, and_255, and_31, and_1, and_63, nI_shl, nI_shr, bI_F, bI_1, vp_T, cl_T, true_implies, false_implies, not_true_eq_false, not_false_eq_true, true_and, and_true, false_and, and_false, Bool.false_eq_true, Bool.true_eq_false, reduceCtorEq, implies_true, q_lc_eq, q_lc_ge, q_lc_gt, q_lc_le, lN_or, lN_and, lN_shl, lN_shr, nI_L, lN_I, l_0]
    exact ⟨I1, U1, O1, T1, a1, hq⟩
  · rw [show w = m.length by omega] at h ⊢
    refine ⟨Im, U, Ot, To, ⟨1, ?_⟩, h⟩
    simp (disch := omega) only [T_Model_emitIndex, S_Model_emitIndex, B_Model_emitIndex_10, q_lit, le_T, le_F, lt_T, lt_F, eq_T, eq_F, m1_lt, m1_le, lt_m1, le_m1, eq_m1, m1_eq, nI_add, nI_sub, nI_dec, nI_mul, nI_or, nI_and, nI_div, nI_mod, and_255, and_31, and_1, and_63, nI_shl, nI_shr, bI_F, bI_1, vp_T, cl_T, true_implies, false_implies, not_true_eq_false, not_false_eq_true, true_and, and_true, false_and, and_false, Bool.false_eq_true, Bool.true_eq_false, reduceCtorEq, implies_true, q_lc_eq, q_lc_ge, q_lc_gt, q_lc_le, lN_or, lN_and, lN_shl, lN_shr, nI_L, lN_I, l_0]
termination_by m.length - w
decreasing_by all_goals omega
theorem mo_index {Lt Ln Bt : Nat → Int32} {C : Int32} {m : List (List Nat × Nat)} (hm : MW 12 1280 Lt Ln Bt C m) {cmp : Bool} {iS : Int32} {J : List Nat} {B : Nat} {Im : Nat → Int32} {U : Bool} {Ot To : Int32} {L : List Nat} (h : q_EM cmp iS J B Im U Ot To L) {tn : Nat} (htn : tn ≤ 10) (hb : ∀ w, w < m.length → mb m w < 2 ^ tn) (hl : L.length + (pr2 m.length ++ q_idx m m.length).length ≤ B) :
    ∃ Im' U' Ot' To', D_Model_emitIndex (nI tn) C Lt Ln Bt iS Im cmp U Ot To Im' U' Ot' To' ∧ q_EM cmp iS J B Im' U' Ot' To' (L ++ (pr2 m.length ++ q_idx m m.length)) := by
  have hC := hm.1
  have hm2 := hm.2.1
  have hp : (pr2 m.length).length = 2 := rfl
  rw [List.length_append, hp] at hl
  obtain ⟨I1, U1, O1, T1, a1, a2⟩ := mo_two h (n := m.length) (by omega) (by omega)
  obtain ⟨I2, U2, O2, T2, ⟨q, hq⟩, b2⟩ := m_ix0 (cmp := cmp) (iS := iS) (J := J) (B := B) hm htn hb (L := L ++ pr2 m.length) (by rw [List.length_append, hp]; omega) 0 (by omega) I1 U1 O1 T1 (by simpa [q_idx] using a2)
  refine ⟨I2, U2, O2, T2, ⟨q, I1, U1, O1, T1, ?_, ?_⟩, by simpa using b2⟩
  · rw [hC]; exact a1
  · exact hq
theorem m_wi2 {Nm Bo Le : Nat → Int32} {ns bs : List (List Nat)} (hB : MB Bo Le bs) (hN : q_MN Nm ns) (hnl : ns.length = bs.length) (hnw : ∀ t, t < ns.length → ∀ k, (bd ns t).getD k 0 < 2147483648) {KL KG KB : Nat → Int32} {KC : Int32} {ks : List (List Nat × Nat)} (hk : MW 8 250 KL KG KB KC ks) (hkb : ∀ i, i < ks.length → mb ks i < 65536) {WL WG WB : Nat → Int32} {WC : Int32} {ws : List (List Nat × Nat)} (hw : MW 12 1280 WL WG WB WC ws) (hwb : ∀ i, i < ws.length → mb ws i < 2 ^ bs.length) {cmp : Bool} {iS : Int32} {J : List Nat} {B : Nat} (hsum : (img0 ns bs ks ws).sum < 2147483648) (hl : (img ns bs ks ws).length ≤ B) (HL : Int32) (HN : Nat → Int32)
    (t : Nat) (ht : t ≤ bs.length) (Im : Nat → Int32) (U : Bool) (Ot To : Int32) (li : Int32) (h : q_EM cmp iS J B Im U Ot To ([72, bs.length] ++ hdr ns bs bs.length bs.length ++ pks bs t)) :
    ∃ Im' U' Ot' To' li', (∃ q, T_Model_writeImage (nI bs.length) Nm Bo Le KC KL KG KB iS WC WL WG WB Im' cmp U' Ot' To' li' HL HN q 2 (nI t) (nI 0) WC WL WG WB Im cmp U Ot To li HL HN) ∧ q_EM cmp iS J B Im' U' Ot' To' (img ns bs ks ws) := by
  have h10 := hB.1
  have hp2 : ∀ n, (pr2 n).length = 2 := fun n => rfl
  have pmo : ∀ a b, a ≤ b → (pks bs a).length ≤ (pks bs b).length := by
    intro a b hab
    induction b with
    | zero => rw [show a = 0 by omega]; exact Nat.le_refl _
    | succ b ih =>
      by_cases h1 : a = b + 1
      · rw [h1]; exact Nat.le_refl _
      · have := ih (by omega); simp only [pks, List.length_append]; omega
  have hlen := hl
  simp only [img, img0, List.length_append, List.length_cons, List.length_nil, hp2] at hlen
  by_cases h1 : t < bs.length
  · have hm1 := pmo (t + 1) bs.length (by omega)
    simp only [pks, List.length_append] at hm1
    obtain ⟨I1, U1, O1, T1, a1, a2⟩ := mo_pack (w := true) (cmp := cmp) (iS := iS) (J := J) (B := B) hB h1 li (fun _ => h) (fun _ => by simp only [List.length_append, List.length_cons, List.length_nil]; omega)
    obtain ⟨I2, U2, O2, T2, l2, ⟨q, hq⟩, b2⟩ := m_wi2 hB hN hnl hnw hk hkb hw hwb hsum hl HL HN (t + 1) h1 I1 U1 O1 T1 (nI 0) (by have := ew_em a2 rfl; simpa [pks] using this)
    refine ⟨I2, U2, O2, T2, l2, ⟨q + 1, ?_⟩, b2⟩
    simp (disch := omega) only [T_Model_writeImage, S_Model_writeImage, B_Model_writeImage_105, q_lit, le_T, le_F, lt_T, lt_F, eq_T, eq_F, m1_lt, m1_le, lt_m1, le_m1, eq_m1, m1_eq, nI_add, nI_sub, nI_dec, nI_mul, nI_or, nI_and, nI_div, nI_mod, and_255, and_31, and_1, and_63, nI_shl, nI_shr, bI_F, bI_1, vp_T, cl_T, true_implies, false_implies, not_true_eq_false, not_false_eq_true, true_and, and_true, false_and, and_false, Bool.false_eq_true, Bool.true_eq_false, reduceCtorEq, implies_true, q_lc_eq, q_lc_ge, q_lc_gt, q_lc_le, lN_or, lN_and, lN_shl, lN_shr, nI_L, lN_I, l_0]
    exact ⟨_, I1, U1, O1, T1, _, a1, hq⟩
  · rw [show t = bs.length by omega] at h ⊢
    obtain ⟨I1, U1, O1, T1, a1, a2⟩ := mo_tree hk h hkb (by simp only [List.length_append, List.length_cons, List.length_nil]; omega)
    obtain ⟨I2, U2, O2, T2, b1, b2⟩ := mo_index hw a2 h10 hwb (by simp only [List.length_append, List.length_cons, List.length_nil, hp2]; omega)
    have b3 : q_EM cmp iS J B I2 U2 O2 T2 (img0 ns bs ks ws) := by simpa [img0] using b2
    have hT : T2 = nI (img0 ns bs ks ws).sum := b3.2.1
    obtain ⟨I3, U3, O3, T3, c1, c2⟩ := mo_two b3 hsum (by simp only [img, List.length_append, hp2] at hl; omega)
    refine ⟨I3, U3, O3, T3, li, ⟨1, ?_⟩, c2⟩
    simp (disch := omega) only [T_Model_writeImage, S_Model_writeImage, B_Model_writeImage_105, q_lit, le_T, le_F, lt_T, lt_F, eq_T, eq_F, m1_lt, m1_le, lt_m1, le_m1, eq_m1, m1_eq, nI_add, nI_sub, nI_dec, nI_mul, nI_or, nI_and, nI_div, nI_mod, and_255, and_31, and_1, and_63, nI_shl, nI_shr, bI_F, bI_1, vp_T, cl_T, true_implies, false_implies, not_true_eq_false, not_false_eq_true, true_and, and_true, false_and, and_false, Bool.false_eq_true, Bool.true_eq_false, reduceCtorEq, implies_true, q_lc_eq, q_lc_ge, q_lc_gt, q_lc_le, lN_or, lN_and, lN_shl, lN_shr, nI_L, lN_I, l_0]
    refine ⟨I1, U1, O1, T1, a1, I2, U2, O2, T2, b1, I3, U3, O3, T3, ?_⟩
    rw [← hT] at c1
    exact ⟨c1, rfl, rfl, rfl, rfl⟩
termination_by bs.length - t
decreasing_by all_goals omega
theorem m_wi1 {Nm Bo Le : Nat → Int32} {ns bs : List (List Nat)} (hB : MB Bo Le bs) (hN : q_MN Nm ns) (hnl : ns.length = bs.length) (hnw : ∀ t, t < ns.length → ∀ k, (bd ns t).getD k 0 < 2147483648) {KL KG KB : Nat → Int32} {KC : Int32} {ks : List (List Nat × Nat)} (hk : MW 8 250 KL KG KB KC ks) (hkb : ∀ i, i < ks.length → mb ks i < 65536) {cmp : Bool} {iS : Int32} {J : List Nat} {B : Nat} {WC : Int32} {WL WG WB : Nat → Int32} (HL : Int32) (HN : Nat → Int32) {t : Nat} (ht : t < bs.length) {L R : List Nat} (hl : (L ++ (nm6 (bd ns t) ++ pr2 (bd bs t).length ++ pr2 (pk (bd bs t)).length)).length ≤ B) (hpk : (pk (bd bs t)).length < 2147483648)
    (q_fin : ∀ Im U Ot To li, q_EM cmp iS J B Im U Ot To (L ++ (nm6 (bd ns t) ++ pr2 (bd bs t).length ++ pr2 (pk (bd bs t)).length)) → ∃ Im' U' Ot' To' li', (∃ q, T_Model_writeImage (nI bs.length) Nm Bo Le KC KL KG KB iS WC WL WG WB Im' cmp U' Ot' To' li' HL HN q 0 (nI (t + 1)) (nI 0) WC WL WG WB Im cmp U Ot To li HL HN) ∧ q_EM cmp iS J B Im' U' Ot' To' R)
    (k : Nat) (hk6 : k ≤ 6) (Im : Nat → Int32) (U : Bool) (Ot To : Int32) (li : Int32) (h : q_EM cmp iS J B Im U Ot To (L ++ (nm6 (bd ns t)).take k)) :
    ∃ Im' U' Ot' To' li', (∃ q, T_Model_writeImage (nI bs.length) Nm Bo Le KC KL KG KB iS WC WL WG WB Im' cmp U' Ot' To' li' HL HN q 1 (nI t) (nI k) WC WL WG WB Im cmp U Ot To li HL HN) ∧ q_EM cmp iS J B Im' U' Ot' To' R := by
  have h10 := hB.1
  have hp2 : ∀ n, (pr2 n).length = 2 := fun n => rfl
  have hn6 : (nm6 (bd ns t)).length = 6 := rfl
  simp only [List.length_append, hp2, hn6] at hl
  obtain ⟨e1, e2, e3⟩ := hB.2 t ht
  by_cases h1 : k < 6
  · have en := hN t (by omega) k h1
    have ev := hnw t (by omega) k
    obtain ⟨I1, U1, O1, T1, a1, a2⟩ := mo_emit h (b := (bd ns t).getD k 0) ev (by simp only [List.length_append, List.length_take, hn6]; omega)
    obtain ⟨I2, U2, O2, T2, l2, ⟨q, hq⟩, b2⟩ := m_wi1 hB hN hnl hnw hk hkb HL HN ht (by simp only [List.length_append, hp2, hn6]; omega) hpk q_fin (k + 1) h1 I1 U1 O1 T1 li (by
      have e : (nm6 (bd ns t)).take (k + 1) = (nm6 (bd ns t)).take k ++ [(bd ns t).getD k 0] := by
        rcases (show k = 0 ∨ k = 1 ∨ k = 2 ∨ k = 3 ∨ k = 4 ∨ k = 5 by omega) with h2 | h2 | h2 | h2 | h2 | h2 <;> subst h2 <;> rfl
      rw [e]; simpa using a2)
    refine ⟨I2, U2, O2, T2, l2, ⟨q + 1, ?_⟩, b2⟩
    simp (disch := omega) only [T_Model_writeImage, S_Model_writeImage, B_Model_writeImage_50, en, q_lit, le_T, le_F, lt_T, lt_F, eq_T, eq_F, m1_lt, m1_le, lt_m1, le_m1, eq_m1, m1_eq, nI_add, nI_sub, nI_dec, nI_mul, nI_or, nI_and, nI_div, nI_mod, and_255, and_31, and_1, and_63, nI_shl, nI_shr, bI_F, bI_1, vp_T, cl_T, true_implies, false_implies, not_true_eq_false, not_false_eq_true, true_and, and_true, false_and, and_false, Bool.false_eq_true, Bool.true_eq_false, reduceCtorEq, implies_true, q_lc_eq, q_lc_ge, q_lc_gt, q_lc_le, lN_or, lN_and, lN_shl, lN_shr, nI_L, lN_I, l_0]
    exact ⟨I1, U1, O1, T1, a1, hq⟩
  · rw [show k = 6 by omega] at h ⊢
    rw [List.take_of_length_le (by rw [hn6]; omega)] at h
    obtain ⟨I1, U1, O1, T1, a1, a2⟩ := mo_two h (n := (bd bs t).length) (by omega) (by simp only [List.length_append, hn6]; omega)
    obtain ⟨I2, U2, O2, T2, b1, b2⟩ := mo_pack (w := false) (cmp := cmp) (iS := iS) (J := J) (B := B) (L := []) (Im := I1) (U := U1) (Ot := O1) (To := T1) hB ht li (fun h9 => by cases h9) (fun h9 => by cases h9)
    obtain ⟨rfl, rfl, rfl, rfl⟩ := ew_no b2 rfl
    obtain ⟨I3, U3, O3, T3, c1, c2⟩ := mo_two a2 (n := (pk (bd bs t)).length) hpk (by simp only [List.length_append, hn6, hp2]; omega)
    obtain ⟨I4, U4, O4, T4, l4, ⟨q, hq⟩, d2⟩ := q_fin I3 U3 O3 T3 (nI 0) (by simpa using c2)
    refine ⟨I4, U4, O4, T4, l4, ⟨q + 1, ?_⟩, d2⟩
    simp (disch := omega) only [T_Model_writeImage, S_Model_writeImage, B_Model_writeImage_50, e1, q_lit, le_T, le_F, lt_T, lt_F, eq_T, eq_F, m1_lt, m1_le, lt_m1, le_m1, eq_m1, m1_eq, nI_add, nI_sub, nI_dec, nI_mul, nI_or, nI_and, nI_div, nI_mod, and_255, and_31, and_1, and_63, nI_shl, nI_shr, bI_F, bI_1, vp_T, cl_T, true_implies, false_implies, not_true_eq_false, not_false_eq_true, true_and, and_true, false_and, and_false, Bool.false_eq_true, Bool.true_eq_false, reduceCtorEq, implies_true, q_lc_eq, q_lc_ge, q_lc_gt, q_lc_le, lN_or, lN_and, lN_shl, lN_shr, nI_L, lN_I, l_0]
    exact ⟨_, _, _, _, a1, _, _, _, _, _, _, b1, I3, U3, O3, T3, c1, hq⟩
termination_by 6 - k
decreasing_by all_goals omega
theorem hdr_s (ns bs : List (List Nat)) {t j : Nat} (h : t < j) : hdr ns bs j (t + 1) = hdr ns bs j t ++ (nm6 (bd ns t) ++ pr2 (bd bs t).length ++ pr2 (pk (bd bs t)).length) := by
  simp only [hdr]; rw [if_pos h]
theorem m_wi0 {Nm Bo Le : Nat → Int32} {ns bs : List (List Nat)} (hB : MB Bo Le bs) (hN : q_MN Nm ns) (hnl : ns.length = bs.length) (hnw : ∀ t, t < ns.length → ∀ k, (bd ns t).getD k 0 < 2147483648) {KL KG KB : Nat → Int32} {KC : Int32} {ks : List (List Nat × Nat)} (hk : MW 8 250 KL KG KB KC ks) (hkb : ∀ i, i < ks.length → mb ks i < 65536) {WL WG WB : Nat → Int32} {WC : Int32} {ws : List (List Nat × Nat)} (hw : MW 12 1280 WL WG WB WC ws) (hwb : ∀ i, i < ws.length → mb ws i < 2 ^ bs.length) {cmp : Bool} {iS : Int32} {J : List Nat} {B : Nat} (hsum : (img0 ns bs ks ws).sum < 2147483648) (hl : (img ns bs ks ws).length ≤ B) (hpk : ∀ t, t < bs.length → (pk (bd bs t)).length < 2147483648) (HL : Int32) (HN : Nat → Int32)
    (t : Nat) (ht : t ≤ bs.length) (Im : Nat → Int32) (U : Bool) (Ot To : Int32) (li : Int32) (h : q_EM cmp iS J B Im U Ot To ([72, bs.length] ++ hdr ns bs bs.length t)) :
    ∃ Im' U' Ot' To' li', (∃ q, T_Model_writeImage (nI bs.length) Nm Bo Le KC KL KG KB iS WC WL WG WB Im' cmp U' Ot' To' li' HL HN q 0 (nI t) (nI 0) WC WL WG WB Im cmp U Ot To li HL HN) ∧ q_EM cmp iS J B Im' U' Ot' To' (img ns bs ks ws) := by
  have h10 := hB.1
  have hp2 : ∀ n, (pr2 n).length = 2 := fun n => rfl
  have hlen := hl
  simp only [img, img0, List.length_append, List.length_cons, List.length_nil, hp2, hdr_len] at hlen
  by_cases h1 : t < bs.length
  · have hn6 : (nm6 (bd ns t)).length = 6 := rfl
    obtain ⟨I1, U1, O1, T1, l1, ⟨q, hq⟩, b2⟩ := m_wi1 hB hN hnl hnw hk hkb HL HN h1 (L := [72, bs.length] ++ hdr ns bs bs.length t) (by simp only [List.length_append, List.length_cons, List.length_nil, hp2, hn6, hdr_len]; omega) (hpk t h1) (fun I U O T l hE => m_wi0 hB hN hnl hnw hk hkb hw hwb hsum hl hpk HL HN (t + 1) h1 I U O T l (by rw [hdr_s ns bs h1]; simpa using hE)) 0 (by omega) Im U Ot To li (by simpa using h)
    refine ⟨I1, U1, O1, T1, l1, ⟨q + 1, ?_⟩, b2⟩
    simp (disch := omega) only [T_Model_writeImage, S_Model_writeImage, B_Model_writeImage_40, q_lit, le_T, le_F, lt_T, lt_F, eq_T, eq_F, m1_lt, m1_le, lt_m1, le_m1, eq_m1, m1_eq, nI_add, nI_sub, nI_dec, nI_mul, nI_or, nI_and, nI_div, nI_mod, and_255, and_31, and_1, and_63, nI_shl, nI_shr, bI_F, bI_1, vp_T, cl_T, true_implies, false_implies, not_true_eq_false, not_false_eq_true, true_and, and_true, false_and, and_false, Bool.false_eq_true, Bool.true_eq_false, reduceCtorEq, implies_true, q_lc_eq, q_lc_ge, q_lc_gt, q_lc_le, lN_or, lN_and, lN_shl, lN_shr, nI_L, lN_I, l_0]
    exact hq
  · rw [show t = bs.length by omega] at h ⊢
    obtain ⟨I1, U1, O1, T1, l1, ⟨q, hq⟩, b2⟩ := m_wi2 hB hN hnl hnw hk hkb hw hwb hsum hl HL HN 0 (by omega) Im U Ot To li (by simpa [pks] using h)
    refine ⟨I1, U1, O1, T1, l1, ⟨q + 1, ?_⟩, b2⟩
    simp (disch := omega) only [T_Model_writeImage, S_Model_writeImage, B_Model_writeImage_40, q_lit, le_T, le_F, lt_T, lt_F, eq_T, eq_F, m1_lt, m1_le, lt_m1, le_m1, eq_m1, m1_eq, nI_add, nI_sub, nI_dec, nI_mul, nI_or, nI_and, nI_div, nI_mod, and_255, and_31, and_1, and_63, nI_shl, nI_shr, bI_F, bI_1, vp_T, cl_T, true_implies, false_implies, not_true_eq_false, not_false_eq_true, true_and, and_true, false_and, and_false, Bool.false_eq_true, Bool.true_eq_false, reduceCtorEq, implies_true, q_lc_eq, q_lc_ge, q_lc_gt, q_lc_le, lN_or, lN_and, lN_shl, lN_shr, nI_L, lN_I, l_0]
    exact hq
termination_by bs.length - t
decreasing_by all_goals omega
theorem gw_ind {P : List (List Nat × Nat) → Prop} {t : Nat} {b : List Nat} (step : ∀ m r, P m → r ≠ [] → (∀ x ∈ r, isLet x = true) → P (insW (wd12 r) (1 <<< t) m)) (p : Nat) (m : List (List Nat × Nat)) (h : P m) : P (gw t b p m) := by
  rw [gw]; split
  · split
    · exact gw_ind step (p + 1) m h
    · rename_i h2
      exact gw_ind step _ _ (step m _ h h2 letRun_let)
  · exact h
termination_by b.length - p
decreasing_by all_goals omega
theorem gwA_ind {P : List (List Nat × Nat) → Prop} {bs : List (List Nat)} (step : ∀ t m r, t < bs.length → P m → r ≠ [] → (∀ x ∈ r, isLet x = true) → P (insW (wd12 r) (1 <<< t) m)) (t : Nat) (m : List (List Nat × Nat)) (h : P m) : P (gwA bs t m) := by
  rw [gwA]; split
  · rename_i ht
    exact gwA_ind step (t + 1) _ (gw_ind (fun m r => step t m r ht) 0 m h)
  · exact h
termination_by bs.length - t
decreasing_by all_goals omega
theorem gwA_srt (bs : List (List Nat)) : Srt (codes (gwA bs 0 [])) := gwA_ind (P := fun m => Srt (codes m)) (fun t m r _ h _ _ => insW_srt h) 0 [] srt_nil
/-- an image is written, or held against the one that is there -/
theorem mo_write {Nm Bo Le : Nat → Int32} {ns bs : List (List Nat)} (hB : MB Bo Le bs) (hN : q_MN Nm ns) (hnl : ns.length = bs.length) (hnw : ∀ t, t < ns.length → ∀ k, (bd ns t).getD k 0 < 2147483648) {KL KG KB : Nat → Int32} {KC : Int32} {ks : List (List Nat × Nat)} (hk : MW 8 250 KL KG KB KC ks) (hkb : ∀ i, i < ks.length → mb ks i < 65536) {cmp : Bool} {iS : Int32} {J : List Nat} {B : Nat} (hn : ∀ t, t < bs.length → nlast (bd bs t)) (hwb : ∀ i, i < (gwA bs 0 []).length → mb (gwA bs 0 []) i < 2 ^ bs.length) (hsum : (img0 ns bs ks (gwA bs 0 [])).sum < 2147483648) (hl : (img ns bs ks (gwA bs 0 [])).length ≤ B) (hpk : ∀ t, t < bs.length → (pk (bd bs t)).length < 2147483648)
    (hB0 : B < 1073741824) {Im : Nat → Int32} (hc0 : cmp = false → B ≤ 8000) (hc1 : cmp = true → Rw 8000 Im iS J ∧ ∀ i, J.getD i 0 < 2147483648) (WC : Int32) (WL WG WB : Nat → Int32) (C0 U0 : Bool) (O0 T0 li HL : Int32) (HN : Nat → Int32) :
    ∃ WC' WL' WG' WB' Im' U' Ot' To' li' HL' HN', D_Model_writeImage cmp (nI bs.length) Nm Bo Le KC KL KG KB WC WL WG WB iS Im C0 U0 O0 T0 li HL HN WC' WL' WG' WB' Im' cmp U' Ot' To' li' HL' HN' ∧ MW 12 1280 WL' WG' WB' WC' (gwA bs 0 []) ∧ Srt (codes (gwA bs 0 [])) ∧ q_EM cmp iS J B Im' U' Ot' To' (img ns bs ks (gwA bs 0 [])) := by
  have h10 := hB.1
  have hp2 : ∀ n, (pr2 n).length = 2 := fun n => rfl
  have hlen := hl
  simp only [img, img0, List.length_append, List.length_cons, List.length_nil, hp2, hdr_len] at hlen
  obtain ⟨C1, L1, G1, B1, HL1, H1, f1, f2⟩ := mo_find hB hn WC WL WG WB HL HN
  have e0 : q_EM cmp iS J B Im false (nI 0) (nI 0) [] := ⟨rfl, rfl, by simp, hB0, fun h => ⟨hc0 h, rw_nil (by decide) _⟩, fun h => ⟨(hc1 h).1, (hc1 h).2, by simp⟩⟩
  obtain ⟨I1, U1, O1, T1, a1, a2⟩ := mo_emit e0 (b := 72) (by omega) (by simp only [List.length_nil]; omega)
  obtain ⟨I2, U2, O2, T2, b1, b2⟩ := mo_emit a2 (b := bs.length) (by omega) (by simp only [List.length_append, List.length_cons, List.length_nil]; omega)
  obtain ⟨I3, U3, O3, T3, l3, ⟨q, hq⟩, c2⟩ := m_wi0 hB hN hnl hnw hk hkb f2 hwb hsum hl hpk HL1 H1 0 (by omega) I2 U2 O2 T2 li (by simpa [hdr] using b2)
  refine ⟨C1, L1, G1, B1, I3, U3, O3, T3, l3, HL1, H1, ⟨q, C1, L1, G1, B1, HL1, H1, f1, I1, U1, O1, T1, ?_, I2, U2, O2, T2, ?_, ?_⟩, f2, gwA_srt bs, c2⟩
  · simpa only [q_lit] using a1
  · exact b1
  · exact hq
