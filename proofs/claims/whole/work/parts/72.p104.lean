/-! Pure: the reference writes, or compares. -/
theorem pre_snoc (L J : List Nat) (b : Nat) : (L ++ [b]).isPrefixOf J = (L.isPrefixOf J && decide (L.length < J.length) && decide (J.getD L.length 0 = b)) := by
  induction L generalizing J with
  | nil =>
    cases J with
    | nil => simp
    | cons x r =>
      by_cases h : x = b
      · subst h; simp
      · have h2 : ¬ b = x := fun h3 => h h3.symm
        simp [List.isPrefixOf, h, h2]
  | cons y L ih =>
    cases J with
    | nil => simp
    | cons x r =>
      simp only [List.cons_append, List.isPrefixOf_cons₂, ih r, List.length_cons, List.getD_cons_succ, Nat.add_lt_add_iff_right, Bool.and_assoc]
def q_EM (cmp : Bool) (iS : Int32) (J : List Nat) (B : Nat) (Im : Nat → Int32) (U : Bool) (Ot To : Int32) (L : List Nat) : Prop :=
  Ot = nI L.length ∧ To = nI L.sum ∧ L.length ≤ B ∧ B < 1073741824 ∧ (cmp = false → B ≤ 8000 ∧ Rw 8000 Im Ot L) ∧ (cmp = true → Rw 8000 Im iS J ∧ (∀ i, J.getD i 0 < 2147483648) ∧ U = !(L.isPrefixOf J))
theorem mo_emit {cmp : Bool} {iS : Int32} {J : List Nat} {B : Nat} {Im : Nat → Int32} {U : Bool} {Ot To : Int32} {L : List Nat} (h : q_EM cmp iS J B Im U Ot To L) {b : Nat} (hb : b < 2147483648) (hl : L.length + 1 ≤ B) :
    ∃ Im' U' Ot' To', D_Model_emit (nI b) iS Im cmp U Ot To Im' U' Ot' To' ∧ q_EM cmp iS J B Im' U' Ot' To' (L ++ [b]) := by
  obtain ⟨rfl, rfl, h3, h4, h5, h6⟩ := h
  have e1 : nI L.length + 1 = nI (L.length + 1) := nI_1 _
  have e2 : nI L.sum + nI b = nI (L ++ [b]).sum := by rw [nI_add]; simp
  cases cmp with
  | false =>
    obtain ⟨h7, h8⟩ := h5 rfl
    refine ⟨upd Im L.length (nI b), U, nI (L.length + 1), nI (L ++ [b]).sum, ⟨1, ?_⟩, by simp, rfl, by simp; omega, h4, fun _ => ⟨h7, rw_app h8 (by omega) b⟩, fun h9 => by cases h9⟩
    rw [← e2]
    simp (disch := omega) only [T_Model_emit, S_Model_emit, B_Model_emit_60, q_lit, le_T, le_F, lt_T, lt_F, eq_T, eq_F, m1_lt, m1_le, lt_m1, le_m1, eq_m1, m1_eq, nI_add, nI_sub, nI_dec, nI_mul, nI_or, nI_and, nI_div, nI_mod, and_255, and_31, and_1, and_63, nI_shl, nI_shr, bI_F, bI_1, vp_T, cl_T, true_implies, false_implies, not_true_eq_false, not_false_eq_true, true_and, and_true, false_and, and_false, Bool.false_eq_true, Bool.true_eq_false, reduceCtorEq, implies_true, q_lc_eq, q_lc_ge, q_lc_gt, q_lc_le, lN_or, lN_and, lN_shl, lN_shr, nI_L, lN_I, l_0]
  | true =>
    obtain ⟨h7, h8, h9⟩ := h6 rfl
    have h7c := h7.1
    have h7l := h7.2.1
    have hJ : U = !(L.isPrefixOf J) := h9
    refine ⟨Im, !((L ++ [b]).isPrefixOf J), nI (L.length + 1), nI (L ++ [b]).sum, ⟨2, ?_⟩, by simp, rfl, by simp; omega, h4, (fun h9 => by cases h9), fun _ => ⟨h7, h8, rfl⟩⟩
    rw [← e2, h7c, hJ, pre_snoc]
    cases hp : L.isPrefixOf J with
    | false => simp (disch := omega) only [T_Model_emit, S_Model_emit, B_Model_emit_47, B_Model_emit_60, Bool.not_false, Bool.false_and, q_lit, le_T, le_F, lt_T, lt_F, eq_T, eq_F, m1_lt, m1_le, lt_m1, le_m1, eq_m1, m1_eq, nI_add, nI_sub, nI_dec, nI_mul, nI_or, nI_and, nI_div, nI_mod, and_255, and_31, and_1, and_63, nI_shl, nI_shr, bI_F, bI_1, vp_T, cl_T, true_implies, false_implies, not_true_eq_false, not_false_eq_true, true_and, and_true, false_and, and_false, Bool.false_eq_true, Bool.true_eq_false, reduceCtorEq, implies_true, q_lc_eq, q_lc_ge, q_lc_gt, q_lc_le, lN_or, lN_and, lN_shl, lN_shr, nI_L, lN_I, l_0]
    | true =>
      by_cases h10 : L.length < J.length
      · have e3 := h7.2.2.2 L.length h10
        have v := h8 L.length
        by_cases h11 : J.getD L.length 0 = b
        · rw [decide_eq_true h10, decide_eq_true h11]
          simp (disch := omega) only [T_Model_emit, S_Model_emit, B_Model_emit_47, B_Model_emit_60, Bool.not_true, Bool.true_and, e3, q_lit, le_T, le_F, lt_T, lt_F, eq_T, eq_F, m1_lt, m1_le, lt_m1, le_m1, eq_m1, m1_eq, nI_add, nI_sub, nI_dec, nI_mul, nI_or, nI_and, nI_div, nI_mod, and_255, and_31, and_1, and_63, nI_shl, nI_shr, bI_F, bI_1, vp_T, cl_T, true_implies, false_implies, not_true_eq_false, not_false_eq_true, true_and, and_true, false_and, and_false, Bool.false_eq_true, Bool.true_eq_false, reduceCtorEq, implies_true, q_lc_eq, q_lc_ge, q_lc_gt, q_lc_le, lN_or, lN_and, lN_shl, lN_shr, nI_L, lN_I, l_0]
        · rw [decide_eq_true h10, decide_eq_false h11]
          simp (disch := omega) only [T_Model_emit, S_Model_emit, B_Model_emit_47, B_Model_emit_60, Bool.not_true, Bool.not_false, Bool.true_and, Bool.and_false, e3, q_lit, le_T, le_F, lt_T, lt_F, eq_T, eq_F, m1_lt, m1_le, lt_m1, le_m1, eq_m1, m1_eq, nI_add, nI_sub, nI_dec, nI_mul, nI_or, nI_and, nI_div, nI_mod, and_255, and_31, and_1, and_63, nI_shl, nI_shr, bI_F, bI_1, vp_T, cl_T, true_implies, false_implies, not_true_eq_false, not_false_eq_true, true_and, and_true, false_and, and_false, Bool.false_eq_true, Bool.true_eq_false, reduceCtorEq, implies_true, q_lc_eq, q_lc_ge, q_lc_gt, q_lc_le, lN_or, lN_and, lN_shl, lN_shr, nI_L, lN_I, l_0]
      · rw [decide_eq_false h10]
        simp (disch := omega) only [T_Model_emit, S_Model_emit, B_Model_emit_47, B_Model_emit_60, Bool.not_true, Bool.not_false, Bool.true_and, Bool.and_false, Bool.false_and, q_lit, le_T, le_F, lt_T, lt_F, eq_T, eq_F, m1_lt, m1_le, lt_m1, le_m1, eq_m1, m1_eq, nI_add, nI_sub, nI_dec, nI_mul, nI_or, nI_and, nI_div, nI_mod, and_255, and_31, and_1, and_63, nI_shl, nI_shr, bI_F, bI_1, vp_T, cl_T, true_implies, false_implies, not_true_eq_false, not_false_eq_true, true_and, and_true, false_and, and_false, Bool.false_eq_true, Bool.true_eq_false, reduceCtorEq, implies_true, q_lc_eq, q_lc_ge, q_lc_gt, q_lc_le, lN_or, lN_and, lN_shl, lN_shr, nI_L, lN_I, l_0]
theorem mo_two {cmp : Bool} {iS : Int32} {J : List Nat} {B : Nat} {Im : Nat → Int32} {U : Bool} {Ot To : Int32} {L : List Nat} (h : q_EM cmp iS J B Im U Ot To L) {n : Nat} (hn : n < 2147483648) (hl : L.length + 2 ≤ B) :
    ∃ Im' U' Ot' To', D_Model_emitTwo (nI n) iS Im cmp U Ot To Im' U' Ot' To' ∧ q_EM cmp iS J B Im' U' Ot' To' (L ++ pr2 n) := by
  obtain ⟨I1, U1, O1, T1, a1, a2⟩ := mo_emit h (b := n % 256) (by omega) (by omega)
  obtain ⟨I2, U2, O2, T2, b1, b2⟩ := mo_emit a2 (b := n / 256 % 256) (by omega) (by simp; omega)
  refine ⟨I2, U2, O2, T2, ⟨I1, U1, O1, T1, ?_, I2, U2, O2, T2, ?_, rfl, rfl, rfl, rfl⟩, by simpa [pr2] using b2⟩
  · have : (nI n &&& 255 : Int32) = nI (n % 256) := by simp (disch := omega) only [q_lit, le_T, le_F, lt_T, lt_F, eq_T, eq_F, m1_lt, m1_le, lt_m1, le_m1, eq_m1, m1_eq, nI_add, nI_sub, nI_dec, nI_mul, nI_or, nI_and, nI_div, nI_mod, and_255, and_31, and_1, and_63, nI_shl, nI_shr, bI_F, bI_1, vp_T, cl_T, true_implies, false_implies, not_true_eq_false, not_false_eq_true, true_and, and_true, false_and, and_false, Bool.false_eq_true, Bool.true_eq_false, reduceCtorEq, implies_true]
    rw [this]; exact a1
  · have : ((nI n >>> (8 &&& 31)) &&& 255 : Int32) = nI (n / 256 % 256) := by
      simp (disch := omega) only [q_lit, le_T, le_F, lt_T, lt_F, eq_T, eq_F, m1_lt, m1_le, lt_m1, le_m1, eq_m1, m1_eq, nI_add, nI_sub, nI_dec, nI_mul, nI_or, nI_and, nI_div, nI_mod, and_255, and_31, and_1, and_63, nI_shl, nI_shr, bI_F, bI_1, vp_T, cl_T, true_implies, false_implies, not_true_eq_false, not_false_eq_true, true_and, and_true, false_and, and_false, Bool.false_eq_true, Bool.true_eq_false, reduceCtorEq, implies_true]
      rw [Nat.shiftRight_eq_div_pow]
    rw [this]; exact b1
theorem m_like {Bo Le : Nat → Int32} {bs : List (List Nat)} (h : MB Bo Le bs) {t : Nat} (ht : t < bs.length) {at0 d : Nat} (hd : 1 ≤ d) (hd2 : d ≤ at0) (ha : at0 ≤ (bd bs t).length) (n : Nat) (hn : n ≤ 63) : ∃ q, T_Model_likeness Bo (nI (alk (bd bs t) at0 d n)) q (nI (255 * t)) (nI at0) (nI (bd bs t).length) (nI d) (nI n) := by
  obtain ⟨h10, hall⟩ := h
  obtain ⟨e1, e2, e3⟩ := hall t ht
  rw [alk]
  by_cases h1 : n < 63
  · by_cases h2 : at0 + n < (bd bs t).length
    · obtain ⟨a1, v1⟩ := e3 (at0 + n) h2
      obtain ⟨a2, v2⟩ := e3 (at0 + n - d) (by omega)
      rw [← Nat.add_assoc] at a1
      rw [show 255 * t + (at0 + n - d) = 255 * t + at0 + n - d by omega] at a2
      by_cases h3 : (bd bs t).getD (at0 + n) 0 = (bd bs t).getD (at0 + n - d) 0
      · rw [if_pos ⟨h1, h2, h3⟩]
        obtain ⟨q, hq⟩ := m_like ⟨h10, hall⟩ ht hd hd2 ha (n + 1) (by omega)
        refine ⟨q + 1, ?_⟩
        simp (disch := omega) only [T_Model_likeness, S_Model_likeness, B_Model_likeness_3, a1, a2, q_lit, le_T, le_F, lt_T, lt_F, eq_T, eq_F, m1_lt, m1_le, lt_m1, le_m1, eq_m1, m1_eq, nI_add, nI_sub, nI_dec, nI_mul, nI_or, nI_and, nI_div, nI_mod, and_255, and_31, and_1, and_63, nI_shl, nI_shr, bI_F, bI_1, vp_T, cl_T, true_implies, false_implies, not_true_eq_false, not_false_eq_true, true_and, and_true, false_and, and_false, Bool.false_eq_true, Bool.true_eq_false, reduceCtorEq, implies_true, q_lc_eq, q_lc_ge, q_lc_gt, q_lc_le, lN_or, lN_and, lN_shl, lN_shr, nI_L, lN_I, l_0]
        exact hq
      · rw [if_neg (fun h9 => h3 h9.2.2)]
        refine ⟨1, ?_⟩
        simp (disch := omega) only [T_Model_likeness, S_Model_likeness, B_Model_likeness_3, a1, a2, q_lit, le_T, le_F, lt_T, lt_F, eq_T, eq_F, m1_lt, m1_le, lt_m1, le_m1, eq_m1, m1_eq, nI_add, nI_sub, nI_dec, nI_mul, nI_or, nI_and, nI_div, nI_mod, and_255, and_31, and_1, and_63, nI_shl, nI_shr, bI_F, bI_1, vp_T, cl_T, true_implies, false_implies, not_true_eq_false, not_false_eq_true, true_and, and_true, false_and, and_false, Bool.false_eq_true, Bool.true_eq_false, reduceCtorEq, implies_true, q_lc_eq, q_lc_ge, q_lc_gt, q_lc_le, lN_or, lN_and, lN_shl, lN_shr, nI_L, lN_I, l_0]
    · rw [if_neg (fun h9 => h2 h9.2.1)]
      refine ⟨1, ?_⟩
      simp (disch := omega) only [T_Model_likeness, S_Model_likeness, B_Model_likeness_3, q_lit, le_T, le_F, lt_T, lt_F, eq_T, eq_F, m1_lt, m1_le, lt_m1, le_m1, eq_m1, m1_eq, nI_add, nI_sub, nI_dec, nI_mul, nI_or, nI_and, nI_div, nI_mod, and_255, and_31, and_1, and_63, nI_shl, nI_shr, bI_F, bI_1, vp_T, cl_T, true_implies, false_implies, not_true_eq_false, not_false_eq_true, true_and, and_true, false_and, and_false, Bool.false_eq_true, Bool.true_eq_false, reduceCtorEq, implies_true, q_lc_eq, q_lc_ge, q_lc_gt, q_lc_le, lN_or, lN_and, lN_shl, lN_shr, nI_L, lN_I, l_0]
  · rw [if_neg (fun h9 => h1 h9.1)]
    refine ⟨1, ?_⟩
    simp (disch := omega) only [T_Model_likeness, S_Model_likeness, B_Model_likeness_3, q_lit, le_T, le_F, lt_T, lt_F, eq_T, eq_F, m1_lt, m1_le, lt_m1, le_m1, eq_m1, m1_eq, nI_add, nI_sub, nI_dec, nI_mul, nI_or, nI_and, nI_div, nI_mod, and_255, and_31, and_1, and_63, nI_shl, nI_shr, bI_F, bI_1, vp_T, cl_T, true_implies, false_implies, not_true_eq_false, not_false_eq_true, true_and, and_true, false_and, and_false, Bool.false_eq_true, Bool.true_eq_false, reduceCtorEq, implies_true, q_lc_eq, q_lc_ge, q_lc_gt, q_lc_le, lN_or, lN_and, lN_shl, lN_shr, nI_L, lN_I, l_0]
termination_by 63 - n
decreasing_by all_goals omega
theorem m_flush {cmp : Bool} {iS : Int32} {J : List Nat} {B : Nat} {Bo Le : Nat → Int32} {bs : List (List Nat)} (h : MB Bo Le bs) {t : Nat} (ht : t < bs.length) {at0 n : Nat} (ha : at0 ≤ (bd bs t).length) (hn : n ≤ at0) (k : Nat) (hk : at0 - n ≤ k) (hk2 : k ≤ at0) (Im : Nat → Int32) (U : Bool) (Ot To : Int32) (L : List Nat) (hE : q_EM cmp iS J B Im U Ot To L) (hl : L.length + (at0 - k) ≤ B) :
    ∃ Im' U' Ot' To', (∃ q, T_Model_flush Bo iS cmp (nI (n + 1)) Im' U' Ot' To' (nI 0) q (nI (255 * t)) (nI at0) (nI n) (nI k) Im U Ot To (nI 0)) ∧ q_EM cmp iS J B Im' U' Ot' To' (L ++ ((bd bs t).drop k).take (at0 - k)) := by
  obtain ⟨h10, hall⟩ := h
  obtain ⟨e1, e2, e3⟩ := hall t ht
  by_cases h1 : k < at0
  · obtain ⟨a1, v1⟩ := e3 k (by omega)
    obtain ⟨I1, U1, O1, T1, b1, b2⟩ := mo_emit hE v1 (by omega)
    obtain ⟨I2, U2, O2, T2, ⟨q, hq⟩, c2⟩ := m_flush ⟨h10, hall⟩ ht ha hn (k + 1) (by omega) h1 I1 U1 O1 T1 _ b2 (by simp; omega)
    refine ⟨I2, U2, O2, T2, ⟨q + 1, ?_⟩, ?_⟩
    · simp (disch := omega) only [T_Model_flush, S_Model_flush, B_Model_flush_36, a1, q_lit, le_T, le_F, lt_T, lt_F, eq_T, eq_F, m1_lt, m1_le, lt_m1, le_m1, eq_m1, m1_eq, nI_add, nI_sub, nI_dec, nI_mul, nI_or, nI_and, nI_div, nI_mod, and_255, and_31, and_1, and_63, nI_shl, nI_shr, bI_F, bI_1, vp_T, cl_T, true_implies, false_implies, not_true_eq_false, not_false_eq_true, true_and, and_true, false_and, and_false, Bool.false_eq_true, Bool.true_eq_false, reduceCtorEq, implies_true, q_lc_eq, q_lc_ge, q_lc_gt, q_lc_le, lN_or, lN_and, lN_shl, lN_shr, nI_L, lN_I, l_0]
      exact ⟨I1, U1, O1, T1, b1, hq⟩
    · rw [drop_s (by omega), show at0 - k = (at0 - (k + 1)) + 1 by omega, List.take_succ_cons]
      simpa using c2
  · refine ⟨Im, U, Ot, To, ⟨1, ?_⟩, by rw [show at0 - k = 0 by omega]; simpa using hE⟩
    simp (disch := omega) only [T_Model_flush, S_Model_flush, B_Model_flush_36, q_lit, le_T, le_F, lt_T, lt_F, eq_T, eq_F, m1_lt, m1_le, lt_m1, le_m1, eq_m1, m1_eq, nI_add, nI_sub, nI_dec, nI_mul, nI_or, nI_and, nI_div, nI_mod, and_255, and_31, and_1, and_63, nI_shl, nI_shr, bI_F, bI_1, vp_T, cl_T, true_implies, false_implies, not_true_eq_false, not_false_eq_true, true_and, and_true, false_and, and_false, Bool.false_eq_true, Bool.true_eq_false, reduceCtorEq, implies_true, q_lc_eq, q_lc_ge, q_lc_gt, q_lc_le, lN_or, lN_and, lN_shl, lN_shr, nI_L, lN_I, l_0]
termination_by at0 - k
decreasing_by all_goals omega
/-- writes or not: where it doesn't, nothing changes -/
def q_EW (w : Bool) (cmp : Bool) (iS : Int32) (J : List Nat) (B : Nat) (Im : Nat → Int32) (U : Bool) (Ot To : Int32) (Im' : Nat → Int32) (U' : Bool) (Ot' To' : Int32) (L M : List Nat) : Prop := if w = true then q_EM cmp iS J B Im' U' Ot' To' (L ++ M) else (Im' = Im ∧ U' = U ∧ Ot' = Ot ∧ To' = To)
theorem mo_flush {w cmp : Bool} {iS : Int32} {J : List Nat} {B : Nat} {Bo Le : Nat → Int32} {bs : List (List Nat)} (h : MB Bo Le bs) {t : Nat} (ht : t < bs.length) {at0 n : Nat} (ha : at0 ≤ (bd bs t).length) (hn : n ≤ at0) {Im : Nat → Int32} {U : Bool} {Ot To : Int32} {L : List Nat} (hE : w = true → q_EM cmp iS J B Im U Ot To L) (hl : w = true → L.length + (lits (bd bs t) at0 n).length ≤ B) :
    ∃ Im' U' Ot' To', D_Model_flush (nI (255 * t)) (nI at0) w Bo iS Im cmp U Ot To (nI n) (nI (lits (bd bs t) at0 n).length) Im' U' Ot' To' (nI 0) ∧ q_EW w cmp iS J B Im U Ot To Im' U' Ot' To' L (lits (bd bs t) at0 n) := by
  have h255 := (h.2 t ht).2.1
  have hll := lits_len (b := bd bs t) (at0 := at0) (n := n) ha hn
  by_cases h0 : n = 0
  · subst h0
    refine ⟨Im, U, Ot, To, ⟨0, ?_⟩, ?_⟩
    · rw [hll]
      simp (disch := omega) only [if_true, q_lit, le_T, le_F, lt_T, lt_F, eq_T, eq_F, m1_lt, m1_le, lt_m1, le_m1, eq_m1, m1_eq, nI_add, nI_sub, nI_dec, nI_mul, nI_or, nI_and, nI_div, nI_mod, and_255, and_31, and_1, and_63, nI_shl, nI_shr, bI_F, bI_1, vp_T, cl_T, true_implies, false_implies, not_true_eq_false, not_false_eq_true, true_and, and_true, false_and, and_false, Bool.false_eq_true, Bool.true_eq_false, reduceCtorEq, implies_true]
    · unfold q_EW
      split
      · rename_i h9; simpa [lits] using hE h9
      · exact ⟨rfl, rfl, rfl, rfl⟩
  · rw [if_neg h0] at hll
    cases w with
    | false =>
      refine ⟨Im, U, Ot, To, ⟨0, ?_⟩, ?_⟩
      · rw [hll]
        simp (disch := omega) only [q_lit, le_T, le_F, lt_T, lt_F, eq_T, eq_F, m1_lt, m1_le, lt_m1, le_m1, eq_m1, m1_eq, nI_add, nI_sub, nI_dec, nI_mul, nI_or, nI_and, nI_div, nI_mod, and_255, and_31, and_1, and_63, nI_shl, nI_shr, bI_F, bI_1, vp_T, cl_T, true_implies, false_implies, not_true_eq_false, not_false_eq_true, true_and, and_true, false_and, and_false, Bool.false_eq_true, Bool.true_eq_false, reduceCtorEq, implies_true]
      · unfold q_EW; rw [if_neg (by simp)]; exact ⟨rfl, rfl, rfl, rfl⟩
    | true =>
      have hl' := hl rfl
      rw [hll] at hl'
      obtain ⟨I1, U1, O1, T1, b1, b2⟩ := mo_emit (hE rfl) (b := n - 1) (by omega) (by omega)
      obtain ⟨I2, U2, O2, T2, ⟨q, hq⟩, c2⟩ := m_flush h ht ha hn (at0 - n) (Nat.le_refl _) (by omega) I1 U1 O1 T1 _ b2 (by simp; omega)
      refine ⟨I2, U2, O2, T2, ⟨q, ?_⟩, ?_⟩
      · rw [hll]
        simp (disch := omega) only [q_lit, le_T, le_F, lt_T, lt_F, eq_T, eq_F, m1_lt, m1_le, lt_m1, le_m1, eq_m1, m1_eq, nI_add, nI_sub, nI_dec, nI_mul, nI_or, nI_and, nI_div, nI_mod, and_255, and_31, and_1, and_63, nI_shl, nI_shr, bI_F, bI_1, vp_T, cl_T, true_implies, false_implies, not_true_eq_false, not_false_eq_true, true_and, and_true, false_and, and_false, Bool.false_eq_true, Bool.true_eq_false, reduceCtorEq, implies_true]
        exact ⟨I1, U1, O1, T1, b1, hq⟩
      · unfold q_EW; rw [if_pos rfl]
        unfold lits
        rw [if_neg h0]
        rw [show at0 - (at0 - n) = n by omega] at c2
        simpa using c2
/-- what pack holds: the running count, and what was written -/
theorem m_pack1 {w cmp : Bool} {iS : Int32} {Bo Le : Nat → Int32} {bs : List (List Nat)} (h : MB Bo Le bs) {t : Nat} (ht : t < bs.length) {at0 : Nat} (ha : at0 ≤ (bd bs t).length) {R : Int32} {Im' : Nat → Int32} {U' : Bool} {Ot' To' li' : Int32} {x4 : Int32} {Im : Nat → Int32} {U : Bool} {Ot To li : Int32}
    (d : Nat) (hd : 1 ≤ d) (hd2 : d ≤ at0 + 1) (s : Nat × Nat) (hs : s.1 ≤ 63) (hs2 : s.2 ≤ at0)
    (hk : ∃ q, T_Model_pack Bo Le iS cmp R Im' U' Ot' To' li' q 3 (nI t) w (nI (255 * t)) x4 (nI at0) (nI (q_bst (bd bs t) at0 d s).1) (nI (q_bst (bd bs t) at0 d s).2) (nI 0) (nI 0) Im U Ot To li) :
    ∃ q, T_Model_pack Bo Le iS cmp R Im' U' Ot' To' li' q 1 (nI t) w (nI (255 * t)) x4 (nI at0) (nI s.1) (nI s.2) (nI d) (nI 0) Im U Ot To li := by
  have h10 := h.1
  obtain ⟨e1, e2, e3⟩ := h.2 t ht
  rw [q_bst] at hk
  by_cases h1 : d ≤ at0
  · rw [if_pos h1] at hk
    obtain ⟨ql, hql⟩ := m_like h ht hd h1 ha 0 (by omega)
    have hlk : D_Model_likeness (nI (255 * t)) (nI at0) (nI (bd bs t).length) (nI d) Bo (nI (alk (bd bs t) at0 d 0)) := ⟨ql, by simpa [q_lit] using hql⟩
    have hle := alk_le (bd bs t) at0 d 0 (by omega)
    by_cases h2 : s.1 < alk (bd bs t) at0 d 0
    · rw [if_pos h2] at hk
      obtain ⟨q, hq⟩ := m_pack1 h ht ha (d + 1) (by omega) (by omega) (alk (bd bs t) at0 d 0, d) hle h1 hk
      refine ⟨q + 2, ?_⟩
      simp (disch := omega) only [T_Model_pack, S_Model_pack, B_Model_pack_37, B_Model_pack_85, e1, q_lit, le_T, le_F, lt_T, lt_F, eq_T, eq_F, m1_lt, m1_le, lt_m1, le_m1, eq_m1, m1_eq, nI_add, nI_sub, nI_dec, nI_mul, nI_or, nI_and, nI_div, nI_mod, and_255, and_31, and_1, and_63, nI_shl, nI_shr, bI_F, bI_1, vp_T, cl_T, true_implies, false_implies, not_true_eq_false, not_false_eq_true, true_and, and_true, false_and, and_false, Bool.false_eq_true, Bool.true_eq_false, reduceCtorEq, implies_true, q_lc_eq, q_lc_ge, q_lc_gt, q_lc_le, lN_or, lN_and, lN_shl, lN_shr, nI_L, lN_I, l_0]
      refine ⟨_, hlk, ?_⟩
      simp (disch := omega) only [q_lit, le_T, le_F, lt_T, lt_F, eq_T, eq_F, m1_lt, m1_le, lt_m1, le_m1, eq_m1, m1_eq, nI_add, nI_sub, nI_dec, nI_mul, nI_or, nI_and, nI_div, nI_mod, and_255, and_31, and_1, and_63, nI_shl, nI_shr, bI_F, bI_1, vp_T, cl_T, true_implies, false_implies, not_true_eq_false, not_false_eq_true, true_and, and_true, false_and, and_false, Bool.false_eq_true, Bool.true_eq_false, reduceCtorEq, implies_true]
      exact hq
    · rw [if_neg h2] at hk
      obtain ⟨q, hq⟩ := m_pack1 h ht ha (d + 1) (by omega) (by omega) s hs hs2 hk
      refine ⟨q + 2, ?_⟩
      simp (disch := omega) only [T_Model_pack, S_Model_pack, B_Model_pack_37, B_Model_pack_85, e1, q_lit, le_T, le_F, lt_T, lt_F, eq_T, eq_F, m1_lt, m1_le, lt_m1, le_m1, eq_m1, m1_eq, nI_add, nI_sub, nI_dec, nI_mul, nI_or, nI_and, nI_div, nI_mod, and_255, and_31, and_1, and_63, nI_shl, nI_shr, bI_F, bI_1, vp_T, cl_T, true_implies, false_implies, not_true_eq_false, not_false_eq_true, true_and, and_true, false_and, and_false, Bool.false_eq_true, Bool.true_eq_false, reduceCtorEq, implies_true, q_lc_eq, q_lc_ge, q_lc_gt, q_lc_le, lN_or, lN_and, lN_shl, lN_shr, nI_L, lN_I, l_0]
      refine ⟨_, hlk, ?_⟩
      simp (disch := omega) only [q_lit, le_T, le_F, lt_T, lt_F, eq_T, eq_F, m1_lt, m1_le, lt_m1, le_m1, eq_m1, m1_eq, nI_add, nI_sub, nI_dec, nI_mul, nI_or, nI_and, nI_div, nI_mod, and_255, and_31, and_1, and_63, nI_shl, nI_shr, bI_F, bI_1, vp_T, cl_T, true_implies, false_implies, not_true_eq_false, not_false_eq_true, true_and, and_true, false_and, and_false, Bool.false_eq_true, Bool.true_eq_false, reduceCtorEq, implies_true]
      exact hq
  · rw [if_neg h1] at hk
    obtain ⟨q, hq⟩ := hk
    refine ⟨q + 1, ?_⟩
    simp (disch := omega) only [T_Model_pack, S_Model_pack, B_Model_pack_37, q_lit, le_T, le_F, lt_T, lt_F, eq_T, eq_F, m1_lt, m1_le, lt_m1, le_m1, eq_m1, m1_eq, nI_add, nI_sub, nI_dec, nI_mul, nI_or, nI_and, nI_div, nI_mod, and_255, and_31, and_1, and_63, nI_shl, nI_shr, bI_F, bI_1, vp_T, cl_T, true_implies, false_implies, not_true_eq_false, not_false_eq_true, true_and, and_true, false_and, and_false, Bool.false_eq_true, Bool.true_eq_false, reduceCtorEq, implies_true, q_lc_eq, q_lc_ge, q_lc_gt, q_lc_le, lN_or, lN_and, lN_shl, lN_shr, nI_L, lN_I, l_0]
    exact hq
termination_by at0 + 1 - d
decreasing_by all_goals omega
theorem ew_em {w cmp : Bool} {iS : Int32} {J : List Nat} {B : Nat} {Im : Nat → Int32} {U : Bool} {Ot To : Int32} {Im' : Nat → Int32} {U' : Bool} {Ot' To' : Int32} {L M : List Nat} (h : q_EW w cmp iS J B Im U Ot To Im' U' Ot' To' L M) (hw : w = true) : q_EM cmp iS J B Im' U' Ot' To' (L ++ M) := by
  unfold q_EW at h; rw [if_pos hw] at h; exact h
theorem ew_no {w cmp : Bool} {iS : Int32} {J : List Nat} {B : Nat} {Im : Nat → Int32} {U : Bool} {Ot To : Int32} {Im' : Nat → Int32} {U' : Bool} {Ot' To' : Int32} {L M : List Nat} (h : q_EW w cmp iS J B Im U Ot To Im' U' Ot' To' L M) (hw : w = false) : Im' = Im ∧ U' = U ∧ Ot' = Ot ∧ To' = To := by
  unfold q_EW at h; rw [if_neg (by rw [hw]; simp)] at h; exact h
theorem ew_trans {w cmp : Bool} {iS : Int32} {J : List Nat} {B : Nat} {Im : Nat → Int32} {U : Bool} {Ot To : Int32} {I1 : Nat → Int32} {U1 : Bool} {O1 T1 : Int32} {I2 : Nat → Int32} {U2 : Bool} {O2 T2 : Int32} {L M N : List Nat} (h1 : q_EW w cmp iS J B Im U Ot To I1 U1 O1 T1 L M) (h2 : q_EW w cmp iS J B I1 U1 O1 T1 I2 U2 O2 T2 (L ++ M) N) : q_EW w cmp iS J B Im U Ot To I2 U2 O2 T2 L (M ++ N) := by
  unfold q_EW at *
  cases w with
  | true => simp only [if_true, List.append_assoc] at *; exact h2
  | false =>
    simp only [Bool.false_eq_true, if_false] at *
    exact ⟨by rw [h2.1, h1.1], by rw [h2.2.1, h1.2.1], by rw [h2.2.2.1, h1.2.2.1], by rw [h2.2.2.2, h1.2.2.2]⟩
theorem m_pack {w cmp : Bool} {iS : Int32} {J : List Nat} {B : Nat} {Bo Le : Nat → Int32} {bs : List (List Nat)} (h : MB Bo Le bs) {t : Nat} (ht : t < bs.length) (at0 li : Nat) (ha : at0 ≤ (bd bs t).length) (hl : li ≤ 128) (hla : li ≤ at0) (c : Nat) (L : List Nat) (Im : Nat → Int32) (U : Bool) (Ot To : Int32) (hE : w = true → q_EM cmp iS J B Im U Ot To L) (hB : w = true → L.length + (pkS (bd bs t) at0 li).length ≤ B) :
    ∃ Im' U' Ot' To', (∃ q, T_Model_pack Bo Le iS cmp (nI (c + (pkS (bd bs t) at0 li).length)) Im' U' Ot' To' (nI 0) q 0 (nI t) w (nI (255 * t)) (nI c) (nI at0) (nI 0) (nI 0) (nI 0) (nI 0) Im U Ot To (nI li)) ∧ q_EW w cmp iS J B Im U Ot To Im' U' Ot' To' L (pkS (bd bs t) at0 li) := by
  have h10 := h.1
  obtain ⟨e1, e2, e3⟩ := h.2 t ht
  rw [pkS] at hB ⊢
  by_cases h1 : at0 < (bd bs t).length
  · rw [dif_pos h1] at hB ⊢
    -- the q_best is found first
    have go : ∀ {R : Int32} {Im' : Nat → Int32} {U' : Bool} {Ot' To' li' : Int32}, (∃ q, T_Model_pack Bo Le iS cmp R Im' U' Ot' To' li' q 3 (nI t) w (nI (255 * t)) (nI c) (nI at0) (nI (q_best (bd bs t) at0).1) (nI (q_best (bd bs t) at0).2) (nI 0) (nI 0) Im U Ot To (nI li)) → ∃ q, T_Model_pack Bo Le iS cmp R Im' U' Ot' To' li' q 0 (nI t) w (nI (255 * t)) (nI c) (nI at0) (nI 0) (nI 0) (nI 0) (nI 0) Im U Ot To (nI li) := by
      intro R Im' U' Ot' To' li' hq
      obtain ⟨q, hq⟩ := m_pack1 h ht ha 1 (by omega) (by omega) (0, 0) (by simp) (by simp) hq
      refine ⟨q + 1, ?_⟩
      simp (disch := omega) only [T_Model_pack, S_Model_pack, B_Model_pack_17, e1, q_lit, le_T, le_F, lt_T, lt_F, eq_T, eq_F, m1_lt, m1_le, lt_m1, le_m1, eq_m1, m1_eq, nI_add, nI_sub, nI_dec, nI_mul, nI_or, nI_and, nI_div, nI_mod, and_255, and_31, and_1, and_63, nI_shl, nI_shr, bI_F, bI_1, vp_T, cl_T, true_implies, false_implies, not_true_eq_false, not_false_eq_true, true_and, and_true, false_and, and_false, Bool.false_eq_true, Bool.true_eq_false, reduceCtorEq, implies_true, q_lc_eq, q_lc_ge, q_lc_gt, q_lc_le, lN_or, lN_and, lN_shl, lN_shr, nI_L, lN_I, l_0]
      exact hq
    by_cases h2 : 2 < (q_best (bd bs t) at0).1
    · rw [dif_pos h2] at hB ⊢
      have hb := best_ok h2
      have hend := alk_end (bd bs t) at0 (q_best (bd bs t) at0).2 0 (by omega)
      rw [← hb.2.2] at hend
      have h63 : (q_best (bd bs t) at0).1 ≤ 63 := by rw [hb.2.2]; exact alk_le _ _ _ _ (by omega)
      have hB' : w = true → L.length + ((lits (bd bs t) at0 li).length + (2 + (pkS (bd bs t) (at0 + (q_best (bd bs t) at0).1) 0).length)) ≤ B := fun h9 => by
        have := hB h9
        simp only [List.length_append, List.length_cons, List.length_nil] at this; omega
      obtain ⟨I1, U1, O1, T1, a1, a2⟩ := mo_flush (w := w) (cmp := cmp) (iS := iS) (J := J) (B := B) h ht ha hla (Im := Im) (U := U) (Ot := Ot) (To := To) (L := L) hE (fun h9 => by have := hB' h9; omega)
      -- the two bytes of the copy
      have two : ∃ I3 U3 O3 T3, (w = true → ∃ I2 U2 O2 T2, D_Model_emit (nI (128 + (q_best (bd bs t) at0).1 - 3)) iS I1 cmp U1 O1 T1 I2 U2 O2 T2 ∧ D_Model_emit (nI (q_best (bd bs t) at0).2) iS I2 cmp U2 O2 T2 I3 U3 O3 T3) ∧ q_EW w cmp iS J B I1 U1 O1 T1 I3 U3 O3 T3 (L ++ lits (bd bs t) at0 li) [128 + (q_best (bd bs t) at0).1 - 3, (q_best (bd bs t) at0).2] := by
        cases w with
        | false => exact ⟨I1, U1, O1, T1, (fun h9 => by cases h9), by unfold q_EW; rw [if_neg (by simp)]; exact ⟨rfl, rfl, rfl, rfl⟩⟩
        | true =>
          have hB2 := hB' rfl
          obtain ⟨I2, U2, O2, T2, b1, b2⟩ := mo_emit (ew_em a2 rfl) (b := 128 + (q_best (bd bs t) at0).1 - 3) (by omega) (by simp only [List.length_append]; omega)
          obtain ⟨I3, U3, O3, T3, c1, c2⟩ := mo_emit b2 (b := (q_best (bd bs t) at0).2) (by omega) (by simp only [List.length_append, List.length_cons, List.length_nil]; omega)
          exact ⟨I3, U3, O3, T3, fun _ => ⟨I2, U2, O2, T2, b1, c1⟩, by unfold q_EW; rw [if_pos rfl]; simpa using c2⟩
      obtain ⟨I3, U3, O3, T3, b1, b2⟩ := two
      obtain ⟨I4, U4, O4, T4, ⟨q, hq⟩, c2⟩ := m_pack h ht (at0 + (q_best (bd bs t) at0).1) 0 hend (by omega) (by omega) (c + 2 + (lits (bd bs t) at0 li).length) (L ++ lits (bd bs t) at0 li ++ [128 + (q_best (bd bs t) at0).1 - 3, (q_best (bd bs t) at0).2]) I3 U3 O3 T3 (fun h9 => ew_em b2 h9) (fun h9 => by
        have := hB' h9
        simp only [List.length_append, List.length_cons, List.length_nil]; omega)
      have ec : c + (lits (bd bs t) at0 li ++ ([128 + (q_best (bd bs t) at0).1 - 3, (q_best (bd bs t) at0).2] ++ pkS (bd bs t) (at0 + (q_best (bd bs t) at0).1) 0)).length = c + 2 + (lits (bd bs t) at0 li).length + (pkS (bd bs t) (at0 + (q_best (bd bs t) at0).1) 0).length := by
        simp only [List.length_append, List.length_cons, List.length_nil]; omega
      rw [ec]
      refine ⟨I4, U4, O4, T4, go ⟨q + 2, ?_⟩, ew_trans a2 (ew_trans b2 c2)⟩
      simp only [T_Model_pack, S_Model_pack, B_Model_pack_107, B_Model_pack_150]
      simp (disch := omega) only [q_lit, le_T, le_F, lt_T, lt_F, eq_T, eq_F, m1_lt, m1_le, lt_m1, le_m1, eq_m1, m1_eq, nI_add, nI_sub, nI_dec, nI_mul, nI_or, nI_and, nI_div, nI_mod, and_255, and_31, and_1, and_63, nI_shl, nI_shr, bI_F, bI_1, vp_T, cl_T, true_implies, false_implies, not_true_eq_false, not_false_eq_true, true_and, and_true, false_and, and_false, Bool.false_eq_true, Bool.true_eq_false, reduceCtorEq, implies_true]
      refine ⟨_, I1, U1, O1, T1, _, a1, ?_⟩
      cases w with
      | false =>
        have e9 := ew_no b2 rfl
        rw [e9.1, e9.2.1, e9.2.2.1, e9.2.2.2] at hq
        simp (disch := omega) only [q_lit, le_T, le_F, lt_T, lt_F, eq_T, eq_F, m1_lt, m1_le, lt_m1, le_m1, eq_m1, m1_eq, nI_add, nI_sub, nI_dec, nI_mul, nI_or, nI_and, nI_div, nI_mod, and_255, and_31, and_1, and_63, nI_shl, nI_shr, bI_F, bI_1, vp_T, cl_T, true_implies, false_implies, not_true_eq_false, not_false_eq_true, true_and, and_true, false_and, and_false, Bool.false_eq_true, Bool.true_eq_false, reduceCtorEq, implies_true]
        exact hq
      | true =>
        obtain ⟨I2, U2, O2, T2, c1, d1⟩ := b1 rfl
        simp (disch := omega) only [q_lit, le_T, le_F, lt_T, lt_F, eq_T, eq_F, m1_lt, m1_le, lt_m1, le_m1, eq_m1, m1_eq, nI_add, nI_sub, nI_dec, nI_mul, nI_or, nI_and, nI_div, nI_mod, and_255, and_31, and_1, and_63, nI_shl, nI_shr, bI_F, bI_1, vp_T, cl_T, true_implies, false_implies, not_true_eq_false, not_false_eq_true, true_and, and_true, false_and, and_false, Bool.false_eq_true, Bool.true_eq_false, reduceCtorEq, implies_true]
        exact ⟨I2, U2, O2, T2, c1, I3, U3, O3, T3, d1, hq⟩
    · rw [dif_neg h2] at hB ⊢
      by_cases h128 : li = 128
      · rw [if_pos h128] at hB ⊢
        subst h128
        have hB' : w = true → L.length + ((lits (bd bs t) at0 128).length + (pkS (bd bs t) (at0 + 1) 1).length) ≤ B := fun h9 => by
          have := hB h9
          rw [List.length_append] at this; omega
        obtain ⟨I1, U1, O1, T1, a1, a2⟩ := mo_flush (w := w) (cmp := cmp) (iS := iS) (J := J) (B := B) h ht ha hla (Im := Im) (U := U) (Ot := Ot) (To := To) (L := L) hE (fun h9 => by have := hB' h9; omega)
        obtain ⟨I4, U4, O4, T4, ⟨q, hq⟩, c2⟩ := m_pack h ht (at0 + 1) 1 (by omega) (by omega) (by omega) (c + (lits (bd bs t) at0 128).length) (L ++ lits (bd bs t) at0 128) I1 U1 O1 T1 (fun h9 => ew_em a2 h9) (fun h9 => by have := hB' h9; rw [List.length_append]; omega)
        rw [List.length_append, ← Nat.add_assoc]
        refine ⟨I4, U4, O4, T4, go ⟨q + 2, ?_⟩, ew_trans a2 c2⟩
        simp only [T_Model_pack, S_Model_pack, B_Model_pack_107, B_Model_pack_188]
        simp (disch := omega) only [q_lit, le_T, le_F, lt_T, lt_F, eq_T, eq_F, m1_lt, m1_le, lt_m1, le_m1, eq_m1, m1_eq, nI_add, nI_sub, nI_dec, nI_mul, nI_or, nI_and, nI_div, nI_mod, and_255, and_31, and_1, and_63, nI_shl, nI_shr, bI_F, bI_1, vp_T, cl_T, true_implies, false_implies, not_true_eq_false, not_false_eq_true, true_and, and_true, false_and, and_false, Bool.false_eq_true, Bool.true_eq_false, reduceCtorEq, implies_true]
        refine ⟨_, I1, U1, O1, T1, _, a1, ?_⟩
        simp (disch := omega) only [q_lit, le_T, le_F, lt_T, lt_F, eq_T, eq_F, m1_lt, m1_le, lt_m1, le_m1, eq_m1, m1_eq, nI_add, nI_sub, nI_dec, nI_mul, nI_or, nI_and, nI_div, nI_mod, and_255, and_31, and_1, and_63, nI_shl, nI_shr, bI_F, bI_1, vp_T, cl_T, true_implies, false_implies, not_true_eq_false, not_false_eq_true, true_and, and_true, false_and, and_false, Bool.false_eq_true, Bool.true_eq_false, reduceCtorEq, implies_true]
        exact hq
      · rw [if_neg h128] at hB ⊢
        obtain ⟨I4, U4, O4, T4, ⟨q, hq⟩, c2⟩ := m_pack h ht (at0 + 1) (li + 1) (by omega) (by omega) (by omega) c L Im U Ot To hE hB
        refine ⟨I4, U4, O4, T4, go ⟨q + 2, ?_⟩, c2⟩
        simp only [T_Model_pack, S_Model_pack, B_Model_pack_107, B_Model_pack_188]
        simp (disch := omega) only [q_lit, le_T, le_F, lt_T, lt_F, eq_T, eq_F, m1_lt, m1_le, lt_m1, le_m1, eq_m1, m1_eq, nI_add, nI_sub, nI_dec, nI_mul, nI_or, nI_and, nI_div, nI_mod, and_255, and_31, and_1, and_63, nI_shl, nI_shr, bI_F, bI_1, vp_T, cl_T, true_implies, false_implies, not_true_eq_false, not_false_eq_true, true_and, and_true, false_and, and_false, Bool.false_eq_true, Bool.true_eq_false, reduceCtorEq, implies_true]
        exact hq
  · rw [dif_neg h1] at hB ⊢
    have hae : at0 = (bd bs t).length := by omega
    obtain ⟨I1, U1, O1, T1, a1, a2⟩ := mo_flush (w := w) (cmp := cmp) (iS := iS) (J := J) (B := B) h ht ha hla (Im := Im) (U := U) (Ot := Ot) (To := To) (L := L) hE hB
    refine ⟨I1, U1, O1, T1, ⟨1, ?_⟩, a2⟩
    rw [← hae] at e1
    simp (disch := omega) only [T_Model_pack, S_Model_pack, B_Model_pack_17, e1, q_lit, le_T, le_F, lt_T, lt_F, eq_T, eq_F, m1_lt, m1_le, lt_m1, le_m1, eq_m1, m1_eq, nI_add, nI_sub, nI_dec, nI_mul, nI_or, nI_and, nI_div, nI_mod, and_255, and_31, and_1, and_63, nI_shl, nI_shr, bI_F, bI_1, vp_T, cl_T, true_implies, false_implies, not_true_eq_false, not_false_eq_true, true_and, and_true, false_and, and_false, Bool.false_eq_true, Bool.true_eq_false, reduceCtorEq, implies_true, q_lc_eq, q_lc_ge, q_lc_gt, q_lc_le, lN_or, lN_and, lN_shl, lN_shr, nI_L, lN_I, l_0]
    exact ⟨_, I1, U1, O1, T1, _, a1, by simp (disch := omega) only [q_lit, le_T, le_F, lt_T, lt_F, eq_T, eq_F, m1_lt, m1_le, lt_m1, le_m1, eq_m1, m1_eq, nI_add, nI_sub, nI_dec, nI_mul, nI_or, nI_and, nI_div, nI_mod, and_255, and_31, and_1, and_63, nI_shl, nI_shr, bI_F, bI_1, vp_T, cl_T, true_implies, false_implies, not_true_eq_false, not_false_eq_true, true_and, and_true, false_and, and_false, Bool.false_eq_true, Bool.true_eq_false, reduceCtorEq, implies_true]⟩
termination_by (bd bs t).length - at0
decreasing_by all_goals omega
theorem mo_pack {w cmp : Bool} {iS : Int32} {J : List Nat} {B : Nat} {Bo Le : Nat → Int32} {bs : List (List Nat)} (h : MB Bo Le bs) {t : Nat} (ht : t < bs.length) {L : List Nat} {Im : Nat → Int32} {U : Bool} {Ot To : Int32} (li : Int32) (hE : w = true → q_EM cmp iS J B Im U Ot To L) (hB : w = true → L.length + (pk (bd bs t)).length ≤ B) :
    ∃ Im' U' Ot' To', D_Model_pack (nI t) w Bo Le iS Im cmp U Ot To li (nI (pk (bd bs t)).length) Im' U' Ot' To' (nI 0) ∧ q_EW w cmp iS J B Im U Ot To Im' U' Ot' To' L (pk (bd bs t)) := by
  obtain ⟨I1, U1, O1, T1, ⟨q, hq⟩, c2⟩ := m_pack (w := w) (cmp := cmp) (iS := iS) (J := J) (B := B) h ht 0 0 (by omega) (by omega) (by omega) 0 L Im U Ot To hE hB
  refine ⟨I1, U1, O1, T1, ⟨q, ?_⟩, c2⟩
  rw [Nat.zero_add] at hq
  have e : (255 * nI t : Int32) = nI (255 * t) := by simp (disch := omega) only [q_lit, le_T, le_F, lt_T, lt_F, eq_T, eq_F, m1_lt, m1_le, lt_m1, le_m1, eq_m1, m1_eq, nI_add, nI_sub, nI_dec, nI_mul, nI_or, nI_and, nI_div, nI_mod, and_255, and_31, and_1, and_63, nI_shl, nI_shr, bI_F, bI_1, vp_T, cl_T, true_implies, false_implies, not_true_eq_false, not_false_eq_true, true_and, and_true, false_and, and_false, Bool.false_eq_true, Bool.true_eq_false, reduceCtorEq, implies_true]
  rw [e]
  exact hq
