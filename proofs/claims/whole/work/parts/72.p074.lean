/-! Pure: word lists of the reference. -/
theorem mo_in {x a b : Nat} (hx : x < 2147483648) (ha : a < 2147483648) (hb : b < 2147483648) : D_Model_in (nI x) (nI a) (nI b) (decide (a ≤ x) && decide (x ≤ b)) := by
  by_cases h1 : x < a
  · simp (disch := omega) only [D_Model_in, q_lit, le_T, le_F, lt_T, lt_F, eq_T, eq_F, m1_lt, m1_le, lt_m1, le_m1, eq_m1, m1_eq, nI_add, nI_sub, nI_dec, nI_mul, nI_or, nI_and, nI_div, nI_mod, and_255, and_31, and_1, and_63, nI_shl, nI_shr, bI_F, bI_1, vp_T, cl_T, true_implies, false_implies, not_true_eq_false, not_false_eq_true, true_and, and_true, false_and, and_false, Bool.false_eq_true, Bool.true_eq_false, reduceCtorEq, implies_true]
    simp; omega
  · by_cases h2 : b < x
    · simp (disch := omega) only [D_Model_in, q_lit, le_T, le_F, lt_T, lt_F, eq_T, eq_F, m1_lt, m1_le, lt_m1, le_m1, eq_m1, m1_eq, nI_add, nI_sub, nI_dec, nI_mul, nI_or, nI_and, nI_div, nI_mod, and_255, and_31, and_1, and_63, nI_shl, nI_shr, bI_F, bI_1, vp_T, cl_T, true_implies, false_implies, not_true_eq_false, not_false_eq_true, true_and, and_true, false_and, and_false, Bool.false_eq_true, Bool.true_eq_false, reduceCtorEq, implies_true]
      simp; omega
    · simp (disch := omega) only [D_Model_in, q_lit, le_T, le_F, lt_T, lt_F, eq_T, eq_F, m1_lt, m1_le, lt_m1, le_m1, eq_m1, m1_eq, nI_add, nI_sub, nI_dec, nI_mul, nI_or, nI_and, nI_div, nI_mod, and_255, and_31, and_1, and_63, nI_shl, nI_shr, bI_F, bI_1, vp_T, cl_T, true_implies, false_implies, not_true_eq_false, not_false_eq_true, true_and, and_true, false_and, and_false, Bool.false_eq_true, Bool.true_eq_false, reduceCtorEq, implies_true]
      simp; omega
theorem mo_isSmall {x : Nat} (hx : x < 2147483648) : D_Model_isSmall (nI x) (isSm x) := by
  simp (disch := omega) only [D_Model_isSmall, q_lit, le_T, le_F, lt_T, lt_F, eq_T, eq_F, m1_lt, m1_le, lt_m1, le_m1, eq_m1, m1_eq, nI_add, nI_sub, nI_dec, nI_mul, nI_or, nI_and, nI_div, nI_mod, and_255, and_31, and_1, and_63, nI_shl, nI_shr, bI_F, bI_1, vp_T, cl_T, true_implies, false_implies, not_true_eq_false, not_false_eq_true, true_and, and_true, false_and, and_false, Bool.false_eq_true, Bool.true_eq_false, reduceCtorEq, implies_true]
  exact ⟨_, mo_in hx (by omega) (by omega), rfl⟩
theorem mo_isLetter {x : Nat} (hx : x < 2147483648) : D_Model_isLetter (nI x) (isLet x) := by
  refine ⟨_, mo_isSmall hx, ?_⟩
  cases h : isSm x with
  | true => simp (disch := omega) only [q_lit, le_T, le_F, lt_T, lt_F, eq_T, eq_F, m1_lt, m1_le, lt_m1, le_m1, eq_m1, m1_eq, nI_add, nI_sub, nI_dec, nI_mul, nI_or, nI_and, nI_div, nI_mod, and_255, and_31, and_1, and_63, nI_shl, nI_shr, bI_F, bI_1, vp_T, cl_T, true_implies, false_implies, not_true_eq_false, not_false_eq_true, true_and, and_true, false_and, and_false, Bool.false_eq_true, Bool.true_eq_false, reduceCtorEq, implies_true]; simp [isLet, h]
  | false =>
    simp (disch := omega) only [q_lit, le_T, le_F, lt_T, lt_F, eq_T, eq_F, m1_lt, m1_le, lt_m1, le_m1, eq_m1, m1_eq, nI_add, nI_sub, nI_dec, nI_mul, nI_or, nI_and, nI_div, nI_mod, and_255, and_31, and_1, and_63, nI_shl, nI_shr, bI_F, bI_1, vp_T, cl_T, true_implies, false_implies, not_true_eq_false, not_false_eq_true, true_and, and_true, false_and, and_false, Bool.false_eq_true, Bool.true_eq_false, reduceCtorEq, implies_true]
    refine ⟨_, mo_in hx (by omega) (by omega), ?_⟩
    cases h2 : (decide (65 ≤ x) && decide (x ≤ 90)) with
    | true => simp (disch := omega) only [q_lit, le_T, le_F, lt_T, lt_F, eq_T, eq_F, m1_lt, m1_le, lt_m1, le_m1, eq_m1, m1_eq, nI_add, nI_sub, nI_dec, nI_mul, nI_or, nI_and, nI_div, nI_mod, and_255, and_31, and_1, and_63, nI_shl, nI_shr, bI_F, bI_1, vp_T, cl_T, true_implies, false_implies, not_true_eq_false, not_false_eq_true, true_and, and_true, false_and, and_false, Bool.false_eq_true, Bool.true_eq_false, reduceCtorEq, implies_true]; simp [isLet, h2]
    | false => simp (disch := omega) only [q_lit, le_T, le_F, lt_T, lt_F, eq_T, eq_F, m1_lt, m1_le, lt_m1, le_m1, eq_m1, m1_eq, nI_add, nI_sub, nI_dec, nI_mul, nI_or, nI_and, nI_div, nI_mod, and_255, and_31, and_1, and_63, nI_shl, nI_shr, bI_F, bI_1, vp_T, cl_T, true_implies, false_implies, not_true_eq_false, not_false_eq_true, true_and, and_true, false_and, and_false, Bool.false_eq_true, Bool.true_eq_false, reduceCtorEq, implies_true]; simp [isLet, h, h2]
theorem mo_small {x : Nat} (hx : x < 2147483648) : D_Model_small (nI x) (nI (smL x)) := by
  simp (disch := omega) only [D_Model_small, q_lit, le_T, le_F, lt_T, lt_F, eq_T, eq_F, m1_lt, m1_le, lt_m1, le_m1, eq_m1, m1_eq, nI_add, nI_sub, nI_dec, nI_mul, nI_or, nI_and, nI_div, nI_mod, and_255, and_31, and_1, and_63, nI_shl, nI_shr, bI_F, bI_1, vp_T, cl_T, true_implies, false_implies, not_true_eq_false, not_false_eq_true, true_and, and_true, false_and, and_false, Bool.false_eq_true, Bool.true_eq_false, reduceCtorEq, implies_true]
  refine ⟨_, mo_in hx (by omega) (by omega), ?_⟩
  unfold smL
  cases h2 : (decide (65 ≤ x) && decide (x ≤ 90)) with
  | true =>
    simp only [Bool.and_eq_true, decide_eq_true_eq] at h2
    simp (disch := omega) only [q_lit, le_T, le_F, lt_T, lt_F, eq_T, eq_F, m1_lt, m1_le, lt_m1, le_m1, eq_m1, m1_eq, nI_add, nI_sub, nI_dec, nI_mul, nI_or, nI_and, nI_div, nI_mod, and_255, and_31, and_1, and_63, nI_shl, nI_shr, bI_F, bI_1, vp_T, cl_T, true_implies, false_implies, not_true_eq_false, not_false_eq_true, true_and, and_true, false_and, and_false, Bool.false_eq_true, Bool.true_eq_false, reduceCtorEq, implies_true]
    rw [if_pos h2]
  | false =>
    have h3 : ¬ (65 ≤ x ∧ x ≤ 90) := by simpa [Bool.and_eq_false_iff] using h2
    simp (disch := omega) only [q_lit, le_T, le_F, lt_T, lt_F, eq_T, eq_F, m1_lt, m1_le, lt_m1, le_m1, eq_m1, m1_eq, nI_add, nI_sub, nI_dec, nI_mul, nI_or, nI_and, nI_div, nI_mod, and_255, and_31, and_1, and_63, nI_shl, nI_shr, bI_F, bI_1, vp_T, cl_T, true_implies, false_implies, not_true_eq_false, not_false_eq_true, true_and, and_true, false_and, and_false, Bool.false_eq_true, Bool.true_eq_false, reduceCtorEq, implies_true]
    rw [if_neg h3]
/-- how far two words go together -/
def cpl : List Nat → List Nat → Nat
  | x :: u, y :: v => if x = y then cpl u v + 1 else 0
  | _, _ => 0
theorem cpl_lt {w v : List Nat} {k : Nat} (h : k < cpl w v) : k < w.length ∧ k < v.length ∧ w.getD k 0 = v.getD k 0 := by
  induction w generalizing v k with
  | nil => simp [cpl] at h
  | cons x u ih =>
    cases v with
    | nil => simp [cpl] at h
    | cons y v =>
      simp only [cpl] at h
      split at h
      · rename_i h1
        cases k with
        | zero => simp [h1]
        | succ k => simpa using ih (v := v) (k := k) (by omega)
      · omega
theorem cpl_le (w v : List Nat) : cpl w v ≤ w.length ∧ cpl w v ≤ v.length := by
  induction w generalizing v with
  | nil => simp [cpl]
  | cons x u ih =>
    cases v with
    | nil => simp [cpl]
    | cons y v =>
      have := ih v
      simp only [cpl, List.length_cons]
      split <;> omega
theorem cpl_ne {w v : List Nat} (h1 : cpl w v < w.length) (h2 : cpl w v < v.length) : ¬ w.getD (cpl w v) 0 = v.getD (cpl w v) 0 := by
  induction w generalizing v with
  | nil => simp at h1
  | cons x u ih =>
    cases v with
    | nil => simp at h2
    | cons y v =>
      simp only [cpl] at h1 h2 ⊢
      split
      · rename_i h3
        rw [if_pos h3] at h1 h2
        simpa using ih (v := v) (by simpa using h1) (by simpa using h2)
      · rename_i h3
        simpa using h3
theorem encA_nil (p : Nat) : encA p [] = 0 := by cases p <;> rfl
theorem enc_cmp {p : Nat} {w v : List Nat} (hw : q_Wd w) (hv : q_Wd v) (h1 : v.length ≤ p) (h2 : w.length ≤ p ∨ v.length < p) :
    (encA p w < encA p v ↔ w.getD (cpl w v) 0 < v.getD (cpl w v) 0) ∧ (encA p w = encA p v ↔ w.getD (cpl w v) 0 = v.getD (cpl w v) 0) := by
  induction p generalizing w v with
  | zero =>
    have hv0 : v = [] := List.eq_nil_of_length_eq_zero (by omega)
    have hw0 : w = [] := List.eq_nil_of_length_eq_zero (by omega)
    subst hv0; subst hw0; simp [encA, cpl]
  | succ p ih =>
    cases w with
    | nil =>
      cases v with
      | nil => simp [encA, cpl]
      | cons y v =>
        have h3 := hv y (by simp)
        have := encA_pos (p := p + 1) (x := y) (w := v) (by omega) (by omega)
        rw [encA_nil]
        simp only [cpl, List.getD_nil, List.getD_cons_zero]
        constructor <;> omega
    | cons x u =>
      have h3 := hw x (by simp)
      cases v with
      | nil =>
        have := encA_pos (p := p + 1) (x := x) (w := u) (by omega) (by omega)
        rw [encA_nil]
        simp only [cpl, List.getD_nil, List.getD_cons_zero]
        constructor <;> omega
      | cons y v =>
        have h4 := hv y (by simp)
        have a1 := encA_lt p u
        have a2 := encA_lt p v
        simp only [cpl]
        by_cases h5 : x = y
        · subst h5
          have := ih (w := u) (v := v) (fun z hz => hw z (by simp [hz])) (fun z hz => hv z (by simp [hz])) (by simpa using h1) (by simpa using h2)
          simp only [if_true, List.getD_cons_succ, encA]
          rw [← this.1, ← this.2]
          constructor <;> omega
        · rw [if_neg h5]
          simp only [List.getD_cons_zero, encA]
          have hP : 0 < 32 ^ p := Nat.pow_pos (by omega)
          rcases Nat.lt_or_gt_of_ne h5 with h6 | h6
          · have h7 : (x % 32 + 1) * 32 ^ p ≤ y % 32 * 32 ^ p := Nat.mul_le_mul_right _ (by omega)
            rw [Nat.add_mul, Nat.one_mul] at h7
            constructor <;> omega
          · have h7 : (y % 32 + 1) * 32 ^ p ≤ x % 32 * 32 ^ p := Nat.mul_le_mul_right _ (by omega)
            rw [Nat.add_mul, Nat.one_mul] at h7
            constructor <;> omega
theorem enc_inj {p : Nat} {w v : List Nat} (hw : q_Wd w) (hv : q_Wd v) (h1 : w.length ≤ p) (h2 : v.length ≤ p) (h : encA p w = encA p v) : w = v := by
  have h3 := (enc_cmp hw hv h2 (Or.inl h1)).2.mp h
  have h4 := cpl_le w v
  have h5 : ¬ cpl w v < w.length := by
    intro h5
    have h8 := hw.at h5
    have h6 : cpl w v < v.length := by
      rcases Nat.lt_or_ge (cpl w v) v.length with h6 | h6
      · exact h6
      · rw [h3, List.getD_eq_getElem?_getD, List.getElem?_eq_none h6] at h8
        simp at h8
    exact cpl_ne h5 h6 h3
  have h6 : ¬ cpl w v < v.length := by
    intro h6
    have h8 := hv.at h6
    rw [← h3, List.getD_eq_getElem?_getD, List.getElem?_eq_none (by omega)] at h8
    simp at h8
  apply List.ext_getElem (by omega)
  intro i a b
  have := (cpl_lt (w := w) (v := v) (k := i) (by omega)).2.2
  simpa [List.getD_eq_getElem?_getD, List.getElem?_eq_getElem a, List.getElem?_eq_getElem b] using this
def agn (w v : List Nat) : Int32 := nI (w.getD (cpl w v) 0) - nI (v.getD (cpl w v) 0)
theorem q_sub_toInt {a b : Nat} (ha : a < 2147483648) (hb : b < 2147483648) : (nI a - nI b).toInt = (a : Int) - (b : Int) := by
  rw [Int32.toInt_sub, nI_toInt ha, nI_toInt hb]
  apply Int.bmod_eq_of_le <;> omega
theorem q_Wd.small {w : List Nat} (h : q_Wd w) (k : Nat) : w.getD k 0 < 128 := by
  rcases Nat.lt_or_ge k w.length with h1 | h1
  · have := h.at h1; omega
  · rw [List.getD_eq_getElem?_getD, List.getElem?_eq_none h1]; simp
theorem agn_le {w v : List Nat} (hw : q_Wd w) (hv : q_Wd v) (h1 : v.length ≤ 12) (h2 : w.length ≤ 12 ∨ v.length < 12) : (agn w v ≤ nI 0) = (enc w ≤ enc v) := by
  have h3 : (enc w < enc v ↔ w.getD (cpl w v) 0 < v.getD (cpl w v) 0) ∧ (enc w = enc v ↔ w.getD (cpl w v) 0 = v.getD (cpl w v) 0) := enc_cmp (p := 12) hw hv h1 h2
  have a := hw.small (cpl w v)
  have b := hv.small (cpl w v)
  apply propext
  rw [Int32.le_iff_toInt_le, agn, q_sub_toInt (by omega) (by omega), nI_toInt (by omega)]
  omega
theorem agn_ge {w v : List Nat} (hw : q_Wd w) (hv : q_Wd v) (h1 : v.length ≤ 12) (h2 : w.length ≤ 12 ∨ v.length < 12) : (nI 0 ≤ agn w v) = (enc v ≤ enc w) := by
  have h3 : (enc w < enc v ↔ w.getD (cpl w v) 0 < v.getD (cpl w v) 0) ∧ (enc w = enc v ↔ w.getD (cpl w v) 0 = v.getD (cpl w v) 0) := enc_cmp (p := 12) hw hv h1 h2
  have a := hw.small (cpl w v)
  have b := hv.small (cpl w v)
  apply propext
  rw [Int32.le_iff_toInt_le, agn, q_sub_toInt (by omega) (by omega), nI_toInt (by omega)]
  omega
theorem agn_lt {w v : List Nat} (hw : q_Wd w) (hv : q_Wd v) (h1 : v.length ≤ 12) (h2 : w.length ≤ 12 ∨ v.length < 12) : (agn w v < nI 0) = (enc w < enc v) := by
  have h3 : (enc w < enc v ↔ w.getD (cpl w v) 0 < v.getD (cpl w v) 0) ∧ (enc w = enc v ↔ w.getD (cpl w v) 0 = v.getD (cpl w v) 0) := enc_cmp (p := 12) hw hv h1 h2
  have a := hw.small (cpl w v)
  have b := hv.small (cpl w v)
  apply propext
  rw [Int32.lt_iff_toInt_lt, agn, q_sub_toInt (by omega) (by omega), nI_toInt (by omega)]
  omega
theorem agn_eq {w v : List Nat} (hw : q_Wd w) (hv : q_Wd v) (h1 : v.length ≤ 12) (h2 : w.length ≤ 12 ∨ v.length < 12) : (agn w v = nI 0) = (enc w = enc v) := by
  have h3 : (enc w < enc v ↔ w.getD (cpl w v) 0 < v.getD (cpl w v) 0) ∧ (enc w = enc v ↔ w.getD (cpl w v) 0 = v.getD (cpl w v) 0) := enc_cmp (p := 12) hw hv h1 h2
  have a := hw.small (cpl w v)
  have b := hv.small (cpl w v)
  apply propext
  rw [← Int32.toInt_inj, agn, q_sub_toInt (by omega) (by omega), nI_toInt (by omega)]
  omega
def q_Hd (H : Nat → Int32) (HL : Int32) (w : List Nat) : Prop := HL = nI w.length ∧ w.length ≤ 40 ∧ ∀ j, j < w.length → H j = nI (w.getD j 0)
theorem t_ag_keyLetters {H Lt : Nat → Int32} {HL : Int32} {w v : List Nat} (hh : q_Hd H HL w) (hw : q_Wd w) (hv : q_Wd v) {at0 : Nat} (ha : at0 + v.length ≤ 2000) (hl : ∀ j, j < v.length → Lt (at0 + j) = nI (v.getD j 0)) (k : Nat) (hk : k ≤ cpl w v) : ∃ m, T_Model_against_keyLetters Lt HL H (agn w v) m 0 (nI at0) (nI v.length) (nI k) 0 := by
  obtain ⟨rfl, hh1, hh2⟩ := hh
  have hc := cpl_le w v
  by_cases h : k < cpl w v
  · obtain ⟨m, hm⟩ := t_ag_keyLetters ⟨rfl, hh1, hh2⟩ hw hv ha hl (k + 1) h
    have h1 := cpl_lt h
    have e1 := hh2 k h1.1
    have e2 := hl k h1.2.1
    refine ⟨m + 1, ?_⟩
    have := hw.small k
    have := hv.small k
    have h5 := h1.2.2
    simp (disch := omega) only [T_Model_against_keyLetters, S_Model_against_keyLetters, B_Model_against_keyLetters_3, e1, e2, h5, q_lit, le_T, le_F, lt_T, lt_F, eq_T, eq_F, m1_lt, m1_le, lt_m1, le_m1, eq_m1, m1_eq, nI_add, nI_sub, nI_dec, nI_mul, nI_or, nI_and, nI_div, nI_mod, and_255, and_31, and_1, and_63, nI_shl, nI_shr, bI_F, bI_1, vp_T, cl_T, true_implies, false_implies, not_true_eq_false, not_false_eq_true, true_and, and_true, false_and, and_false, Bool.false_eq_true, Bool.true_eq_false, reduceCtorEq, implies_true, q_lc_eq, q_lc_ge, q_lc_gt, q_lc_le, lN_or, lN_and, lN_shl, lN_shr, nI_L, lN_I, l_0]
    simpa [q_lit] using hm
  · have hk2 : k = cpl w v := by omega
    subst hk2
    by_cases h1 : cpl w v < w.length
    · have e1 := hh2 _ h1
      have := hw.small (cpl w v)
      have := hv.small (cpl w v)
      by_cases h2 : cpl w v < v.length
      · have e2 := hl _ h2
        have h3 := cpl_ne h1 h2
        refine ⟨3, ?_⟩
        simp (disch := omega) only [T_Model_against_keyLetters, S_Model_against_keyLetters, B_Model_against_keyLetters_3, B_Model_against_keyLetters_40, B_Model_against_keyLetters_62, e1, e2, q_lit, le_T, le_F, lt_T, lt_F, eq_T, eq_F, m1_lt, m1_le, lt_m1, le_m1, eq_m1, m1_eq, nI_add, nI_sub, nI_dec, nI_mul, nI_or, nI_and, nI_div, nI_mod, and_255, and_31, and_1, and_63, nI_shl, nI_shr, bI_F, bI_1, vp_T, cl_T, true_implies, false_implies, not_true_eq_false, not_false_eq_true, true_and, and_true, false_and, and_false, Bool.false_eq_true, Bool.true_eq_false, reduceCtorEq, implies_true, q_lc_eq, q_lc_ge, q_lc_gt, q_lc_le, lN_or, lN_and, lN_shl, lN_shr, nI_L, lN_I, l_0]
        rfl
      · refine ⟨3, ?_⟩
        have e3 : v.getD (cpl w v) 0 = 0 := by rw [List.getD_eq_getElem?_getD, List.getElem?_eq_none (by omega)]; rfl
        simp (disch := omega) only [T_Model_against_keyLetters, S_Model_against_keyLetters, B_Model_against_keyLetters_3, B_Model_against_keyLetters_40, B_Model_against_keyLetters_62, e1, q_lit, le_T, le_F, lt_T, lt_F, eq_T, eq_F, m1_lt, m1_le, lt_m1, le_m1, eq_m1, m1_eq, nI_add, nI_sub, nI_dec, nI_mul, nI_or, nI_and, nI_div, nI_mod, and_255, and_31, and_1, and_63, nI_shl, nI_shr, bI_F, bI_1, vp_T, cl_T, true_implies, false_implies, not_true_eq_false, not_false_eq_true, true_and, and_true, false_and, and_false, Bool.false_eq_true, Bool.true_eq_false, reduceCtorEq, implies_true, q_lc_eq, q_lc_ge, q_lc_gt, q_lc_le, lN_or, lN_and, lN_shl, lN_shr, nI_L, lN_I, l_0]
        simp only [agn, e3]
        rw [nI_sub (by omega)]
    · have e4 : w.getD (cpl w v) 0 = 0 := by rw [List.getD_eq_getElem?_getD, List.getElem?_eq_none (by omega)]; rfl
      by_cases h2 : cpl w v < v.length
      · have e2 := hl _ h2
        refine ⟨3, ?_⟩
        simp (disch := omega) only [T_Model_against_keyLetters, S_Model_against_keyLetters, B_Model_against_keyLetters_3, B_Model_against_keyLetters_40, B_Model_against_keyLetters_62, e2, q_lit, le_T, le_F, lt_T, lt_F, eq_T, eq_F, m1_lt, m1_le, lt_m1, le_m1, eq_m1, m1_eq, nI_add, nI_sub, nI_dec, nI_mul, nI_or, nI_and, nI_div, nI_mod, and_255, and_31, and_1, and_63, nI_shl, nI_shr, bI_F, bI_1, vp_T, cl_T, true_implies, false_implies, not_true_eq_false, not_false_eq_true, true_and, and_true, false_and, and_false, Bool.false_eq_true, Bool.true_eq_false, reduceCtorEq, implies_true, q_lc_eq, q_lc_ge, q_lc_gt, q_lc_le, lN_or, lN_and, lN_shl, lN_shr, nI_L, lN_I, l_0]
        simp only [agn, e4]
      · refine ⟨3, ?_⟩
        have e3 : v.getD (cpl w v) 0 = 0 := by rw [List.getD_eq_getElem?_getD, List.getElem?_eq_none (by omega)]; rfl
        simp (disch := omega) only [T_Model_against_keyLetters, S_Model_against_keyLetters, B_Model_against_keyLetters_3, B_Model_against_keyLetters_40, B_Model_against_keyLetters_62, q_lit, le_T, le_F, lt_T, lt_F, eq_T, eq_F, m1_lt, m1_le, lt_m1, le_m1, eq_m1, m1_eq, nI_add, nI_sub, nI_dec, nI_mul, nI_or, nI_and, nI_div, nI_mod, and_255, and_31, and_1, and_63, nI_shl, nI_shr, bI_F, bI_1, vp_T, cl_T, true_implies, false_implies, not_true_eq_false, not_false_eq_true, true_and, and_true, false_and, and_false, Bool.false_eq_true, Bool.true_eq_false, reduceCtorEq, implies_true, q_lc_eq, q_lc_ge, q_lc_gt, q_lc_le, lN_or, lN_and, lN_shl, lN_shr, nI_L, lN_I, l_0]
        simp only [agn, e3, e4]
        rw [nI_sub (by omega)]
termination_by cpl w v - k
decreasing_by all_goals omega
theorem mo_ag_keyLetters {H Lt : Nat → Int32} {HL : Int32} {w v : List Nat} (hh : q_Hd H HL w) (hw : q_Wd w) (hv : q_Wd v) {at0 : Nat} (ha : at0 + v.length ≤ 2000) (hl : ∀ j, j < v.length → Lt (at0 + j) = nI (v.getD j 0)) : D_Model_against_keyLetters (nI at0) (nI v.length) Lt HL H (agn w v) := by
  have := t_ag_keyLetters hh hw hv ha hl 0 (Nat.zero_le _)
  simpa [D_Model_against_keyLetters, q_lit] using this
theorem t_ag_wordLetters {H Lt : Nat → Int32} {HL : Int32} {w v : List Nat} (hh : q_Hd H HL w) (hw : q_Wd w) (hv : q_Wd v) {at0 : Nat} (ha : at0 + v.length ≤ 15360) (hl : ∀ j, j < v.length → Lt (at0 + j) = nI (v.getD j 0)) (k : Nat) (hk : k ≤ cpl w v) : ∃ m, T_Model_against_wordLetters Lt HL H (agn w v) m 0 (nI at0) (nI v.length) (nI k) 0 := by
  obtain ⟨rfl, hh1, hh2⟩ := hh
  have hc := cpl_le w v
  by_cases h : k < cpl w v
  · obtain ⟨m, hm⟩ := t_ag_wordLetters ⟨rfl, hh1, hh2⟩ hw hv ha hl (k + 1) h
    have h1 := cpl_lt h
    have e1 := hh2 k h1.1
    have e2 := hl k h1.2.1
    refine ⟨m + 1, ?_⟩
    have := hw.small k
    have := hv.small k
    have h5 := h1.2.2
    simp (disch := omega) only [T_Model_against_wordLetters, S_Model_against_wordLetters, B_Model_against_wordLetters_3, e1, e2, h5, q_lit, le_T, le_F, lt_T, lt_F, eq_T, eq_F, m1_lt, m1_le, lt_m1, le_m1, eq_m1, m1_eq, nI_add, nI_sub, nI_dec, nI_mul, nI_or, nI_and, nI_div, nI_mod, and_255, and_31, and_1, and_63, nI_shl, nI_shr, bI_F, bI_1, vp_T, cl_T, true_implies, false_implies, not_true_eq_false, not_false_eq_true, true_and, and_true, false_and, and_false, Bool.false_eq_true, Bool.true_eq_false, reduceCtorEq, implies_true, q_lc_eq, q_lc_ge, q_lc_gt, q_lc_le, lN_or, lN_and, lN_shl, lN_shr, nI_L, lN_I, l_0]
    simpa [q_lit] using hm
  · have hk2 : k = cpl w v := by omega
    subst hk2
    by_cases h1 : cpl w v < w.length
    · have e1 := hh2 _ h1
      have := hw.small (cpl w v)
      have := hv.small (cpl w v)
      by_cases h2 : cpl w v < v.length
      · have e2 := hl _ h2
        have h3 := cpl_ne h1 h2
        refine ⟨3, ?_⟩
        simp (disch := omega) only [T_Model_against_wordLetters, S_Model_against_wordLetters, B_Model_against_wordLetters_3, B_Model_against_wordLetters_40, B_Model_against_wordLetters_62, e1, e2, q_lit, le_T, le_F, lt_T, lt_F, eq_T, eq_F, m1_lt, m1_le, lt_m1, le_m1, eq_m1, m1_eq, nI_add, nI_sub, nI_dec, nI_mul, nI_or, nI_and, nI_div, nI_mod, and_255, and_31, and_1, and_63, nI_shl, nI_shr, bI_F, bI_1, vp_T, cl_T, true_implies, false_implies, not_true_eq_false, not_false_eq_true, true_and, and_true, false_and, and_false, Bool.false_eq_true, Bool.true_eq_false, reduceCtorEq, implies_true, q_lc_eq, q_lc_ge, q_lc_gt, q_lc_le, lN_or, lN_and, lN_shl, lN_shr, nI_L, lN_I, l_0]
        rfl
      · refine ⟨3, ?_⟩
        have e3 : v.getD (cpl w v) 0 = 0 := by rw [List.getD_eq_getElem?_getD, List.getElem?_eq_none (by omega)]; rfl
        simp (disch := omega) only [T_Model_against_wordLetters, S_Model_against_wordLetters, B_Model_against_wordLetters_3, B_Model_against_wordLetters_40, B_Model_against_wordLetters_62, e1, q_lit, le_T, le_F, lt_T, lt_F, eq_T, eq_F, m1_lt, m1_le, lt_m1, le_m1, eq_m1, m1_eq, nI_add, nI_sub, nI_dec, nI_mul, nI_or, nI_and, nI_div, nI_mod, and_255, and_31, and_1, and_63, nI_shl, nI_shr, bI_F, bI_1, vp_T, cl_T, true_implies, false_implies, not_true_eq_false, not_false_eq_true, true_and, and_true, false_and, and_false, Bool.false_eq_true, Bool.true_eq_false, reduceCtorEq, implies_true, q_lc_eq, q_lc_ge, q_lc_gt, q_lc_le, lN_or, lN_and, lN_shl, lN_shr, nI_L, lN_I, l_0]
        simp only [agn, e3]
        rw [nI_sub (by omega)]
    · have e4 : w.getD (cpl w v) 0 = 0 := by rw [List.getD_eq_getElem?_getD, List.getElem?_eq_none (by omega)]; rfl
      by_cases h2 : cpl w v < v.length
      · have e2 := hl _ h2
        refine ⟨3, ?_⟩
        simp (disch := omega) only [T_Model_against_wordLetters, S_Model_against_wordLetters, B_Model_against_wordLetters_3, B_Model_against_wordLetters_40, B_Model_against_wordLetters_62, e2, q_lit, le_T, le_F, lt_T, lt_F, eq_T, eq_F, m1_lt, m1_le, lt_m1, le_m1, eq_m1, m1_eq, nI_add, nI_sub, nI_dec, nI_mul, nI_or, nI_and, nI_div, nI_mod, and_255, and_31, and_1, and_63, nI_shl, nI_shr, bI_F, bI_1, vp_T, cl_T, true_implies, false_implies, not_true_eq_false, not_false_eq_true, true_and, and_true, false_and, and_false, Bool.false_eq_true, Bool.true_eq_false, reduceCtorEq, implies_true, q_lc_eq, q_lc_ge, q_lc_gt, q_lc_le, lN_or, lN_and, lN_shl, lN_shr, nI_L, lN_I, l_0]
        simp only [agn, e4]
      · refine ⟨3, ?_⟩
        have e3 : v.getD (cpl w v) 0 = 0 := by rw [List.getD_eq_getElem?_getD, List.getElem?_eq_none (by omega)]; rfl
        simp (disch := omega) only [T_Model_against_wordLetters, S_Model_against_wordLetters, B_Model_against_wordLetters_3, B_Model_against_wordLetters_40, B_Model_against_wordLetters_62, q_lit, le_T, le_F, lt_T, lt_F, eq_T, eq_F, m1_lt, m1_le, lt_m1, le_m1, eq_m1, m1_eq, nI_add, nI_sub, nI_dec, nI_mul, nI_or, nI_and, nI_div, nI_mod, and_255, and_31, and_1, and_63, nI_shl, nI_shr, bI_F, bI_1, vp_T, cl_T, true_implies, false_implies, not_true_eq_false, not_false_eq_true, true_and, and_true, false_and, and_false, Bool.false_eq_true, Bool.true_eq_false, reduceCtorEq, implies_true, q_lc_eq, q_lc_ge, q_lc_gt, q_lc_le, lN_or, lN_and, lN_shl, lN_shr, nI_L, lN_I, l_0]
        simp only [agn, e3, e4]
        rw [nI_sub (by omega)]
termination_by cpl w v - k
decreasing_by all_goals omega
theorem mo_ag_wordLetters {H Lt : Nat → Int32} {HL : Int32} {w v : List Nat} (hh : q_Hd H HL w) (hw : q_Wd w) (hv : q_Wd v) {at0 : Nat} (ha : at0 + v.length ≤ 15360) (hl : ∀ j, j < v.length → Lt (at0 + j) = nI (v.getD j 0)) : D_Model_against_wordLetters (nI at0) (nI v.length) Lt HL H (agn w v) := by
  have := t_ag_wordLetters hh hw hv ha hl 0 (Nat.zero_le _)
  simpa [D_Model_against_wordLetters, q_lit] using this
theorem t_ag_seenKeyLetters {H Lt : Nat → Int32} {HL : Int32} {w v : List Nat} (hh : q_Hd H HL w) (hw : q_Wd w) (hv : q_Wd v) {at0 : Nat} (ha : at0 + v.length ≤ 2000) (hl : ∀ j, j < v.length → Lt (at0 + j) = nI (v.getD j 0)) (k : Nat) (hk : k ≤ cpl w v) : ∃ m, T_Model_against_seenKeyLetters HL H Lt (agn w v) m 0 (nI at0) (nI v.length) (nI k) 0 := by
  obtain ⟨rfl, hh1, hh2⟩ := hh
  have hc := cpl_le w v
  by_cases h : k < cpl w v
  · obtain ⟨m, hm⟩ := t_ag_seenKeyLetters ⟨rfl, hh1, hh2⟩ hw hv ha hl (k + 1) h
    have h1 := cpl_lt h
    have e1 := hh2 k h1.1
    have e2 := hl k h1.2.1
    refine ⟨m + 1, ?_⟩
    have := hw.small k
    have := hv.small k
    have h5 := h1.2.2
    simp (disch := omega) only [T_Model_against_seenKeyLetters, S_Model_against_seenKeyLetters, B_Model_against_seenKeyLetters_3, e1, e2, h5, q_lit, le_T, le_F, lt_T, lt_F, eq_T, eq_F, m1_lt, m1_le, lt_m1, le_m1, eq_m1, m1_eq, nI_add, nI_sub, nI_dec, nI_mul, nI_or, nI_and, nI_div, nI_mod, and_255, and_31, and_1, and_63, nI_shl, nI_shr, bI_F, bI_1, vp_T, cl_T, true_implies, false_implies, not_true_eq_false, not_false_eq_true, true_and, and_true, false_and, and_false, Bool.false_eq_true, Bool.true_eq_false, reduceCtorEq, implies_true, q_lc_eq, q_lc_ge, q_lc_gt, q_lc_le, lN_or, lN_and, lN_shl, lN_shr, nI_L, lN_I, l_0]
    simpa [q_lit] using hm
  · have hk2 : k = cpl w v := by omega
    subst hk2
    by_cases h1 : cpl w v < w.length
    · have e1 := hh2 _ h1
      have := hw.small (cpl w v)
      have := hv.small (cpl w v)
      by_cases h2 : cpl w v < v.length
      · have e2 := hl _ h2
        have h3 := cpl_ne h1 h2
        refine ⟨3, ?_⟩
        simp (disch := omega) only [T_Model_against_seenKeyLetters, S_Model_against_seenKeyLetters, B_Model_against_seenKeyLetters_3, B_Model_against_seenKeyLetters_40, B_Model_against_seenKeyLetters_62, e1, e2, q_lit, le_T, le_F, lt_T, lt_F, eq_T, eq_F, m1_lt, m1_le, lt_m1, le_m1, eq_m1, m1_eq, nI_add, nI_sub, nI_dec, nI_mul, nI_or, nI_and, nI_div, nI_mod, and_255, and_31, and_1, and_63, nI_shl, nI_shr, bI_F, bI_1, vp_T, cl_T, true_implies, false_implies, not_true_eq_false, not_false_eq_true, true_and, and_true, false_and, and_false, Bool.false_eq_true, Bool.true_eq_false, reduceCtorEq, implies_true, q_lc_eq, q_lc_ge, q_lc_gt, q_lc_le, lN_or, lN_and, lN_shl, lN_shr, nI_L, lN_I, l_0]
        rfl
      · refine ⟨3, ?_⟩
        have e3 : v.getD (cpl w v) 0 = 0 := by rw [List.getD_eq_getElem?_getD, List.getElem?_eq_none (by omega)]; rfl
        simp (disch := omega) only [T_Model_against_seenKeyLetters, S_Model_against_seenKeyLetters, B_Model_against_seenKeyLetters_3, B_Model_against_seenKeyLetters_40, B_Model_against_seenKeyLetters_62, e1, q_lit, le_T, le_F, lt_T, lt_F, eq_T, eq_F, m1_lt, m1_le, lt_m1, le_m1, eq_m1, m1_eq, nI_add, nI_sub, nI_dec, nI_mul, nI_or, nI_and, nI_div, nI_mod, and_255, and_31, and_1, and_63, nI_shl, nI_shr, bI_F, bI_1, vp_T, cl_T, true_implies, false_implies, not_true_eq_false, not_false_eq_true, true_and, and_true, false_and, and_false, Bool.false_eq_true, Bool.true_eq_false, reduceCtorEq, implies_true, q_lc_eq, q_lc_ge, q_lc_gt, q_lc_le, lN_or, lN_and, lN_shl, lN_shr, nI_L, lN_I, l_0]
        simp only [agn, e3]
        rw [nI_sub (by omega)]
    · have e4 : w.getD (cpl w v) 0 = 0 := by rw [List.getD_eq_getElem?_getD, List.getElem?_eq_none (by omega)]; rfl
      by_cases h2 : cpl w v < v.length
      · have e2 := hl _ h2
        refine ⟨3, ?_⟩
        simp (disch := omega) only [T_Model_against_seenKeyLetters, S_Model_against_seenKeyLetters, B_Model_against_seenKeyLetters_3, B_Model_against_seenKeyLetters_40, B_Model_against_seenKeyLetters_62, e2, q_lit, le_T, le_F, lt_T, lt_F, eq_T, eq_F, m1_lt, m1_le, lt_m1, le_m1, eq_m1, m1_eq, nI_add, nI_sub, nI_dec, nI_mul, nI_or, nI_and, nI_div, nI_mod, and_255, and_31, and_1, and_63, nI_shl, nI_shr, bI_F, bI_1, vp_T, cl_T, true_implies, false_implies, not_true_eq_false, not_false_eq_true, true_and, and_true, false_and, and_false, Bool.false_eq_true, Bool.true_eq_false, reduceCtorEq, implies_true, q_lc_eq, q_lc_ge, q_lc_gt, q_lc_le, lN_or, lN_and, lN_shl, lN_shr, nI_L, lN_I, l_0]
        simp only [agn, e4]
      · refine ⟨3, ?_⟩
        have e3 : v.getD (cpl w v) 0 = 0 := by rw [List.getD_eq_getElem?_getD, List.getElem?_eq_none (by omega)]; rfl
        simp (disch := omega) only [T_Model_against_seenKeyLetters, S_Model_against_seenKeyLetters, B_Model_against_seenKeyLetters_3, B_Model_against_seenKeyLetters_40, B_Model_against_seenKeyLetters_62, q_lit, le_T, le_F, lt_T, lt_F, eq_T, eq_F, m1_lt, m1_le, lt_m1, le_m1, eq_m1, m1_eq, nI_add, nI_sub, nI_dec, nI_mul, nI_or, nI_and, nI_div, nI_mod, and_255, and_31, and_1, and_63, nI_shl, nI_shr, bI_F, bI_1, vp_T, cl_T, true_implies, false_implies, not_true_eq_false, not_false_eq_true, true_and, and_true, false_and, and_false, Bool.false_eq_true, Bool.true_eq_false, reduceCtorEq, implies_true, q_lc_eq, q_lc_ge, q_lc_gt, q_lc_le, lN_or, lN_and, lN_shl, lN_shr, nI_L, lN_I, l_0]
        simp only [agn, e3, e4]
        rw [nI_sub (by omega)]
termination_by cpl w v - k
decreasing_by all_goals omega
theorem mo_ag_seenKeyLetters {H Lt : Nat → Int32} {HL : Int32} {w v : List Nat} (hh : q_Hd H HL w) (hw : q_Wd w) (hv : q_Wd v) {at0 : Nat} (ha : at0 + v.length ≤ 2000) (hl : ∀ j, j < v.length → Lt (at0 + j) = nI (v.getD j 0)) : D_Model_against_seenKeyLetters (nI at0) (nI v.length) HL H Lt (agn w v) := by
  have := t_ag_seenKeyLetters hh hw hv ha hl 0 (Nat.zero_le _)
  simpa [D_Model_against_seenKeyLetters, q_lit] using this
theorem t_ag_seenWordLetters {H Lt : Nat → Int32} {HL : Int32} {w v : List Nat} (hh : q_Hd H HL w) (hw : q_Wd w) (hv : q_Wd v) {at0 : Nat} (ha : at0 + v.length ≤ 15360) (hl : ∀ j, j < v.length → Lt (at0 + j) = nI (v.getD j 0)) (k : Nat) (hk : k ≤ cpl w v) : ∃ m, T_Model_against_seenWordLetters HL H Lt (agn w v) m 0 (nI at0) (nI v.length) (nI k) 0 := by
  obtain ⟨rfl, hh1, hh2⟩ := hh
  have hc := cpl_le w v
  by_cases h : k < cpl w v
  · obtain ⟨m, hm⟩ := t_ag_seenWordLetters ⟨rfl, hh1, hh2⟩ hw hv ha hl (k + 1) h
    have h1 := cpl_lt h
    have e1 := hh2 k h1.1
    have e2 := hl k h1.2.1
    refine ⟨m + 1, ?_⟩
    have := hw.small k
    have := hv.small k
    have h5 := h1.2.2
    simp (disch := omega) only [T_Model_against_seenWordLetters, S_Model_against_seenWordLetters, B_Model_against_seenWordLetters_3, e1, e2, h5, q_lit, le_T, le_F, lt_T, lt_F, eq_T, eq_F, m1_lt, m1_le, lt_m1, le_m1, eq_m1, m1_eq, nI_add, nI_sub, nI_dec, nI_mul, nI_or, nI_and, nI_div, nI_mod, and_255, and_31, and_1, and_63, nI_shl, nI_shr, bI_F, bI_1, vp_T, cl_T, true_implies, false_implies, not_true_eq_false, not_false_eq_true, true_and, and_true, false_and, and_false, Bool.false_eq_true, Bool.true_eq_false, reduceCtorEq, implies_true, q_lc_eq, q_lc_ge, q_lc_gt, q_lc_le, lN_or, lN_and, lN_shl, lN_shr, nI_L, lN_I, l_0]
    simpa [q_lit] using hm
  · have hk2 : k = cpl w v := by omega
    subst hk2
    by_cases h1 : cpl w v < w.length
    · have e1 := hh2 _ h1
      have := hw.small (cpl w v)
      have := hv.small (cpl w v)
      by_cases h2 : cpl w v < v.length
      · have e2 := hl _ h2
        have h3 := cpl_ne h1 h2
        refine ⟨3, ?_⟩
        simp (disch := omega) only [T_Model_against_seenWordLetters, S_Model_against_seenWordLetters, B_Model_against_seenWordLetters_3, B_Model_against_seenWordLetters_40, B_Model_against_seenWordLetters_62, e1, e2, q_lit, le_T, le_F, lt_T, lt_F, eq_T, eq_F, m1_lt, m1_le, lt_m1, le_m1, eq_m1, m1_eq, nI_add, nI_sub, nI_dec, nI_mul, nI_or, nI_and, nI_div, nI_mod, and_255, and_31, and_1, and_63, nI_shl, nI_shr, bI_F, bI_1, vp_T, cl_T, true_implies, false_implies, not_true_eq_false, not_false_eq_true, true_and, and_true, false_and, and_false, Bool.false_eq_true, Bool.true_eq_false, reduceCtorEq, implies_true, q_lc_eq, q_lc_ge, q_lc_gt, q_lc_le, lN_or, lN_and, lN_shl, lN_shr, nI_L, lN_I, l_0]
        rfl
      · refine ⟨3, ?_⟩
        have e3 : v.getD (cpl w v) 0 = 0 := by rw [List.getD_eq_getElem?_getD, List.getElem?_eq_none (by omega)]; rfl
        simp (disch := omega) only [T_Model_against_seenWordLetters, S_Model_against_seenWordLetters, B_Model_against_seenWordLetters_3, B_Model_against_seenWordLetters_40, B_Model_against_seenWordLetters_62, e1, q_lit, le_T, le_F, lt_T, lt_F, eq_T, eq_F, m1_lt, m1_le, lt_m1, le_m1, eq_m1, m1_eq, nI_add, nI_sub, nI_dec, nI_mul, nI_or, nI_and, nI_div, nI_mod, and_255, and_31, and_1, and_63, nI_shl, nI_shr, bI_F, bI_1, vp_T, cl_T, true_implies, false_implies, not_true_eq_false, not_false_eq_true, true_and, and_true, false_and, and_false, Bool.false_eq_true, Bool.true_eq_false, reduceCtorEq, implies_true, q_lc_eq, q_lc_ge, q_lc_gt, q_lc_le, lN_or, lN_and, lN_shl, lN_shr, nI_L, lN_I, l_0]
        simp only [agn, e3]
        rw [nI_sub (by omega)]
    · have e4 : w.getD (cpl w v) 0 = 0 := by rw [List.getD_eq_getElem?_getD, List.getElem?_eq_none (by omega)]; rfl
      by_cases h2 : cpl w v < v.length
      · have e2 := hl _ h2
        refine ⟨3, ?_⟩
        simp (disch := omega) only [T_Model_against_seenWordLetters, S_Model_against_seenWordLetters, B_Model_against_seenWordLetters_3, B_Model_against_seenWordLetters_40, B_Model_against_seenWordLetters_62, e2, q_lit, le_T, le_F, lt_T, lt_F, eq_T, eq_F, m1_lt, m1_le, lt_m1, le_m1, eq_m1, m1_eq, nI_add, nI_sub, nI_dec, nI_mul, nI_or, nI_and, nI_div, nI_mod, and_255, and_31, and_1, and_63, nI_shl, nI_shr, bI_F, bI_1, vp_T, cl_T, true_implies, false_implies, not_true_eq_false, not_false_eq_true, true_and, and_true, false_and, and_false, Bool.false_eq_true, Bool.true_eq_false, reduceCtorEq, implies_true, q_lc_eq, q_lc_ge, q_lc_gt, q_lc_le, lN_or, lN_and, lN_shl, lN_shr, nI_L, lN_I, l_0]
        simp only [agn, e4]
      · refine ⟨3, ?_⟩
        have e3 : v.getD (cpl w v) 0 = 0 := by rw [List.getD_eq_getElem?_getD, List.getElem?_eq_none (by omega)]; rfl
        simp (disch := omega) only [T_Model_against_seenWordLetters, S_Model_against_seenWordLetters, B_Model_against_seenWordLetters_3, B_Model_against_seenWordLetters_40, B_Model_against_seenWordLetters_62, q_lit, le_T, le_F, lt_T, lt_F, eq_T, eq_F, m1_lt, m1_le, lt_m1, le_m1, eq_m1, m1_eq, nI_add, nI_sub, nI_dec, nI_mul, nI_or, nI_and, nI_div, nI_mod, and_255, and_31, and_1, and_63, nI_shl, nI_shr, bI_F, bI_1, vp_T, cl_T, true_implies, false_implies, not_true_eq_false, not_false_eq_true, true_and, and_true, false_and, and_false, Bool.false_eq_true, Bool.true_eq_false, reduceCtorEq, implies_true, q_lc_eq, q_lc_ge, q_lc_gt, q_lc_le, lN_or, lN_and, lN_shl, lN_shr, nI_L, lN_I, l_0]
        simp only [agn, e3, e4]
        rw [nI_sub (by omega)]
termination_by cpl w v - k
decreasing_by all_goals omega
theorem mo_ag_seenWordLetters {H Lt : Nat → Int32} {HL : Int32} {w v : List Nat} (hh : q_Hd H HL w) (hw : q_Wd w) (hv : q_Wd v) {at0 : Nat} (ha : at0 + v.length ≤ 15360) (hl : ∀ j, j < v.length → Lt (at0 + j) = nI (v.getD j 0)) : D_Model_against_seenWordLetters (nI at0) (nI v.length) HL H Lt (agn w v) := by
  have := t_ag_seenWordLetters hh hw hv ha hl 0 (Nat.zero_le _)
  simpa [D_Model_against_seenWordLetters, q_lit] using this
