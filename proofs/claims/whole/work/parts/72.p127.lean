/-! Pure: the reference keeps what it opened. -/
theorem q_lit2 : (2000 : Int32) = nI 2000 ∧ (2550 : Int32) = nI 2550 ∧ (60 : Int32) = nI 60 := ⟨rfl, rfl, rfl⟩
def q_cpA (S A : Nat → Int32) (k n : Nat) : Nat → Int32 := fun i => if k ≤ i ∧ i < n then A i else S i
theorem cpA_s {S A : Nat → Int32} {k n : Nat} (h : k < n) : q_cpA (upd S k (A k)) A (k + 1) n = q_cpA S A k n := by
  funext i
  simp only [q_cpA, upd]
  by_cases h1 : i = k
  · subst h1
    rw [if_neg (by omega), if_pos rfl, if_pos (by omega)]
  · by_cases h2 : k ≤ i ∧ i < n
    · rw [if_pos (by omega), if_pos h2]
    · rw [if_neg (by omega), if_neg h1, if_neg h2]
theorem cpA_e {S A : Nat → Int32} {k n : Nat} (h : n ≤ k) : q_cpA S A k n = S := by
  funext i
  simp only [q_cpA]; rw [if_neg (by omega)]
theorem cpA_in {S A : Nat → Int32} {n i : Nat} (h : i < n) : q_cpA S A 0 n i = A i := by simp only [q_cpA]; rw [if_pos (by omega)]
set_option maxRecDepth 100000 in
theorem kp6 {tn kn wn : Nat} (htn : tn ≤ 10) (hkn : kn ≤ 250) (hwn : wn ≤ 1280) {Nm Bo Le KL KG KB WL WG WB : Nat → Int32} (k : Nat) (hk : k ≤ wn) (sT : Int32) (q_sN sB sL : Nat → Int32) (sK : Int32) (sKL sKG sKB : Nat → Int32) (sW : Int32) (sWL sWG sWB : Nat → Int32) : ∃ q, T_Model_keep (nI tn) Nm Bo Le (nI kn) KL KG KB (nI wn) WL WG WB sT q_sN sB sL sK sKL sKG sKB sW sWL (q_cpA sWG WG k wn) (q_cpA sWB WB k wn) q 6 (nI k) sT q_sN sB sL sK sKL sKG sKB sW sWL sWG sWB := by
  by_cases h1 : k < wn
  · obtain ⟨q, hq⟩ := kp6 htn hkn hwn (Nm := Nm) (Bo := Bo) (Le := Le) (KL := KL) (KG := KG) (KB := KB) (WL := WL) (WG := WG) (WB := WB) (k + 1) h1 sT q_sN sB sL sK sKL sKG sKB sW sWL (upd sWG k (WG k)) (upd sWB k (WB k))
    rw [cpA_s h1, cpA_s h1] at hq
    refine ⟨q + 1, ?_⟩
    rw [T_Model_keep]
    simp (disch := omega) only [S_Model_keep, B_Model_keep_205, q_lit, le_T, le_F, lt_T, lt_F, eq_T, eq_F, m1_lt, m1_le, lt_m1, le_m1, eq_m1, m1_eq, nI_add, nI_sub, nI_dec, nI_mul, nI_or, nI_and, nI_div, nI_mod, and_255, and_31, and_1, and_63, nI_shl, nI_shr, bI_F, bI_1, vp_T, cl_T, true_implies, false_implies, not_true_eq_false, not_false_eq_true, true_and, and_true, false_and, and_false, Bool.false_eq_true, Bool.true_eq_false, reduceCtorEq, implies_true]
    exact hq
  · rw [cpA_e (by omega), cpA_e (by omega)]
    refine ⟨1, ?_⟩
    rw [T_Model_keep]
    simp (disch := omega) only [S_Model_keep, B_Model_keep_205, q_lit, le_T, le_F, lt_T, lt_F, eq_T, eq_F, m1_lt, m1_le, lt_m1, le_m1, eq_m1, m1_eq, nI_add, nI_sub, nI_dec, nI_mul, nI_or, nI_and, nI_div, nI_mod, and_255, and_31, and_1, and_63, nI_shl, nI_shr, bI_F, bI_1, vp_T, cl_T, true_implies, false_implies, not_true_eq_false, not_false_eq_true, true_and, and_true, false_and, and_false, Bool.false_eq_true, Bool.true_eq_false, reduceCtorEq, implies_true]
termination_by wn - k
decreasing_by all_goals omega
set_option maxRecDepth 100000 in
theorem kp5 {tn kn wn : Nat} (htn : tn ≤ 10) (hkn : kn ≤ 250) (hwn : wn ≤ 1280) {Nm Bo Le KL KG KB WL WG WB : Nat → Int32} {o1 : Int32} {o2 o3 o4 : Nat → Int32} {o5 : Int32} {o6 o7 o8 : Nat → Int32} {o9 : Int32} {o10 o11 o12 : Nat → Int32} (k : Nat) (hk : k ≤ 12 * wn) (sT : Int32) (q_sN sB sL : Nat → Int32) (sK : Int32) (sKL sKG sKB : Nat → Int32) (sW : Int32) (sWL sWG sWB : Nat → Int32) (q_fin : ∃ q, T_Model_keep (nI tn) Nm Bo Le (nI kn) KL KG KB (nI wn) WL WG WB o1 o2 o3 o4 o5 o6 o7 o8 o9 o10 o11 o12 q 6 (nI 0) sT q_sN sB sL sK sKL sKG sKB sW (q_cpA sWL WL k (12 * wn)) sWG sWB) : ∃ q, T_Model_keep (nI tn) Nm Bo Le (nI kn) KL KG KB (nI wn) WL WG WB o1 o2 o3 o4 o5 o6 o7 o8 o9 o10 o11 o12 q 5 (nI k) sT q_sN sB sL sK sKL sKG sKB sW sWL sWG sWB := by
  by_cases h1 : k < 12 * wn
  · obtain ⟨q, hq⟩ := kp5 htn hkn hwn (k + 1) h1 sT q_sN sB sL sK sKL sKG sKB sW (upd sWL k (WL k)) sWG sWB (by rw [cpA_s h1]; exact q_fin)
    refine ⟨q + 1, ?_⟩
    rw [T_Model_keep]
    simp (disch := omega) only [S_Model_keep, B_Model_keep_174, q_lit, le_T, le_F, lt_T, lt_F, eq_T, eq_F, m1_lt, m1_le, lt_m1, le_m1, eq_m1, m1_eq, nI_add, nI_sub, nI_dec, nI_mul, nI_or, nI_and, nI_div, nI_mod, and_255, and_31, and_1, and_63, nI_shl, nI_shr, bI_F, bI_1, vp_T, cl_T, true_implies, false_implies, not_true_eq_false, not_false_eq_true, true_and, and_true, false_and, and_false, Bool.false_eq_true, Bool.true_eq_false, reduceCtorEq, implies_true]
    exact hq
  · rw [cpA_e (by omega)] at q_fin
    obtain ⟨q, hq⟩ := q_fin
    refine ⟨q + 1, ?_⟩
    rw [T_Model_keep]
    simp (disch := omega) only [S_Model_keep, B_Model_keep_174, q_lit, le_T, le_F, lt_T, lt_F, eq_T, eq_F, m1_lt, m1_le, lt_m1, le_m1, eq_m1, m1_eq, nI_add, nI_sub, nI_dec, nI_mul, nI_or, nI_and, nI_div, nI_mod, and_255, and_31, and_1, and_63, nI_shl, nI_shr, bI_F, bI_1, vp_T, cl_T, true_implies, false_implies, not_true_eq_false, not_false_eq_true, true_and, and_true, false_and, and_false, Bool.false_eq_true, Bool.true_eq_false, reduceCtorEq, implies_true]
    exact hq
termination_by 12 * wn - k
decreasing_by all_goals omega
set_option maxRecDepth 100000 in
theorem kp4 {tn kn wn : Nat} (htn : tn ≤ 10) (hkn : kn ≤ 250) (hwn : wn ≤ 1280) {Nm Bo Le KL KG KB WL WG WB : Nat → Int32} {o1 : Int32} {o2 o3 o4 : Nat → Int32} {o5 : Int32} {o6 o7 o8 : Nat → Int32} {o9 : Int32} {o10 o11 o12 : Nat → Int32} (k : Nat) (hk : k ≤ kn) (sT : Int32) (q_sN sB sL : Nat → Int32) (sK : Int32) (sKL sKG sKB : Nat → Int32) (sW : Int32) (sWL sWG sWB : Nat → Int32) (q_fin : ∃ q, T_Model_keep (nI tn) Nm Bo Le (nI kn) KL KG KB (nI wn) WL WG WB o1 o2 o3 o4 o5 o6 o7 o8 o9 o10 o11 o12 q 5 (nI 0) sT q_sN sB sL sK sKL (q_cpA sKG KG k kn) (q_cpA sKB KB k kn) sW sWL sWG sWB) : ∃ q, T_Model_keep (nI tn) Nm Bo Le (nI kn) KL KG KB (nI wn) WL WG WB o1 o2 o3 o4 o5 o6 o7 o8 o9 o10 o11 o12 q 4 (nI k) sT q_sN sB sL sK sKL sKG sKB sW sWL sWG sWB := by
  by_cases h1 : k < kn
  · obtain ⟨q, hq⟩ := kp4 htn hkn hwn (k + 1) h1 sT q_sN sB sL sK sKL (upd sKG k (KG k)) (upd sKB k (KB k)) sW sWL sWG sWB (by rw [cpA_s h1, cpA_s h1]; exact q_fin)
    refine ⟨q + 1, ?_⟩
    rw [T_Model_keep]
    simp (disch := omega) only [S_Model_keep, B_Model_keep_134, q_lit, le_T, le_F, lt_T, lt_F, eq_T, eq_F, m1_lt, m1_le, lt_m1, le_m1, eq_m1, m1_eq, nI_add, nI_sub, nI_dec, nI_mul, nI_or, nI_and, nI_div, nI_mod, and_255, and_31, and_1, and_63, nI_shl, nI_shr, bI_F, bI_1, vp_T, cl_T, true_implies, false_implies, not_true_eq_false, not_false_eq_true, true_and, and_true, false_and, and_false, Bool.false_eq_true, Bool.true_eq_false, reduceCtorEq, implies_true]
    exact hq
  · rw [cpA_e (by omega), cpA_e (by omega)] at q_fin
    obtain ⟨q, hq⟩ := q_fin
    refine ⟨q + 1, ?_⟩
    rw [T_Model_keep]
    simp (disch := omega) only [S_Model_keep, B_Model_keep_134, q_lit, le_T, le_F, lt_T, lt_F, eq_T, eq_F, m1_lt, m1_le, lt_m1, le_m1, eq_m1, m1_eq, nI_add, nI_sub, nI_dec, nI_mul, nI_or, nI_and, nI_div, nI_mod, and_255, and_31, and_1, and_63, nI_shl, nI_shr, bI_F, bI_1, vp_T, cl_T, true_implies, false_implies, not_true_eq_false, not_false_eq_true, true_and, and_true, false_and, and_false, Bool.false_eq_true, Bool.true_eq_false, reduceCtorEq, implies_true]
    exact hq
termination_by kn - k
decreasing_by all_goals omega
set_option maxRecDepth 100000 in
theorem kp3 {tn kn wn : Nat} (htn : tn ≤ 10) (hkn : kn ≤ 250) (hwn : wn ≤ 1280) {Nm Bo Le KL KG KB WL WG WB : Nat → Int32} {o1 : Int32} {o2 o3 o4 : Nat → Int32} {o5 : Int32} {o6 o7 o8 : Nat → Int32} {o9 : Int32} {o10 o11 o12 : Nat → Int32} (k : Nat) (hk : k ≤ 2000) (sT : Int32) (q_sN sB sL : Nat → Int32) (sK : Int32) (sKL sKG sKB : Nat → Int32) (sW : Int32) (sWL sWG sWB : Nat → Int32) (q_fin : ∃ q, T_Model_keep (nI tn) Nm Bo Le (nI kn) KL KG KB (nI wn) WL WG WB o1 o2 o3 o4 o5 o6 o7 o8 o9 o10 o11 o12 q 4 (nI 0) sT q_sN sB sL sK (q_cpA sKL KL k 2000) sKG sKB sW sWL sWG sWB) : ∃ q, T_Model_keep (nI tn) Nm Bo Le (nI kn) KL KG KB (nI wn) WL WG WB o1 o2 o3 o4 o5 o6 o7 o8 o9 o10 o11 o12 q 3 (nI k) sT q_sN sB sL sK sKL sKG sKB sW sWL sWG sWB := by
  by_cases h1 : k < 2000
  · obtain ⟨q, hq⟩ := kp3 htn hkn hwn (k + 1) h1 sT q_sN sB sL sK (upd sKL k (KL k)) sKG sKB sW sWL sWG sWB (by rw [cpA_s h1]; exact q_fin)
    refine ⟨q + 1, ?_⟩
    rw [T_Model_keep]
    simp (disch := omega) only [S_Model_keep, B_Model_keep_107, q_lit2, q_lit, le_T, le_F, lt_T, lt_F, eq_T, eq_F, m1_lt, m1_le, lt_m1, le_m1, eq_m1, m1_eq, nI_add, nI_sub, nI_dec, nI_mul, nI_or, nI_and, nI_div, nI_mod, and_255, and_31, and_1, and_63, nI_shl, nI_shr, bI_F, bI_1, vp_T, cl_T, true_implies, false_implies, not_true_eq_false, not_false_eq_true, true_and, and_true, false_and, and_false, Bool.false_eq_true, Bool.true_eq_false, reduceCtorEq, implies_true]
    exact hq
  · rw [cpA_e (by omega)] at q_fin
    obtain ⟨q, hq⟩ := q_fin
    refine ⟨q + 1, ?_⟩
    rw [T_Model_keep]
    simp (disch := omega) only [S_Model_keep, B_Model_keep_107, q_lit2, q_lit, le_T, le_F, lt_T, lt_F, eq_T, eq_F, m1_lt, m1_le, lt_m1, le_m1, eq_m1, m1_eq, nI_add, nI_sub, nI_dec, nI_mul, nI_or, nI_and, nI_div, nI_mod, and_255, and_31, and_1, and_63, nI_shl, nI_shr, bI_F, bI_1, vp_T, cl_T, true_implies, false_implies, not_true_eq_false, not_false_eq_true, true_and, and_true, false_and, and_false, Bool.false_eq_true, Bool.true_eq_false, reduceCtorEq, implies_true]
    exact hq
termination_by 2000 - k
decreasing_by all_goals omega
set_option maxRecDepth 100000 in
theorem kp2 {tn kn wn : Nat} (htn : tn ≤ 10) (hkn : kn ≤ 250) (hwn : wn ≤ 1280) {Nm Bo Le KL KG KB WL WG WB : Nat → Int32} {o1 : Int32} {o2 o3 o4 : Nat → Int32} {o5 : Int32} {o6 o7 o8 : Nat → Int32} {o9 : Int32} {o10 o11 o12 : Nat → Int32} (k : Nat) (hk : k ≤ tn) (sT : Int32) (q_sN sB sL : Nat → Int32) (sK : Int32) (sKL sKG sKB : Nat → Int32) (sW : Int32) (sWL sWG sWB : Nat → Int32) (q_fin : ∃ q, T_Model_keep (nI tn) Nm Bo Le (nI kn) KL KG KB (nI wn) WL WG WB o1 o2 o3 o4 o5 o6 o7 o8 o9 o10 o11 o12 q 3 (nI 0) sT q_sN sB (q_cpA sL Le k tn) sK sKL sKG sKB sW sWL sWG sWB) : ∃ q, T_Model_keep (nI tn) Nm Bo Le (nI kn) KL KG KB (nI wn) WL WG WB o1 o2 o3 o4 o5 o6 o7 o8 o9 o10 o11 o12 q 2 (nI k) sT q_sN sB sL sK sKL sKG sKB sW sWL sWG sWB := by
  by_cases h1 : k < tn
  · obtain ⟨q, hq⟩ := kp2 htn hkn hwn (k + 1) h1 sT q_sN sB (upd sL k (Le k)) sK sKL sKG sKB sW sWL sWG sWB (by rw [cpA_s h1]; exact q_fin)
    refine ⟨q + 1, ?_⟩
    rw [T_Model_keep]
    simp (disch := omega) only [S_Model_keep, B_Model_keep_79, q_lit2, q_lit, le_T, le_F, lt_T, lt_F, eq_T, eq_F, m1_lt, m1_le, lt_m1, le_m1, eq_m1, m1_eq, nI_add, nI_sub, nI_dec, nI_mul, nI_or, nI_and, nI_div, nI_mod, and_255, and_31, and_1, and_63, nI_shl, nI_shr, bI_F, bI_1, vp_T, cl_T, true_implies, false_implies, not_true_eq_false, not_false_eq_true, true_and, and_true, false_and, and_false, Bool.false_eq_true, Bool.true_eq_false, reduceCtorEq, implies_true]
    exact hq
  · rw [cpA_e (by omega)] at q_fin
    obtain ⟨q, hq⟩ := q_fin
    refine ⟨q + 1, ?_⟩
    rw [T_Model_keep]
    simp (disch := omega) only [S_Model_keep, B_Model_keep_79, q_lit2, q_lit, le_T, le_F, lt_T, lt_F, eq_T, eq_F, m1_lt, m1_le, lt_m1, le_m1, eq_m1, m1_eq, nI_add, nI_sub, nI_dec, nI_mul, nI_or, nI_and, nI_div, nI_mod, and_255, and_31, and_1, and_63, nI_shl, nI_shr, bI_F, bI_1, vp_T, cl_T, true_implies, false_implies, not_true_eq_false, not_false_eq_true, true_and, and_true, false_and, and_false, Bool.false_eq_true, Bool.true_eq_false, reduceCtorEq, implies_true]
    exact hq
termination_by tn - k
decreasing_by all_goals omega
set_option maxRecDepth 100000 in
theorem kp1 {tn kn wn : Nat} (htn : tn ≤ 10) (hkn : kn ≤ 250) (hwn : wn ≤ 1280) {Nm Bo Le KL KG KB WL WG WB : Nat → Int32} {o1 : Int32} {o2 o3 o4 : Nat → Int32} {o5 : Int32} {o6 o7 o8 : Nat → Int32} {o9 : Int32} {o10 o11 o12 : Nat → Int32} (k : Nat) (hk : k ≤ 2550) (sT : Int32) (q_sN sB sL : Nat → Int32) (sK : Int32) (sKL sKG sKB : Nat → Int32) (sW : Int32) (sWL sWG sWB : Nat → Int32) (q_fin : ∃ q, T_Model_keep (nI tn) Nm Bo Le (nI kn) KL KG KB (nI wn) WL WG WB o1 o2 o3 o4 o5 o6 o7 o8 o9 o10 o11 o12 q 2 (nI 0) sT q_sN (q_cpA sB Bo k 2550) sL sK sKL sKG sKB sW sWL sWG sWB) : ∃ q, T_Model_keep (nI tn) Nm Bo Le (nI kn) KL KG KB (nI wn) WL WG WB o1 o2 o3 o4 o5 o6 o7 o8 o9 o10 o11 o12 q 1 (nI k) sT q_sN sB sL sK sKL sKG sKB sW sWL sWG sWB := by
  by_cases h1 : k < 2550
  · obtain ⟨q, hq⟩ := kp1 htn hkn hwn (k + 1) h1 sT q_sN (upd sB k (Bo k)) sL sK sKL sKG sKB sW sWL sWG sWB (by rw [cpA_s h1]; exact q_fin)
    refine ⟨q + 1, ?_⟩
    rw [T_Model_keep]
    simp (disch := omega) only [S_Model_keep, B_Model_keep_52, q_lit2, q_lit, le_T, le_F, lt_T, lt_F, eq_T, eq_F, m1_lt, m1_le, lt_m1, le_m1, eq_m1, m1_eq, nI_add, nI_sub, nI_dec, nI_mul, nI_or, nI_and, nI_div, nI_mod, and_255, and_31, and_1, and_63, nI_shl, nI_shr, bI_F, bI_1, vp_T, cl_T, true_implies, false_implies, not_true_eq_false, not_false_eq_true, true_and, and_true, false_and, and_false, Bool.false_eq_true, Bool.true_eq_false, reduceCtorEq, implies_true]
    exact hq
  · rw [cpA_e (by omega)] at q_fin
    obtain ⟨q, hq⟩ := q_fin
    refine ⟨q + 1, ?_⟩
    rw [T_Model_keep]
    simp (disch := omega) only [S_Model_keep, B_Model_keep_52, q_lit2, q_lit, le_T, le_F, lt_T, lt_F, eq_T, eq_F, m1_lt, m1_le, lt_m1, le_m1, eq_m1, m1_eq, nI_add, nI_sub, nI_dec, nI_mul, nI_or, nI_and, nI_div, nI_mod, and_255, and_31, and_1, and_63, nI_shl, nI_shr, bI_F, bI_1, vp_T, cl_T, true_implies, false_implies, not_true_eq_false, not_false_eq_true, true_and, and_true, false_and, and_false, Bool.false_eq_true, Bool.true_eq_false, reduceCtorEq, implies_true]
    exact hq
termination_by 2550 - k
decreasing_by all_goals omega
set_option maxRecDepth 100000 in
theorem kp0 {tn kn wn : Nat} (htn : tn ≤ 10) (hkn : kn ≤ 250) (hwn : wn ≤ 1280) {Nm Bo Le KL KG KB WL WG WB : Nat → Int32} {o1 : Int32} {o2 o3 o4 : Nat → Int32} {o5 : Int32} {o6 o7 o8 : Nat → Int32} {o9 : Int32} {o10 o11 o12 : Nat → Int32} (k : Nat) (hk : k ≤ 60) (sT : Int32) (q_sN sB sL : Nat → Int32) (sK : Int32) (sKL sKG sKB : Nat → Int32) (sW : Int32) (sWL sWG sWB : Nat → Int32) (q_fin : ∃ q, T_Model_keep (nI tn) Nm Bo Le (nI kn) KL KG KB (nI wn) WL WG WB o1 o2 o3 o4 o5 o6 o7 o8 o9 o10 o11 o12 q 1 (nI 0) sT (q_cpA q_sN Nm k 60) sB sL sK sKL sKG sKB sW sWL sWG sWB) : ∃ q, T_Model_keep (nI tn) Nm Bo Le (nI kn) KL KG KB (nI wn) WL WG WB o1 o2 o3 o4 o5 o6 o7 o8 o9 o10 o11 o12 q 0 (nI k) sT q_sN sB sL sK sKL sKG sKB sW sWL sWG sWB := by
  by_cases h1 : k < 60
  · obtain ⟨q, hq⟩ := kp0 htn hkn hwn (k + 1) h1 sT (upd q_sN k (Nm k)) sB sL sK sKL sKG sKB sW sWL sWG sWB (by rw [cpA_s h1]; exact q_fin)
    refine ⟨q + 1, ?_⟩
    rw [T_Model_keep]
    simp (disch := omega) only [S_Model_keep, B_Model_keep_26, q_lit2, q_lit, le_T, le_F, lt_T, lt_F, eq_T, eq_F, m1_lt, m1_le, lt_m1, le_m1, eq_m1, m1_eq, nI_add, nI_sub, nI_dec, nI_mul, nI_or, nI_and, nI_div, nI_mod, and_255, and_31, and_1, and_63, nI_shl, nI_shr, bI_F, bI_1, vp_T, cl_T, true_implies, false_implies, not_true_eq_false, not_false_eq_true, true_and, and_true, false_and, and_false, Bool.false_eq_true, Bool.true_eq_false, reduceCtorEq, implies_true]
    exact hq
  · rw [cpA_e (by omega)] at q_fin
    obtain ⟨q, hq⟩ := q_fin
    refine ⟨q + 1, ?_⟩
    rw [T_Model_keep]
    simp (disch := omega) only [S_Model_keep, B_Model_keep_26, q_lit2, q_lit, le_T, le_F, lt_T, lt_F, eq_T, eq_F, m1_lt, m1_le, lt_m1, le_m1, eq_m1, m1_eq, nI_add, nI_sub, nI_dec, nI_mul, nI_or, nI_and, nI_div, nI_mod, and_255, and_31, and_1, and_63, nI_shl, nI_shr, bI_F, bI_1, vp_T, cl_T, true_implies, false_implies, not_true_eq_false, not_false_eq_true, true_and, and_true, false_and, and_false, Bool.false_eq_true, Bool.true_eq_false, reduceCtorEq, implies_true]
    exact hq
termination_by 60 - k
decreasing_by all_goals omega
theorem mo_keep {tn kn wn : Nat} (htn : tn ≤ 10) (hkn : kn ≤ 250) (hwn : wn ≤ 1280) {Nm Bo Le KL KG KB WL WG WB : Nat → Int32} (sT : Int32) (q_sN sB sL : Nat → Int32) (sK : Int32) (sKL sKG sKB : Nat → Int32) (sW : Int32) (sWL sWG sWB : Nat → Int32) : D_Model_keep (nI tn) Nm Bo Le (nI kn) KL KG KB (nI wn) WL WG WB sT q_sN sB sL sK sKL sKG sKB sW sWL sWG sWB (nI tn) (q_cpA q_sN Nm 0 60) (q_cpA sB Bo 0 2550) (q_cpA sL Le 0 tn) (nI kn) (q_cpA sKL KL 0 2000) (q_cpA sKG KG 0 kn) (q_cpA sKB KB 0 kn) (nI wn) (q_cpA sWL WL 0 (12 * wn)) (q_cpA sWG WG 0 wn) (q_cpA sWB WB 0 wn) :=
  kp0 htn hkn hwn 0 (by omega) _ _ _ _ _ _ _ _ _ _ _ _ (kp1 htn hkn hwn 0 (by omega) _ _ _ _ _ _ _ _ _ _ _ _ (kp2 htn hkn hwn 0 (by omega) _ _ _ _ _ _ _ _ _ _ _ _ (kp3 htn hkn hwn 0 (by omega) _ _ _ _ _ _ _ _ _ _ _ _ (kp4 htn hkn hwn 0 (by omega) _ _ _ _ _ _ _ _ _ _ _ _ (kp5 htn hkn hwn 0 (by omega) _ _ _ _ _ _ _ _ _ _ _ _ (kp6 htn hkn hwn 0 (by omega) _ _ _ _ _ _ _ _ _ _ _ _))))))
theorem mw_cp {st cap : Nat} {Lt Ln Bt sL sG sB : Nat → Int32} {C : Int32} {m : q_M2} (h : MW st cap Lt Ln Bt C m) {n : Nat} (hn : st * m.length ≤ n) : MW st cap (q_cpA sL Lt 0 n) (q_cpA sG Ln 0 m.length) (q_cpA sB Bt 0 m.length) C m := by
  obtain ⟨h1, h2, h3⟩ := h
  refine ⟨h1, h2, fun i hi => ?_⟩
  obtain ⟨a1, a2, a3, a4, a5⟩ := h3 i hi
  refine ⟨by rw [cpA_in hi]; exact a1, by rw [cpA_in hi]; exact a2, a3, a4, fun j hj => ?_⟩
  have : st * i + j < st * m.length := by
    have : st * (i + 1) ≤ st * m.length := Nat.mul_le_mul_left _ hi
    rw [Nat.mul_succ] at this; omega
  rw [cpA_in (by omega)]; exact a5 j hj
theorem mb_cp {Bo Le sB sL : Nat → Int32} {bs : List (List Nat)} (h : MB Bo Le bs) : MB (q_cpA sB Bo 0 2550) (q_cpA sL Le 0 bs.length) bs := by
  obtain ⟨h1, h2⟩ := h
  refine ⟨h1, fun t ht => ?_⟩
  obtain ⟨a1, a2, a3⟩ := h2 t ht
  refine ⟨by rw [cpA_in ht]; exact a1, a2, fun i hi => ?_⟩
  rw [cpA_in (by omega)]; exact a3 i hi
theorem mn_cp {Nm q_sN : Nat → Int32} {ns : List (List Nat)} (h : q_MN Nm ns) (h10 : ns.length ≤ 10) : q_MN (q_cpA q_sN Nm 0 60) ns := fun t ht k hk => by
  rw [cpA_in (by omega)]; exact h t ht k hk
