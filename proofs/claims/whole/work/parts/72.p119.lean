/-! Pure: a body is unpacked, the reference. -/
theorem mo_byteAt {J : List Nat} {iE : Nat → Int32} {iC : Int32} (hJ : Rw 8000 iE iC J) {p : Nat} (hp : p < 2147483648) (U : Bool) : D_Model_byteAt (nI p) iC iE U (nI (J.getD p 0)) (U || decide (J.length ≤ p)) := by
  have h8 := hJ.2.1
  have hC := hJ.1
  have st : ∀ V : Bool, T_Model_byteAt iC iE (nI (J.getD p 0)) V 1 (nI p) V := by
    intro V
    by_cases h1 : p < J.length
    · have e := hJ.2.2.2 p h1
      rw [hC]
      simp (disch := omega) only [T_Model_byteAt, S_Model_byteAt, B_Model_byteAt_24, e, q_lit, le_T, le_F, lt_T, lt_F, eq_T, eq_F, m1_lt, m1_le, lt_m1, le_m1, eq_m1, m1_eq, nI_add, nI_sub, nI_dec, nI_mul, nI_or, nI_and, nI_div, nI_mod, and_255, and_31, and_1, and_63, nI_shl, nI_shr, bI_F, bI_1, vp_T, cl_T, true_implies, false_implies, not_true_eq_false, not_false_eq_true, true_and, and_true, false_and, and_false, Bool.false_eq_true, Bool.true_eq_false, reduceCtorEq, implies_true, q_lc_eq, q_lc_ge, q_lc_gt, q_lc_le, lN_or, lN_and, lN_shl, lN_shr, nI_L, lN_I, l_0]
    · rw [hC, getD_ge (by omega)]
      simp (disch := omega) only [T_Model_byteAt, S_Model_byteAt, B_Model_byteAt_24, q_lit, le_T, le_F, lt_T, lt_F, eq_T, eq_F, m1_lt, m1_le, lt_m1, le_m1, eq_m1, m1_eq, nI_add, nI_sub, nI_dec, nI_mul, nI_or, nI_and, nI_div, nI_mod, and_255, and_31, and_1, and_63, nI_shl, nI_shr, bI_F, bI_1, vp_T, cl_T, true_implies, false_implies, not_true_eq_false, not_false_eq_true, true_and, and_true, false_and, and_false, Bool.false_eq_true, Bool.true_eq_false, reduceCtorEq, implies_true, q_lc_eq, q_lc_ge, q_lc_gt, q_lc_le, lN_or, lN_and, lN_shl, lN_shr, nI_L, lN_I, l_0]
  refine ⟨1, ?_⟩
  cases U with
  | true =>
    simp (disch := omega) only [Bool.true_or, q_lit, le_T, le_F, lt_T, lt_F, eq_T, eq_F, m1_lt, m1_le, lt_m1, le_m1, eq_m1, m1_eq, nI_add, nI_sub, nI_dec, nI_mul, nI_or, nI_and, nI_div, nI_mod, and_255, and_31, and_1, and_63, nI_shl, nI_shr, bI_F, bI_1, vp_T, cl_T, true_implies, false_implies, not_true_eq_false, not_false_eq_true, true_and, and_true, false_and, and_false, Bool.false_eq_true, Bool.true_eq_false, reduceCtorEq, implies_true]
    exact st true
  | false =>
    rw [Bool.false_or]
    by_cases h1 : J.length ≤ p
    · rw [decide_eq_true h1, hC]
      simp (disch := omega) only [q_lit, le_T, le_F, lt_T, lt_F, eq_T, eq_F, m1_lt, m1_le, lt_m1, le_m1, eq_m1, m1_eq, nI_add, nI_sub, nI_dec, nI_mul, nI_or, nI_and, nI_div, nI_mod, and_255, and_31, and_1, and_63, nI_shl, nI_shr, bI_F, bI_1, vp_T, cl_T, true_implies, false_implies, not_true_eq_false, not_false_eq_true, true_and, and_true, false_and, and_false, Bool.false_eq_true, Bool.true_eq_false, reduceCtorEq, implies_true]
      rw [← hC]
      exact st true
    · rw [decide_eq_false h1, hC]
      simp (disch := omega) only [q_lit, le_T, le_F, lt_T, lt_F, eq_T, eq_F, m1_lt, m1_le, lt_m1, le_m1, eq_m1, m1_eq, nI_add, nI_sub, nI_dec, nI_mul, nI_or, nI_and, nI_div, nI_mod, and_255, and_31, and_1, and_63, nI_shl, nI_shr, bI_F, bI_1, vp_T, cl_T, true_implies, false_implies, not_true_eq_false, not_false_eq_true, true_and, and_true, false_and, and_false, Bool.false_eq_true, Bool.true_eq_false, reduceCtorEq, implies_true]
      rw [← hC]
      exact st false
theorem mo_byteIn {J : List Nat} {iE : Nat → Int32} {iC : Int32} (hJ : Rw 8000 iE iC J) {p : Nat} (hp : p < J.length) : D_Model_byteAt (nI p) iC iE false (nI (J.getD p 0)) false := by
  have h8 := hJ.2.1
  have := mo_byteAt hJ (p := p) (by omega) false
  rw [decide_eq_false (by omega)] at this
  exact this
theorem mo_byteOut {J : List Nat} {iE : Nat → Int32} {iC : Int32} (hJ : Rw 8000 iE iC J) {p : Nat} (hp : J.length ≤ p) (hp2 : p < 2147483648) (U : Bool) : D_Model_byteAt (nI p) iC iE U (nI 0) true := by
  have := mo_byteAt hJ hp2 U
  rw [decide_eq_true hp, Bool.or_true, getD_ge hp] at this
  exact this
def pcm (J : List Nat) (len p : Nat) (c : List Nat) : Option (Nat × List Nat) :=
  if J.length ≤ p then none
  else if J.getD p 0 < 128 then (if len < c.length + (J.getD p 0 + 1) ∨ J.length < p + 1 + (J.getD p 0 + 1) then none else some (p + 1 + (J.getD p 0 + 1), c ++ seg J (p + 1) (J.getD p 0 + 1)))
  else (if J.length ≤ p + 1 ∨ len < c.length + (J.getD p 0 - 125) ∨ 188 < J.getD p 0 ∨ J.getD (p + 1) 0 = 0 ∨ c.length < J.getD (p + 1) 0 then none else some (p + 2, cpy c (J.getD (p + 1) 0) (J.getD p 0 - 125)))
/-- a topic's place holds these; elsewhere nothing changed -/
def Bt (t : Nat) (Bo : Nat → Int32) (c : List Nat) : Prop := ∀ i, i < c.length → Bo (255 * t + i) = nI (c.getD i 0)
def Els (t : Nat) (Bo Bo' : Nat → Int32) : Prop := ∀ k, ¬ (255 * t ≤ k ∧ k < 255 * t + 255) → Bo' k = Bo k
set_option maxRecDepth 100000 in
theorem Els.refl (t : Nat) (Bo : Nat → Int32) : Els t Bo Bo := fun k _ => rfl
set_option maxRecDepth 100000 in
theorem Els.trans {t : Nat} {A B C : Nat → Int32} (h : Els t A B) (h2 : Els t B C) : Els t A C := fun k hk => by rw [h2 k hk, h k hk]
theorem els_upd {t i : Nat} (hi : i < 255) (Bo : Nat → Int32) (x : Int32) : Els t Bo (upd Bo (255 * t + i) x) := fun k hk => by
  simp only [upd]; rw [if_neg (by omega)]
theorem bt_app {t : Nat} {Bo : Nat → Int32} {c : List Nat} (h : Bt t Bo c) (x : Nat) : Bt t (upd Bo (255 * t + c.length) (nI x)) (c ++ [x]) := fun i hi => by
  simp only [List.length_append, List.length_cons, List.length_nil] at hi
  simp only [upd, getD_snoc]
  by_cases h1 : i = c.length
  · rw [if_pos (by omega), if_pos h1]
  · rw [if_neg (by omega), if_neg h1]; exact h i (by omega)
set_option maxRecDepth 100000 in
theorem m4p {J : List Nat} {iE : Nat → Int32} {iC : Int32} (hJ : Rw 8000 iE iC J) (hy : q_By J) {t : Nat} (ht : t < 10) {Le : Nat → Int32} {x2 x3 x8 : Int32} {p b m : Nat} (hb : b < 128) (hm : m ≤ 128) (hp : p + 1 + m ≤ J.length) (j : Nat) (hj : j ≤ m) (c : List Nat) (hc : c.length + (m - j) ≤ 255) (Bo : Nat → Int32) (hB : Bt t Bo c) :
    ∃ Bo2, Bt t Bo2 (c ++ seg J (p + 1 + j) (m - j)) ∧ Els t Bo Bo2 ∧ ∀ res Bo' U', (∃ q, T_Model_unpack Le iC iE res Bo' U' q 5 (nI t) x2 x3 (nI p) (nI (c.length + (m - j))) (nI b) (nI m) (nI 0) (nI 0) Bo2 false) → ∃ q, T_Model_unpack Le iC iE res Bo' U' q 4 (nI t) x2 x3 (nI p) (nI c.length) (nI b) (nI m) x8 (nI j) Bo false := by
  have h8 := hJ.2.1
  by_cases h1 : j < m
  · have hby := mo_byteIn hJ (p := p + 1 + j) (by omega)
    obtain ⟨B2, b1, b2, b3⟩ := m4p hJ hy ht (x2 := x2) (x3 := x3) (x8 := x8) hb hm hp (j + 1) h1 (c ++ [J.getD (p + 1 + j) 0]) (by simp; omega) _ (bt_app hB _)
    refine ⟨B2, ?_, (els_upd (by omega) _ _).trans b2, fun res Bo' U' hq => ?_⟩
    · rw [show m - j = (m - (j + 1)) + 1 by omega, seg]
      rw [List.append_assoc] at b1
      exact b1
    · rw [List.length_append, List.length_cons, List.length_nil] at b3
      rw [show c.length + (m - j) = c.length + (0 + 1) + (m - (j + 1)) by omega] at hq
      obtain ⟨q, hq⟩ := b3 res Bo' U' hq
      refine ⟨q + 1, ?_⟩
      simp (disch := omega) only [T_Model_unpack, S_Model_unpack, B_Model_unpack_133, q_lit, le_T, le_F, lt_T, lt_F, eq_T, eq_F, m1_lt, m1_le, lt_m1, le_m1, eq_m1, m1_eq, nI_add, nI_sub, nI_dec, nI_mul, nI_or, nI_and, nI_div, nI_mod, and_255, and_31, and_1, and_63, nI_shl, nI_shr, bI_F, bI_1, vp_T, cl_T, true_implies, false_implies, not_true_eq_false, not_false_eq_true, true_and, and_true, false_and, and_false, Bool.false_eq_true, Bool.true_eq_false, reduceCtorEq, implies_true, q_lc_eq, q_lc_ge, q_lc_gt, q_lc_le, lN_or, lN_and, lN_shl, lN_shr, nI_L, lN_I, l_0]
      exact ⟨_, _, hby, hq⟩
  · refine ⟨Bo, by rw [show m - j = 0 by omega]; simpa [seg] using hB, Els.refl _ _, fun res Bo' U' hq => ?_⟩
    obtain ⟨q, hq⟩ := hq
    refine ⟨q + 1, ?_⟩
    rw [show c.length + (m - j) = c.length by omega] at hq
    simp (disch := omega) only [T_Model_unpack, S_Model_unpack, B_Model_unpack_133, q_lit, le_T, le_F, lt_T, lt_F, eq_T, eq_F, m1_lt, m1_le, lt_m1, le_m1, eq_m1, m1_eq, nI_add, nI_sub, nI_dec, nI_mul, nI_or, nI_and, nI_div, nI_mod, and_255, and_31, and_1, and_63, nI_shl, nI_shr, bI_F, bI_1, vp_T, cl_T, true_implies, false_implies, not_true_eq_false, not_false_eq_true, true_and, and_true, false_and, and_false, Bool.false_eq_true, Bool.true_eq_false, reduceCtorEq, implies_true, q_lc_eq, q_lc_ge, q_lc_gt, q_lc_le, lN_or, lN_and, lN_shl, lN_shr, nI_L, lN_I, l_0]
    exact hq
termination_by m - j
decreasing_by all_goals omega
set_option maxRecDepth 100000 in
theorem m4x {J : List Nat} {iE : Nat → Int32} {iC : Int32} (hJ : Rw 8000 iE iC J) (hy : q_By J) {t : Nat} (ht : t < 10) {Le : Nat → Int32} {x2 x3 x8 : Int32} {p b m : Nat} (hp8 : p < 100000) (hb : b < 128) (hm : m ≤ 128) (hp : J.length < p + 1 + m) (j : Nat) (hj : j < m) (hjp : p + 1 + j ≤ J.length) (n : Nat) (hc : n + (m - j) ≤ 255) (Bo : Nat → Int32) :
    ∃ Bo2 n2, n2 < 1000 ∧ ∀ res Bo' U', (∃ q, T_Model_unpack Le iC iE res Bo' U' q 5 (nI t) x2 x3 (nI p) (nI n2) (nI b) (nI m) (nI 0) (nI 0) Bo2 true) → ∃ q, T_Model_unpack Le iC iE res Bo' U' q 4 (nI t) x2 x3 (nI p) (nI n) (nI b) (nI m) x8 (nI j) Bo false := by
  have h8 := hJ.2.1
  by_cases h1 : p + 1 + j < J.length
  · have hby := mo_byteIn hJ (p := p + 1 + j) (by omega)
    obtain ⟨B2, n2, hn2, b3⟩ := m4x hJ hy ht (x2 := x2) (x3 := x3) (x8 := x8) hp8 hb hm hp (j + 1) (by omega) (by omega) (n + 1) (by omega) (upd Bo (255 * t + n) (nI (J.getD (p + 1 + j) 0)))
    refine ⟨B2, n2, hn2, fun res Bo' U' hq => ?_⟩
    obtain ⟨q, hq⟩ := b3 res Bo' U' hq
    refine ⟨q + 1, ?_⟩
    simp (disch := omega) only [T_Model_unpack, S_Model_unpack, B_Model_unpack_133, q_lit, le_T, le_F, lt_T, lt_F, eq_T, eq_F, m1_lt, m1_le, lt_m1, le_m1, eq_m1, m1_eq, nI_add, nI_sub, nI_dec, nI_mul, nI_or, nI_and, nI_div, nI_mod, and_255, and_31, and_1, and_63, nI_shl, nI_shr, bI_F, bI_1, vp_T, cl_T, true_implies, false_implies, not_true_eq_false, not_false_eq_true, true_and, and_true, false_and, and_false, Bool.false_eq_true, Bool.true_eq_false, reduceCtorEq, implies_true, q_lc_eq, q_lc_ge, q_lc_gt, q_lc_le, lN_or, lN_and, lN_shl, lN_shr, nI_L, lN_I, l_0]
    exact ⟨_, _, hby, hq⟩
  · have hby := mo_byteOut hJ (p := p + 1 + j) (by omega) (by omega) false
    refine ⟨upd Bo (255 * t + n) (nI 0), n + 1, by omega, fun res Bo' U' hq => ?_⟩
    obtain ⟨q, hq⟩ := hq
    have st : T_Model_unpack Le iC iE res Bo' U' (q + 1) 4 (nI t) x2 x3 (nI p) (nI (n + 1)) (nI b) (nI m) x8 (nI (j + 1)) (upd Bo (255 * t + n) (nI 0)) true := by
      by_cases h2 : j + 1 < m
      · simp (disch := omega) only [T_Model_unpack, S_Model_unpack, B_Model_unpack_133, q_lit, le_T, le_F, lt_T, lt_F, eq_T, eq_F, m1_lt, m1_le, lt_m1, le_m1, eq_m1, m1_eq, nI_add, nI_sub, nI_dec, nI_mul, nI_or, nI_and, nI_div, nI_mod, and_255, and_31, and_1, and_63, nI_shl, nI_shr, bI_F, bI_1, vp_T, cl_T, true_implies, false_implies, not_true_eq_false, not_false_eq_true, true_and, and_true, false_and, and_false, Bool.false_eq_true, Bool.true_eq_false, reduceCtorEq, implies_true, q_lc_eq, q_lc_ge, q_lc_gt, q_lc_le, lN_or, lN_and, lN_shl, lN_shr, nI_L, lN_I, l_0]
        exact hq
      · simp (disch := omega) only [T_Model_unpack, S_Model_unpack, B_Model_unpack_133, q_lit, le_T, le_F, lt_T, lt_F, eq_T, eq_F, m1_lt, m1_le, lt_m1, le_m1, eq_m1, m1_eq, nI_add, nI_sub, nI_dec, nI_mul, nI_or, nI_and, nI_div, nI_mod, and_255, and_31, and_1, and_63, nI_shl, nI_shr, bI_F, bI_1, vp_T, cl_T, true_implies, false_implies, not_true_eq_false, not_false_eq_true, true_and, and_true, false_and, and_false, Bool.false_eq_true, Bool.true_eq_false, reduceCtorEq, implies_true, q_lc_eq, q_lc_ge, q_lc_gt, q_lc_le, lN_or, lN_and, lN_shl, lN_shr, nI_L, lN_I, l_0]
        exact hq
    refine ⟨q + 2, ?_⟩
    rw [T_Model_unpack]
    simp (disch := omega) only [S_Model_unpack, B_Model_unpack_133, q_lit, le_T, le_F, lt_T, lt_F, eq_T, eq_F, m1_lt, m1_le, lt_m1, le_m1, eq_m1, m1_eq, nI_add, nI_sub, nI_dec, nI_mul, nI_or, nI_and, nI_div, nI_mod, and_255, and_31, and_1, and_63, nI_shl, nI_shr, bI_F, bI_1, vp_T, cl_T, true_implies, false_implies, not_true_eq_false, not_false_eq_true, true_and, and_true, false_and, and_false, Bool.false_eq_true, Bool.true_eq_false, reduceCtorEq, implies_true]
    exact ⟨_, _, hby, st⟩
termination_by m - j
decreasing_by all_goals omega
set_option maxRecDepth 100000 in
theorem m4c {J : List Nat} {iE : Nat → Int32} {iC : Int32} (hJ : Rw 8000 iE iC J) (hy : q_By J) {t : Nat} (ht : t < 10) {Le : Nat → Int32} {x2 x3 : Int32} {p b m e : Nat} (hb : 128 ≤ b) (hb2 : b < 256) (hm : m ≤ 128) (he : 1 ≤ e) (j : Nat) (hj : j ≤ m) (c : List Nat) (hec : e ≤ c.length) (hc : c.length + (m - j) ≤ 255) (Bo : Nat → Int32) (hB : Bt t Bo c) :
    ∃ Bo2, Bt t Bo2 (cpy c e (m - j)) ∧ Els t Bo Bo2 ∧ ∀ res Bo' U', (∃ q, T_Model_unpack Le iC iE res Bo' U' q 5 (nI t) x2 x3 (nI p) (nI (c.length + (m - j))) (nI b) (nI m) (nI 0) (nI 0) Bo2 false) → ∃ q, T_Model_unpack Le iC iE res Bo' U' q 4 (nI t) x2 x3 (nI p) (nI c.length) (nI b) (nI m) (nI e) (nI j) Bo false := by
  by_cases h1 : j < m
  · have hv := hB (c.length - e) (by omega)
    obtain ⟨B2, b1, b2, b3⟩ := m4c hJ hy ht (x2 := x2) (x3 := x3) (p := p) hb hb2 hm he (j + 1) h1 (c ++ [c.getD (c.length - e) 0]) (by simp; omega) (by simp; omega) _ (bt_app hB _)
    refine ⟨B2, ?_, (els_upd (by omega) _ _).trans b2, fun res Bo' U' hq => ?_⟩
    · rw [show m - j = (m - (j + 1)) + 1 by omega, cpy]; exact b1
    · rw [List.length_append, List.length_cons, List.length_nil] at b3
      rw [show c.length + (m - j) = c.length + (0 + 1) + (m - (j + 1)) by omega] at hq
      obtain ⟨q, hq⟩ := b3 res Bo' U' hq
      refine ⟨q + 1, ?_⟩
      rw [← Nat.add_sub_assoc hec] at hv
      simp (disch := omega) only [T_Model_unpack, S_Model_unpack, B_Model_unpack_133, hv, q_lit, le_T, le_F, lt_T, lt_F, eq_T, eq_F, m1_lt, m1_le, lt_m1, le_m1, eq_m1, m1_eq, nI_add, nI_sub, nI_dec, nI_mul, nI_or, nI_and, nI_div, nI_mod, and_255, and_31, and_1, and_63, nI_shl, nI_shr, bI_F, bI_1, vp_T, cl_T, true_implies, false_implies, not_true_eq_false, not_false_eq_true, true_and, and_true, false_and, and_false, Bool.false_eq_true, Bool.true_eq_false, reduceCtorEq, implies_true, q_lc_eq, q_lc_ge, q_lc_gt, q_lc_le, lN_or, lN_and, lN_shl, lN_shr, nI_L, lN_I, l_0]
      exact hq
  · refine ⟨Bo, by rw [show m - j = 0 by omega]; simpa [cpy] using hB, Els.refl _ _, fun res Bo' U' hq => ?_⟩
    obtain ⟨q, hq⟩ := hq
    refine ⟨q + 1, ?_⟩
    rw [show c.length + (m - j) = c.length by omega] at hq
    simp (disch := omega) only [T_Model_unpack, S_Model_unpack, B_Model_unpack_133, q_lit, le_T, le_F, lt_T, lt_F, eq_T, eq_F, m1_lt, m1_le, lt_m1, le_m1, eq_m1, m1_eq, nI_add, nI_sub, nI_dec, nI_mul, nI_or, nI_and, nI_div, nI_mod, and_255, and_31, and_1, and_63, nI_shl, nI_shr, bI_F, bI_1, vp_T, cl_T, true_implies, false_implies, not_true_eq_false, not_false_eq_true, true_and, and_true, false_and, and_false, Bool.false_eq_true, Bool.true_eq_false, reduceCtorEq, implies_true, q_lc_eq, q_lc_ge, q_lc_gt, q_lc_le, lN_or, lN_and, lN_shl, lN_shr, nI_L, lN_I, l_0]
    exact hq
termination_by m - j
decreasing_by all_goals omega
/-- what is behind a fault -/
theorem mu_bad {iC : Int32} {iE Le : Nat → Int32} (x1 x2 x3 x4 x5 : Int32) (Bo : Nat → Int32) : ∃ q, T_Model_unpack Le iC iE x4 Bo true q 0 x1 x2 x3 x4 x5 (nI 0) (nI 0) (nI 0) (nI 0) Bo true := by
  have st : T_Model_unpack Le iC iE x4 Bo true 1 6 x1 x2 x3 x4 x5 (nI 0) (nI 0) (nI 0) (nI 0) Bo true := by
    rw [T_Model_unpack]
    simp (disch := omega) only [S_Model_unpack, B_Model_unpack_234, q_lit, le_T, le_F, lt_T, lt_F, eq_T, eq_F, m1_lt, m1_le, lt_m1, le_m1, eq_m1, m1_eq, nI_add, nI_sub, nI_dec, nI_mul, nI_or, nI_and, nI_div, nI_mod, and_255, and_31, and_1, and_63, nI_shl, nI_shr, bI_F, bI_1, vp_T, cl_T, true_implies, false_implies, not_true_eq_false, not_false_eq_true, true_and, and_true, false_and, and_false, Bool.false_eq_true, Bool.true_eq_false, reduceCtorEq, implies_true]
  refine ⟨2, ?_⟩
  rw [T_Model_unpack]
  simp (disch := omega) only [S_Model_unpack, B_Model_unpack_6, q_lit, le_T, le_F, lt_T, lt_F, eq_T, eq_F, m1_lt, m1_le, lt_m1, le_m1, eq_m1, m1_eq, nI_add, nI_sub, nI_dec, nI_mul, nI_or, nI_and, nI_div, nI_mod, and_255, and_31, and_1, and_63, nI_shl, nI_shr, bI_F, bI_1, vp_T, cl_T, true_implies, false_implies, not_true_eq_false, not_false_eq_true, true_and, and_true, false_and, and_false, Bool.false_eq_true, Bool.true_eq_false, reduceCtorEq, implies_true]
  exact ⟨fun _ => st, fun _ => st⟩
theorem mu_3 {iC : Int32} {iE Le : Nat → Int32} {x1 x2 x3 x5 x8 : Int32} {p b m : Nat} (hp : p < 200000) (hb : b < 256) (hm : m < 1000) (Bo : Nat → Int32) {res : Int32} {Bo' : Nat → Int32} {U' : Bool} (h : ∃ q, T_Model_unpack Le iC iE res Bo' U' q 0 x1 x2 x3 (nI (if 128 ≤ b then p + 2 else p + 1 + m)) x5 (nI 0) (nI 0) (nI 0) (nI 0) Bo true) : ∃ q, T_Model_unpack Le iC iE res Bo' U' q 3 x1 x2 x3 (nI p) x5 (nI b) (nI m) x8 (nI 0) Bo true := by
  obtain ⟨q, hq⟩ := h
  have st5 : T_Model_unpack Le iC iE res Bo' U' (q + 1) 5 x1 x2 x3 (nI p) x5 (nI b) (nI m) (nI 0) (nI 0) Bo true := by
    rw [T_Model_unpack]
    by_cases h1 : 128 ≤ b
    · rw [if_pos h1] at hq
      simp (disch := omega) only [S_Model_unpack, B_Model_unpack_207, q_lit, le_T, le_F, lt_T, lt_F, eq_T, eq_F, m1_lt, m1_le, lt_m1, le_m1, eq_m1, m1_eq, nI_add, nI_sub, nI_dec, nI_mul, nI_or, nI_and, nI_div, nI_mod, and_255, and_31, and_1, and_63, nI_shl, nI_shr, bI_F, bI_1, vp_T, cl_T, true_implies, false_implies, not_true_eq_false, not_false_eq_true, true_and, and_true, false_and, and_false, Bool.false_eq_true, Bool.true_eq_false, reduceCtorEq, implies_true]
      exact hq
    · rw [if_neg h1] at hq
      simp (disch := omega) only [S_Model_unpack, B_Model_unpack_207, q_lit, le_T, le_F, lt_T, lt_F, eq_T, eq_F, m1_lt, m1_le, lt_m1, le_m1, eq_m1, m1_eq, nI_add, nI_sub, nI_dec, nI_mul, nI_or, nI_and, nI_div, nI_mod, and_255, and_31, and_1, and_63, nI_shl, nI_shr, bI_F, bI_1, vp_T, cl_T, true_implies, false_implies, not_true_eq_false, not_false_eq_true, true_and, and_true, false_and, and_false, Bool.false_eq_true, Bool.true_eq_false, reduceCtorEq, implies_true]
      exact hq
  refine ⟨q + 3, ?_⟩
  rw [T_Model_unpack]
  simp only [S_Model_unpack, B_Model_unpack_130]
  rw [T_Model_unpack]
  simp only [S_Model_unpack, B_Model_unpack_133, q_lit]
  simp (disch := omega) only [q_lit, le_T, le_F, lt_T, lt_F, eq_T, eq_F, m1_lt, m1_le, lt_m1, le_m1, eq_m1, m1_eq, nI_add, nI_sub, nI_dec, nI_mul, nI_or, nI_and, nI_div, nI_mod, and_255, and_31, and_1, and_63, nI_shl, nI_shr, bI_F, bI_1, vp_T, cl_T, true_implies, false_implies, not_true_eq_false, not_false_eq_true, true_and, and_true, false_and, and_false, Bool.false_eq_true, Bool.true_eq_false, reduceCtorEq, implies_true]
  exact ⟨fun _ => st5, fun _ => st5⟩
def upm (J : List Nat) (len f : Nat) : Nat → Nat → List Nat → Option (List Nat)
  | 0, _, _ => none
  | i + 1, p, c => if p < f then (match pcm J len p c with
    | none => none
    | some (p', c') => upm J len f i p' c') else (if c.length = len ∧ p = f then some c else none)
set_option maxRecDepth 100000 in
theorem mo_unp {J : List Nat} {iE : Nat → Int32} {iC : Int32} (hJ : Rw 8000 iE iC J) (hy : q_By J) {t : Nat} (ht : t < 10) {Le : Nat → Int32} {len : Nat} (hle : Le t = nI len) (hlen : len ≤ 255) {s w : Nat} (hs : s < 100000) (hw : w < 100000) (i : Nat) (p : Nat) (hp : p < 200000) (c : List Nat) (hcl : c.length ≤ len) (hi : len - c.length < i) (Bo : Nat → Int32) (hB : Bt t Bo c) :
    ∃ p' Bo' U', (∃ q, T_Model_unpack Le iC iE (nI p') Bo' U' q 0 (nI t) (nI s) (nI w) (nI p) (nI c.length) (nI 0) (nI 0) (nI 0) (nI 0) Bo false) ∧ p' < 300000 ∧ U' = (upm J len (s + w) i p c).isNone ∧ ∀ r, upm J len (s + w) i p c = some r → Bt t Bo' r ∧ Els t Bo Bo' ∧ p' = s + w := by
  have h8 := hJ.2.1
  cases i with
  | zero => omega
  | succ i =>
    rw [upm]
    by_cases h1 : p < s + w
    · rw [if_pos h1]
      -- a fault
      have bad : ∀ (x4 x5 : Nat) (B : Nat → Int32), x4 < 300000 → (∀ res Bo' U', (∃ q, T_Model_unpack Le iC iE res Bo' U' q 0 (nI t) (nI s) (nI w) (nI x4) (nI x5) (nI 0) (nI 0) (nI 0) (nI 0) B true) → ∃ q, T_Model_unpack Le iC iE res Bo' U' q 0 (nI t) (nI s) (nI w) (nI p) (nI c.length) (nI 0) (nI 0) (nI 0) (nI 0) Bo false) → ∃ p' Bo' U', (∃ q, T_Model_unpack Le iC iE (nI p') Bo' U' q 0 (nI t) (nI s) (nI w) (nI p) (nI c.length) (nI 0) (nI 0) (nI 0) (nI 0) Bo false) ∧ p' < 300000 ∧ U' = (none : Option (List Nat)).isNone ∧ ∀ r, (none : Option (List Nat)) = some r → Bt t Bo' r ∧ Els t Bo Bo' ∧ p' = s + w := by
        intro x4 x5 B h2 h3
        exact ⟨x4, B, true, h3 _ _ _ (mu_bad _ _ _ _ _ _), h2, rfl, fun r hr => by cases hr⟩
      unfold pcm
      by_cases h2 : J.length ≤ p
      · rw [if_pos h2]
        simp only
        have hby := mo_byteOut hJ h2 (by omega) false
        refine bad (p + 2) c.length Bo (by omega) (fun res Bo' U' hq => ?_)
        obtain ⟨q, hq⟩ := mu_3 (x8 := nI 0) (b := 0) (m := 1) hp (by omega) (by omega) Bo hq
        refine ⟨q + 3, ?_⟩
        rw [T_Model_unpack]
        simp (disch := omega) only [S_Model_unpack, B_Model_unpack_6, q_lit, le_T, le_F, lt_T, lt_F, eq_T, eq_F, m1_lt, m1_le, lt_m1, le_m1, eq_m1, m1_eq, nI_add, nI_sub, nI_dec, nI_mul, nI_or, nI_and, nI_div, nI_mod, and_255, and_31, and_1, and_63, nI_shl, nI_shr, bI_F, bI_1, vp_T, cl_T, true_implies, false_implies, not_true_eq_false, not_false_eq_true, true_and, and_true, false_and, and_false, Bool.false_eq_true, Bool.true_eq_false, reduceCtorEq, implies_true]
        refine ⟨_, _, hby, ?_⟩
        simp (disch := omega) only [T_Model_unpack, S_Model_unpack, B_Model_unpack_51, B_Model_unpack_73, q_lit, le_T, le_F, lt_T, lt_F, eq_T, eq_F, m1_lt, m1_le, lt_m1, le_m1, eq_m1, m1_eq, nI_add, nI_sub, nI_dec, nI_mul, nI_or, nI_and, nI_div, nI_mod, and_255, and_31, and_1, and_63, nI_shl, nI_shr, bI_F, bI_1, vp_T, cl_T, true_implies, false_implies, not_true_eq_false, not_false_eq_true, true_and, and_true, false_and, and_false, Bool.false_eq_true, Bool.true_eq_false, reduceCtorEq, implies_true]
        exact hq
      · rw [if_neg h2]
        have hv := hy.getD p
        have hby := mo_byteIn hJ (p := p) (by omega)
        by_cases hb : J.getD p 0 < 128
        · rw [if_pos hb]
          -- to label 2
          have pre : ∀ {res Bo' U'}, (∃ q, T_Model_unpack Le iC iE res Bo' U' q 2 (nI t) (nI s) (nI w) (nI p) (nI c.length) (nI (J.getD p 0)) (nI (J.getD p 0 + 1)) (nI 0) (nI 0) Bo false) → ∃ q, T_Model_unpack Le iC iE res Bo' U' q 0 (nI t) (nI s) (nI w) (nI p) (nI c.length) (nI 0) (nI 0) (nI 0) (nI 0) Bo false := by
            intro res Bo' U' hq
            obtain ⟨q, hq⟩ := hq
            refine ⟨q + 2, ?_⟩
            rw [T_Model_unpack]
            simp (disch := omega) only [S_Model_unpack, B_Model_unpack_6, q_lit, le_T, le_F, lt_T, lt_F, eq_T, eq_F, m1_lt, m1_le, lt_m1, le_m1, eq_m1, m1_eq, nI_add, nI_sub, nI_dec, nI_mul, nI_or, nI_and, nI_div, nI_mod, and_255, and_31, and_1, and_63, nI_shl, nI_shr, bI_F, bI_1, vp_T, cl_T, true_implies, false_implies, not_true_eq_false, not_false_eq_true, true_and, and_true, false_and, and_false, Bool.false_eq_true, Bool.true_eq_false, reduceCtorEq, implies_true]
            refine ⟨_, _, hby, ?_⟩
            simp (disch := omega) only [T_Model_unpack, S_Model_unpack, B_Model_unpack_51, q_lit, le_T, le_F, lt_T, lt_F, eq_T, eq_F, m1_lt, m1_le, lt_m1, le_m1, eq_m1, m1_eq, nI_add, nI_sub, nI_dec, nI_mul, nI_or, nI_and, nI_div, nI_mod, and_255, and_31, and_1, and_63, nI_shl, nI_shr, bI_F, bI_1, vp_T, cl_T, true_implies, false_implies, not_true_eq_false, not_false_eq_true, true_and, and_true, false_and, and_false, Bool.false_eq_true, Bool.true_eq_false, reduceCtorEq, implies_true]
            exact hq
          by_cases g1 : len < c.length + (J.getD p 0 + 1)
          · rw [if_pos (Or.inl g1)]
            simp only
            refine bad (p + 1 + (J.getD p 0 + 1)) c.length Bo (by omega) (fun res Bo' U' hq => pre ?_)
            obtain ⟨q, hq⟩ := mu_3 (x8 := nI 0) (b := J.getD p 0) (m := J.getD p 0 + 1) hp (by omega) (by omega) Bo (by rw [if_neg (by omega)]; exact hq)
            refine ⟨q + 1, ?_⟩
            rw [T_Model_unpack]
            simp (disch := omega) only [S_Model_unpack, B_Model_unpack_73, hle, q_lit, le_T, le_F, lt_T, lt_F, eq_T, eq_F, m1_lt, m1_le, lt_m1, le_m1, eq_m1, m1_eq, nI_add, nI_sub, nI_dec, nI_mul, nI_or, nI_and, nI_div, nI_mod, and_255, and_31, and_1, and_63, nI_shl, nI_shr, bI_F, bI_1, vp_T, cl_T, true_implies, false_implies, not_true_eq_false, not_false_eq_true, true_and, and_true, false_and, and_false, Bool.false_eq_true, Bool.true_eq_false, reduceCtorEq, implies_true]
            exact hq
          · have pre4 : ∀ {res Bo' U'}, (∃ q, T_Model_unpack Le iC iE res Bo' U' q 4 (nI t) (nI s) (nI w) (nI p) (nI c.length) (nI (J.getD p 0)) (nI (J.getD p 0 + 1)) (nI 0) (nI 0) Bo false) → ∃ q, T_Model_unpack Le iC iE res Bo' U' q 0 (nI t) (nI s) (nI w) (nI p) (nI c.length) (nI 0) (nI 0) (nI 0) (nI 0) Bo false := by
              intro res Bo' U' hq
              obtain ⟨q, hq⟩ := hq
              refine pre ⟨q + 2, ?_⟩
              rw [T_Model_unpack]
              simp (disch := omega) only [S_Model_unpack, B_Model_unpack_73, hle, q_lit, le_T, le_F, lt_T, lt_F, eq_T, eq_F, m1_lt, m1_le, lt_m1, le_m1, eq_m1, m1_eq, nI_add, nI_sub, nI_dec, nI_mul, nI_or, nI_and, nI_div, nI_mod, and_255, and_31, and_1, and_63, nI_shl, nI_shr, bI_F, bI_1, vp_T, cl_T, true_implies, false_implies, not_true_eq_false, not_false_eq_true, true_and, and_true, false_and, and_false, Bool.false_eq_true, Bool.true_eq_false, reduceCtorEq, implies_true]
              simp (disch := omega) only [T_Model_unpack, S_Model_unpack, B_Model_unpack_130, q_lit, le_T, le_F, lt_T, lt_F, eq_T, eq_F, m1_lt, m1_le, lt_m1, le_m1, eq_m1, m1_eq, nI_add, nI_sub, nI_dec, nI_mul, nI_or, nI_and, nI_div, nI_mod, and_255, and_31, and_1, and_63, nI_shl, nI_shr, bI_F, bI_1, vp_T, cl_T, true_implies, false_implies, not_true_eq_false, not_false_eq_true, true_and, and_true, false_and, and_false, Bool.false_eq_true, Bool.true_eq_false, reduceCtorEq, implies_true]
              exact hq
            have post : ∀ {res Bo' U'} (B : Nat → Int32) (V : Bool) (n : Nat), (∃ q, T_Model_unpack Le iC iE res Bo' U' q 0 (nI t) (nI s) (nI w) (nI (p + 1 + (J.getD p 0 + 1))) (nI n) (nI 0) (nI 0) (nI 0) (nI 0) B V) → ∃ q, T_Model_unpack Le iC iE res Bo' U' q 5 (nI t) (nI s) (nI w) (nI p) (nI n) (nI (J.getD p 0)) (nI (J.getD p 0 + 1)) (nI 0) (nI 0) B V := by
              intro res Bo' U' B V n hq
              obtain ⟨q, hq⟩ := hq
              refine ⟨q + 1, ?_⟩
              rw [T_Model_unpack]
              simp (disch := omega) only [S_Model_unpack, B_Model_unpack_207, q_lit, le_T, le_F, lt_T, lt_F, eq_T, eq_F, m1_lt, m1_le, lt_m1, le_m1, eq_m1, m1_eq, nI_add, nI_sub, nI_dec, nI_mul, nI_or, nI_and, nI_div, nI_mod, and_255, and_31, and_1, and_63, nI_shl, nI_shr, bI_F, bI_1, vp_T, cl_T, true_implies, false_implies, not_true_eq_false, not_false_eq_true, true_and, and_true, false_and, and_false, Bool.false_eq_true, Bool.true_eq_false, reduceCtorEq, implies_true]
              exact hq
            by_cases g2 : J.length < p + 1 + (J.getD p 0 + 1)
            · rw [if_pos (Or.inr g2)]
              simp only
              obtain ⟨B2, n2, hn2, b3⟩ := m4x hJ hy ht (Le := Le) (x2 := nI s) (x3 := nI w) (x8 := nI 0) (by omega) hb (by omega) g2 0 (by omega) (by omega) c.length (by omega) Bo
              exact bad (p + 1 + (J.getD p 0 + 1)) n2 B2 (by omega) (fun res Bo' U' hq => pre4 (b3 _ _ _ (post _ _ _ hq)))
            · rw [if_neg (by omega)]
              simp only
              obtain ⟨B2, b1, b2, b3⟩ := m4p hJ hy ht (Le := Le) (x2 := nI s) (x3 := nI w) (x8 := nI 0) (p := p) (b := J.getD p 0) hb (m := J.getD p 0 + 1) (by omega) (by omega) 0 (by omega) c (by omega) Bo hB
              simp only [Nat.add_zero, Nat.sub_zero] at b1 b3
              have hln : (c ++ seg J (p + 1) (J.getD p 0 + 1)).length = c.length + (J.getD p 0 + 1) := by rw [List.length_append, seg_len]
              obtain ⟨p', Bo', U', c1, c2, c3, c4⟩ := mo_unp hJ hy ht hle hlen hs hw i (p + 1 + (J.getD p 0 + 1)) (by omega) (c ++ seg J (p + 1) (J.getD p 0 + 1)) (by omega) (by omega) B2 b1
              rw [hln] at c1
              exact ⟨p', Bo', U', pre4 (b3 _ _ _ (post _ _ _ c1)), c2, c3, fun r hr => ⟨(c4 r hr).1, b2.trans (c4 r hr).2.1, (c4 r hr).2.2⟩⟩
        · rw [if_neg hb]
          by_cases g0 : J.length ≤ p + 1
          · rw [if_pos (Or.inl g0)]
            simp only
            have hby2 := mo_byteOut hJ g0 (by omega) false
            refine bad (p + 2) c.length Bo (by omega) (fun res Bo' U' hq => ?_)
            obtain ⟨q, hq⟩ := mu_3 (x8 := nI 0) (b := J.getD p 0) (m := J.getD p 0 - 125) hp (by omega) (by omega) Bo (by rw [if_pos (by omega)]; exact hq)
            refine ⟨q + 3, ?_⟩
            rw [T_Model_unpack]
            simp (disch := omega) only [S_Model_unpack, B_Model_unpack_6, q_lit, le_T, le_F, lt_T, lt_F, eq_T, eq_F, m1_lt, m1_le, lt_m1, le_m1, eq_m1, m1_eq, nI_add, nI_sub, nI_dec, nI_mul, nI_or, nI_and, nI_div, nI_mod, and_255, and_31, and_1, and_63, nI_shl, nI_shr, bI_F, bI_1, vp_T, cl_T, true_implies, false_implies, not_true_eq_false, not_false_eq_true, true_and, and_true, false_and, and_false, Bool.false_eq_true, Bool.true_eq_false, reduceCtorEq, implies_true]
            refine ⟨_, _, hby, ?_⟩
            simp (disch := omega) only [T_Model_unpack, S_Model_unpack, B_Model_unpack_51, q_lit, le_T, le_F, lt_T, lt_F, eq_T, eq_F, m1_lt, m1_le, lt_m1, le_m1, eq_m1, m1_eq, nI_add, nI_sub, nI_dec, nI_mul, nI_or, nI_and, nI_div, nI_mod, and_255, and_31, and_1, and_63, nI_shl, nI_shr, bI_F, bI_1, vp_T, cl_T, true_implies, false_implies, not_true_eq_false, not_false_eq_true, true_and, and_true, false_and, and_false, Bool.false_eq_true, Bool.true_eq_false, reduceCtorEq, implies_true]
            refine ⟨_, _, hby2, ?_⟩
            simp (disch := omega) only [S_Model_unpack, B_Model_unpack_73, q_lit, le_T, le_F, lt_T, lt_F, eq_T, eq_F, m1_lt, m1_le, lt_m1, le_m1, eq_m1, m1_eq, nI_add, nI_sub, nI_dec, nI_mul, nI_or, nI_and, nI_div, nI_mod, and_255, and_31, and_1, and_63, nI_shl, nI_shr, bI_F, bI_1, vp_T, cl_T, true_implies, false_implies, not_true_eq_false, not_false_eq_true, true_and, and_true, false_and, and_false, Bool.false_eq_true, Bool.true_eq_false, reduceCtorEq, implies_true]
            exact hq
          · have hby2 := mo_byteIn hJ (p := p + 1) (by omega)
            have hv2 := hy.getD (p + 1)
            have pre : ∀ {res Bo' U'}, (∃ q, T_Model_unpack Le iC iE res Bo' U' q 2 (nI t) (nI s) (nI w) (nI p) (nI c.length) (nI (J.getD p 0)) (nI (J.getD p 0 - 125)) (nI (J.getD (p + 1) 0)) (nI 0) Bo false) → ∃ q, T_Model_unpack Le iC iE res Bo' U' q 0 (nI t) (nI s) (nI w) (nI p) (nI c.length) (nI 0) (nI 0) (nI 0) (nI 0) Bo false := by
              intro res Bo' U' hq
              obtain ⟨q, hq⟩ := hq
              refine ⟨q + 2, ?_⟩
              rw [T_Model_unpack]
              simp (disch := omega) only [S_Model_unpack, B_Model_unpack_6, q_lit, le_T, le_F, lt_T, lt_F, eq_T, eq_F, m1_lt, m1_le, lt_m1, le_m1, eq_m1, m1_eq, nI_add, nI_sub, nI_dec, nI_mul, nI_or, nI_and, nI_div, nI_mod, and_255, and_31, and_1, and_63, nI_shl, nI_shr, bI_F, bI_1, vp_T, cl_T, true_implies, false_implies, not_true_eq_false, not_false_eq_true, true_and, and_true, false_and, and_false, Bool.false_eq_true, Bool.true_eq_false, reduceCtorEq, implies_true]
              refine ⟨_, _, hby, ?_⟩
              simp (disch := omega) only [T_Model_unpack, S_Model_unpack, B_Model_unpack_51, q_lit, le_T, le_F, lt_T, lt_F, eq_T, eq_F, m1_lt, m1_le, lt_m1, le_m1, eq_m1, m1_eq, nI_add, nI_sub, nI_dec, nI_mul, nI_or, nI_and, nI_div, nI_mod, and_255, and_31, and_1, and_63, nI_shl, nI_shr, bI_F, bI_1, vp_T, cl_T, true_implies, false_implies, not_true_eq_false, not_false_eq_true, true_and, and_true, false_and, and_false, Bool.false_eq_true, Bool.true_eq_false, reduceCtorEq, implies_true]
              exact ⟨_, _, hby2, hq⟩
            by_cases g1 : len < c.length + (J.getD p 0 - 125) ∨ 188 < J.getD p 0 ∨ J.getD (p + 1) 0 = 0 ∨ c.length < J.getD (p + 1) 0
            · rw [if_pos (Or.inr g1)]
              simp only
              refine bad (p + 2) c.length Bo (by omega) (fun res Bo' U' hq => pre ?_)
              obtain ⟨q, hq⟩ := mu_3 (x8 := nI (J.getD (p + 1) 0)) (b := J.getD p 0) (m := J.getD p 0 - 125) hp (by omega) (by omega) Bo (by rw [if_pos (by omega)]; exact hq)
              refine ⟨q + 1, ?_⟩
              rw [T_Model_unpack]
              by_cases k1 : len < c.length + (J.getD p 0 - 125)
              · simp (disch := omega) only [S_Model_unpack, B_Model_unpack_73, hle, q_lit, le_T, le_F, lt_T, lt_F, eq_T, eq_F, m1_lt, m1_le, lt_m1, le_m1, eq_m1, m1_eq, nI_add, nI_sub, nI_dec, nI_mul, nI_or, nI_and, nI_div, nI_mod, and_255, and_31, and_1, and_63, nI_shl, nI_shr, bI_F, bI_1, vp_T, cl_T, true_implies, false_implies, not_true_eq_false, not_false_eq_true, true_and, and_true, false_and, and_false, Bool.false_eq_true, Bool.true_eq_false, reduceCtorEq, implies_true]
                exact hq
              · by_cases k2 : 188 < J.getD p 0
                · simp (disch := omega) only [S_Model_unpack, B_Model_unpack_73, hle, q_lit, le_T, le_F, lt_T, lt_F, eq_T, eq_F, m1_lt, m1_le, lt_m1, le_m1, eq_m1, m1_eq, nI_add, nI_sub, nI_dec, nI_mul, nI_or, nI_and, nI_div, nI_mod, and_255, and_31, and_1, and_63, nI_shl, nI_shr, bI_F, bI_1, vp_T, cl_T, true_implies, false_implies, not_true_eq_false, not_false_eq_true, true_and, and_true, false_and, and_false, Bool.false_eq_true, Bool.true_eq_false, reduceCtorEq, implies_true]
                  exact hq
                · by_cases k3 : J.getD (p + 1) 0 = 0
                  · simp (disch := omega) only [S_Model_unpack, B_Model_unpack_73, hle, q_lit, le_T, le_F, lt_T, lt_F, eq_T, eq_F, m1_lt, m1_le, lt_m1, le_m1, eq_m1, m1_eq, nI_add, nI_sub, nI_dec, nI_mul, nI_or, nI_and, nI_div, nI_mod, and_255, and_31, and_1, and_63, nI_shl, nI_shr, bI_F, bI_1, vp_T, cl_T, true_implies, false_implies, not_true_eq_false, not_false_eq_true, true_and, and_true, false_and, and_false, Bool.false_eq_true, Bool.true_eq_false, reduceCtorEq, implies_true]
                    exact hq
                  · simp (disch := omega) only [S_Model_unpack, B_Model_unpack_73, hle, q_lit, le_T, le_F, lt_T, lt_F, eq_T, eq_F, m1_lt, m1_le, lt_m1, le_m1, eq_m1, m1_eq, nI_add, nI_sub, nI_dec, nI_mul, nI_or, nI_and, nI_div, nI_mod, and_255, and_31, and_1, and_63, nI_shl, nI_shr, bI_F, bI_1, vp_T, cl_T, true_implies, false_implies, not_true_eq_false, not_false_eq_true, true_and, and_true, false_and, and_false, Bool.false_eq_true, Bool.true_eq_false, reduceCtorEq, implies_true]
                    exact hq
            · rw [if_neg (by omega)]
              simp only
              obtain ⟨B2, b1, b2, b3⟩ := m4c hJ hy ht (Le := Le) (x2 := nI s) (x3 := nI w) (p := p) (b := J.getD p 0) (m := J.getD p 0 - 125) (e := J.getD (p + 1) 0) (by omega) (by omega) (by omega) (by omega) 0 (by omega) c (by omega) (by omega) Bo hB
              simp only [Nat.sub_zero] at b1 b3
              have hln : (cpy c (J.getD (p + 1) 0) (J.getD p 0 - 125)).length = c.length + (J.getD p 0 - 125) := cpy_len _ _ _
              obtain ⟨p', Bo', U', c1, c2, c3, c4⟩ := mo_unp hJ hy ht hle hlen hs hw i (p + 2) (by omega) (cpy c (J.getD (p + 1) 0) (J.getD p 0 - 125)) (by omega) (by omega) B2 b1
              rw [hln] at c1
              refine ⟨p', Bo', U', pre ?_, c2, c3, fun r hr => ⟨(c4 r hr).1, b2.trans (c4 r hr).2.1, (c4 r hr).2.2⟩⟩
              obtain ⟨q, hq⟩ := c1
              obtain ⟨q2, hq2⟩ := b3 _ _ _ ⟨q + 1, by
                rw [T_Model_unpack]
                simp (disch := omega) only [S_Model_unpack, B_Model_unpack_207, q_lit, le_T, le_F, lt_T, lt_F, eq_T, eq_F, m1_lt, m1_le, lt_m1, le_m1, eq_m1, m1_eq, nI_add, nI_sub, nI_dec, nI_mul, nI_or, nI_and, nI_div, nI_mod, and_255, and_31, and_1, and_63, nI_shl, nI_shr, bI_F, bI_1, vp_T, cl_T, true_implies, false_implies, not_true_eq_false, not_false_eq_true, true_and, and_true, false_and, and_false, Bool.false_eq_true, Bool.true_eq_false, reduceCtorEq, implies_true]
                exact hq⟩
              refine ⟨q2 + 2, ?_⟩
              rw [T_Model_unpack]
              simp (disch := omega) only [S_Model_unpack, B_Model_unpack_73, hle, q_lit, le_T, le_F, lt_T, lt_F, eq_T, eq_F, m1_lt, m1_le, lt_m1, le_m1, eq_m1, m1_eq, nI_add, nI_sub, nI_dec, nI_mul, nI_or, nI_and, nI_div, nI_mod, and_255, and_31, and_1, and_63, nI_shl, nI_shr, bI_F, bI_1, vp_T, cl_T, true_implies, false_implies, not_true_eq_false, not_false_eq_true, true_and, and_true, false_and, and_false, Bool.false_eq_true, Bool.true_eq_false, reduceCtorEq, implies_true]
              simp (disch := omega) only [T_Model_unpack, S_Model_unpack, B_Model_unpack_130, q_lit, le_T, le_F, lt_T, lt_F, eq_T, eq_F, m1_lt, m1_le, lt_m1, le_m1, eq_m1, m1_eq, nI_add, nI_sub, nI_dec, nI_mul, nI_or, nI_and, nI_div, nI_mod, and_255, and_31, and_1, and_63, nI_shl, nI_shr, bI_F, bI_1, vp_T, cl_T, true_implies, false_implies, not_true_eq_false, not_false_eq_true, true_and, and_true, false_and, and_false, Bool.false_eq_true, Bool.true_eq_false, reduceCtorEq, implies_true]
              exact hq2
    · rw [if_neg h1]
      by_cases h2 : c.length = len ∧ p = s + w
      · rw [if_pos h2]
        obtain ⟨h2, h3⟩ := h2
        refine ⟨p, Bo, false, ⟨2, ?_⟩, by omega, rfl, fun r hr => by simp only [Option.some.injEq] at hr; subst hr; exact ⟨hB, Els.refl _ _, h3⟩⟩
        rw [T_Model_unpack]
        simp (disch := omega) only [S_Model_unpack, B_Model_unpack_6, q_lit, le_T, le_F, lt_T, lt_F, eq_T, eq_F, m1_lt, m1_le, lt_m1, le_m1, eq_m1, m1_eq, nI_add, nI_sub, nI_dec, nI_mul, nI_or, nI_and, nI_div, nI_mod, and_255, and_31, and_1, and_63, nI_shl, nI_shr, bI_F, bI_1, vp_T, cl_T, true_implies, false_implies, not_true_eq_false, not_false_eq_true, true_and, and_true, false_and, and_false, Bool.false_eq_true, Bool.true_eq_false, reduceCtorEq, implies_true]
        simp (disch := omega) only [T_Model_unpack, S_Model_unpack, B_Model_unpack_234, hle, q_lit, le_T, le_F, lt_T, lt_F, eq_T, eq_F, m1_lt, m1_le, lt_m1, le_m1, eq_m1, m1_eq, nI_add, nI_sub, nI_dec, nI_mul, nI_or, nI_and, nI_div, nI_mod, and_255, and_31, and_1, and_63, nI_shl, nI_shr, bI_F, bI_1, vp_T, cl_T, true_implies, false_implies, not_true_eq_false, not_false_eq_true, true_and, and_true, false_and, and_false, Bool.false_eq_true, Bool.true_eq_false, reduceCtorEq, implies_true]
      · rw [if_neg h2]
        refine ⟨p, Bo, true, ⟨2, ?_⟩, by omega, rfl, fun r hr => by cases hr⟩
        rw [T_Model_unpack]
        simp (disch := omega) only [S_Model_unpack, B_Model_unpack_6, q_lit, le_T, le_F, lt_T, lt_F, eq_T, eq_F, m1_lt, m1_le, lt_m1, le_m1, eq_m1, m1_eq, nI_add, nI_sub, nI_dec, nI_mul, nI_or, nI_and, nI_div, nI_mod, and_255, and_31, and_1, and_63, nI_shl, nI_shr, bI_F, bI_1, vp_T, cl_T, true_implies, false_implies, not_true_eq_false, not_false_eq_true, true_and, and_true, false_and, and_false, Bool.false_eq_true, Bool.true_eq_false, reduceCtorEq, implies_true]
        by_cases h3 : c.length = len
        · simp (disch := omega) only [T_Model_unpack, S_Model_unpack, B_Model_unpack_234, hle, q_lit, le_T, le_F, lt_T, lt_F, eq_T, eq_F, m1_lt, m1_le, lt_m1, le_m1, eq_m1, m1_eq, nI_add, nI_sub, nI_dec, nI_mul, nI_or, nI_and, nI_div, nI_mod, and_255, and_31, and_1, and_63, nI_shl, nI_shr, bI_F, bI_1, vp_T, cl_T, true_implies, false_implies, not_true_eq_false, not_false_eq_true, true_and, and_true, false_and, and_false, Bool.false_eq_true, Bool.true_eq_false, reduceCtorEq, implies_true]
        · simp (disch := omega) only [T_Model_unpack, S_Model_unpack, B_Model_unpack_234, hle, q_lit, le_T, le_F, lt_T, lt_F, eq_T, eq_F, m1_lt, m1_le, lt_m1, le_m1, eq_m1, m1_eq, nI_add, nI_sub, nI_dec, nI_mul, nI_or, nI_and, nI_div, nI_mod, and_255, and_31, and_1, and_63, nI_shl, nI_shr, bI_F, bI_1, vp_T, cl_T, true_implies, false_implies, not_true_eq_false, not_false_eq_true, true_and, and_true, false_and, and_false, Bool.false_eq_true, Bool.true_eq_false, reduceCtorEq, implies_true]
