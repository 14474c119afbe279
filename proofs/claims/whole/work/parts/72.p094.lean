/-! Pure: the reference reads a text. -/
abbrev q_MM : Type := Int32 × Int32 × Int32 × (Nat → Int32) × (Nat → Int32) × (Nat → Int32) × (Nat → Int32) × Int32 × (Nat → Int32) × (Nat → Int32) × (Nat → Int32) × Int32 × (Nat → Int32) × (Nat → Int32) × (Nat → Int32) × (Nat → Int32) × Bool × Bool × Bool × Int32 × Int32 × (Nat → Int32)
def lkT (k : q_Lk) : Int32 := if k.2.2.2.2 < 255 then nI (255 * k.2.2.2.1 + k.2.2.2.2) else -nI 1
def ML (L : List Nat) (m : q_MM) (a : q_Cs) : Prop := m.2.2.2.2.2.2.2.2.2.2.2.1 = nI a.2.2.2.2.1.length ∧ a.2.2.2.2.1.length ≤ 234 ∧ ∀ i, i < a.2.2.2.2.1.length → m.2.2.2.2.2.2.2.2.2.2.2.2.1 i = nI (a.2.2.2.2.1.getD i lk0).1 ∧ m.2.2.2.2.2.2.2.2.2.2.2.2.2.1 i = nI (a.2.2.2.2.1.getD i lk0).2.1 ∧ m.2.2.2.2.2.2.2.2.2.2.2.2.2.2.1 i = nI (a.2.2.2.2.1.getD i lk0).2.2.1 ∧ m.2.2.2.2.2.2.2.2.2.2.2.2.2.2.2.1 i = lkT (a.2.2.2.2.1.getD i lk0) ∧ (a.2.2.2.2.1.getD i lk0).2.2.2.1 < a.2.1.length ∧ (a.2.2.2.2.1.getD i lk0).2.2.2.2 < (bd a.2.1 (a.2.2.2.2.1.getD i lk0).2.2.2.1).length ∧ (a.2.2.2.2.1.getD i lk0).1 + (a.2.2.2.2.1.getD i lk0).2.1 ≤ L.length
def MI (L : List Nat) (m : q_MM) (a : q_Cs) : Prop := m.2.1 = nI 0 ∧ a.2.2.2.2.2.1 = 0 ∧ m.1 = -nI 1 ∧ m.2.2.1 = nI a.2.1.length ∧ a.1.length = a.2.1.length ∧ a.2.2.1.length = a.2.1.length ∧ MBo m.2.2.2.2.1 m.2.2.2.2.2.1 a.2.1 ∧ q_MN m.2.2.2.1 a.1 ∧ (∀ t, t < a.2.1.length → m.2.2.2.2.2.2.1 t = nI (a.2.2.1.getD t 0)) ∧ MW 8 250 m.2.2.2.2.2.2.2.2.1 m.2.2.2.2.2.2.2.2.2.1 m.2.2.2.2.2.2.2.2.2.2.1 m.2.2.2.2.2.2.2.1 a.2.2.2.1 ∧ ML L m a ∧ m.2.2.2.2.2.2.2.2.2.2.2.2.2.2.2.2.1 = a.2.2.2.2.2.2.2.1 ∧ m.2.2.2.2.2.2.2.2.2.2.2.2.2.2.2.2.2.1 = a.2.2.2.2.2.2.2.2.1 ∧ (a.2.2.2.2.2.2.2.1 = true → a.2.1 ≠ []) ∧ (a.2.2.2.2.2.2.2.1 = false → a.2.2.2.2.2.2.2.2.1 = false)
theorem ML.grow {L : List Nat} {m m' : q_MM} {a a' : q_Cs} (h : ML L m a) (hne : a.2.1 ≠ []) {x : Nat} (e1 : a'.2.1 = q_addB a.2.1 x) (e2 : a'.2.2.2.2.1 = a.2.2.2.2.1) (e3 : m'.2.2.2.2.2.2.2.2.2.2.2.1 = m.2.2.2.2.2.2.2.2.2.2.2.1) (e4 : m'.2.2.2.2.2.2.2.2.2.2.2.2.1 = m.2.2.2.2.2.2.2.2.2.2.2.2.1) (e5 : m'.2.2.2.2.2.2.2.2.2.2.2.2.2.1 = m.2.2.2.2.2.2.2.2.2.2.2.2.2.1) (e6 : m'.2.2.2.2.2.2.2.2.2.2.2.2.2.2.1 = m.2.2.2.2.2.2.2.2.2.2.2.2.2.2.1) (e7 : m'.2.2.2.2.2.2.2.2.2.2.2.2.2.2.2.1 = m.2.2.2.2.2.2.2.2.2.2.2.2.2.2.2.1) : ML L m' a' := by
  obtain ⟨h1, h2, h3⟩ := h
  unfold ML
  rw [e1, e2, e3, e4, e5, e6, e7]
  refine ⟨h1, h2, fun i hi => ?_⟩
  obtain ⟨b1, b2, b3, b4, b5, b6, b7⟩ := h3 i hi
  have := addB_bd_le hne x b5
  exact ⟨b1, b2, b3, b4, by rw [addB_len hne]; exact b5, by omega, b7⟩
theorem mo_sign {m : q_MM} {a : q_Cs} (hT : m.2.2.1 = nI a.2.1.length) (hB : MBo m.2.2.2.2.1 m.2.2.2.2.2.1 a.2.1) (hne : a.2.1 ≠ []) (hl : a.2.1.flatten.length < 2548) (hI : m.2.2.2.2.2.2.2.2.2.2.2.2.2.2.2.2.1 = a.2.2.2.2.2.2.2.1) (hdue : (m.2.2.2.2.2.2.2.2.2.2.2.2.2.2.2.2.2.2.1 && a.2.2.2.2.2.2.2.1) = a.2.2.2.2.2.2.2.2.2.1) (x ln : Nat) : ∃ Bo' Le', D_Model_addSign (nI x) (nI ln) m.2.2.1 m.2.2.2.2.1 m.2.2.2.2.2.1 m.2.2.2.2.2.2.2.2.2.2.2.2.2.2.2.2.1 m.2.2.2.2.2.2.2.2.2.2.2.2.2.2.2.2.2.2.1 m.2.2.2.2.2.2.2.2.2.2.2.2.2.2.2.2.2.2.2.1 Bo' Le' true false (nI ln) ∧ MBo Bo' Le' (q_addB (dueB a).2.1 x) := by
  have hl1 := dueB_len hne
  have q_fin : ∀ (Bo Le : Nat → Int32) (bs : List (List Nat)), MBo Bo Le bs → bs ≠ [] → bs.flatten.length < 2550 → bs.length = a.2.1.length → ∃ Bo' Le', T_Model_addSign m.2.2.1 Bo' Le' true false (nI ln) 1 (nI x) (nI ln) Bo Le m.2.2.2.2.2.2.2.2.2.2.2.2.2.2.2.2.1 m.2.2.2.2.2.2.2.2.2.2.2.2.2.2.2.2.2.2.1 m.2.2.2.2.2.2.2.2.2.2.2.2.2.2.2.2.2.2.2.1 ∧ MBo Bo' Le' (q_addB bs x) := by
    intro Bo Le bs h1 h2 h3 h4
    obtain ⟨Bo', Le', b1, b2⟩ := mo_byte h1 h2 h3 x
    refine ⟨Bo', Le', ?_, b2⟩
    simp (disch := omega) only [T_Model_addSign, S_Model_addSign, B_Model_addSign_20, q_lit, le_T, le_F, lt_T, lt_F, eq_T, eq_F, m1_lt, m1_le, lt_m1, le_m1, eq_m1, m1_eq, nI_add, nI_sub, nI_dec, nI_mul, nI_or, nI_and, nI_div, nI_mod, and_255, and_31, and_1, and_63, nI_shl, nI_shr, bI_F, bI_1, vp_T, cl_T, true_implies, false_implies, not_true_eq_false, not_false_eq_true, true_and, and_true, false_and, and_false, Bool.false_eq_true, Bool.true_eq_false, reduceCtorEq, implies_true, q_lc_eq, q_lc_ge, q_lc_gt, q_lc_le, lN_or, lN_and, lN_shl, lN_shr, nI_L, lN_I, l_0]
    exact ⟨Bo', Le', by rw [hT, ← h4]; exact b1, rfl, rfl⟩
  cases hb : m.2.2.2.2.2.2.2.2.2.2.2.2.2.2.2.2.2.2.1 with
  | false =>
    rw [hb, Bool.false_and] at hdue
    obtain ⟨Bo', Le', b1, b2⟩ := q_fin m.2.2.2.2.1 m.2.2.2.2.2.1 a.2.1 hB hne (by omega) rfl
    rw [hb] at b1
    refine ⟨Bo', Le', ⟨1, ?_⟩, by simp only [dueB, ← hdue, Bool.false_eq_true, if_false]; exact b2⟩
    simp (disch := omega) only [q_lit, le_T, le_F, lt_T, lt_F, eq_T, eq_F, m1_lt, m1_le, lt_m1, le_m1, eq_m1, m1_eq, nI_add, nI_sub, nI_dec, nI_mul, nI_or, nI_and, nI_div, nI_mod, and_255, and_31, and_1, and_63, nI_shl, nI_shr, bI_F, bI_1, vp_T, cl_T, true_implies, false_implies, not_true_eq_false, not_false_eq_true, true_and, and_true, false_and, and_false, Bool.false_eq_true, Bool.true_eq_false, reduceCtorEq, implies_true]
    exact b1
  | true =>
    rw [hb, Bool.true_and] at hdue
    cases hi : a.2.2.2.2.2.2.2.1 with
    | false =>
      rw [hi] at hdue hI
      obtain ⟨Bo', Le', b1, b2⟩ := q_fin m.2.2.2.2.1 m.2.2.2.2.2.1 a.2.1 hB hne (by omega) rfl
      rw [hb, hI] at b1
      refine ⟨Bo', Le', ⟨1, ?_⟩, by simp only [dueB, ← hdue, Bool.false_eq_true, if_false]; exact b2⟩
      rw [hI]
      simp (disch := omega) only [q_lit, le_T, le_F, lt_T, lt_F, eq_T, eq_F, m1_lt, m1_le, lt_m1, le_m1, eq_m1, m1_eq, nI_add, nI_sub, nI_dec, nI_mul, nI_or, nI_and, nI_div, nI_mod, and_255, and_31, and_1, and_63, nI_shl, nI_shr, bI_F, bI_1, vp_T, cl_T, true_implies, false_implies, not_true_eq_false, not_false_eq_true, true_and, and_true, false_and, and_false, Bool.false_eq_true, Bool.true_eq_false, reduceCtorEq, implies_true]
      exact b1
    | true =>
      rw [hi] at hdue hI
      obtain ⟨Bo1, Le1, c1, c2⟩ := mo_byte hB hne (by omega) 32
      obtain ⟨Bo', Le', b1, b2⟩ := q_fin Bo1 Le1 (q_addB a.2.1 32) c2 (addB_ne _ _) (by rw [addB_flat hne]; simp only [List.length_append, List.length_cons, List.length_nil]; omega) (addB_len hne _)
      rw [hb, hI] at b1
      refine ⟨Bo', Le', ⟨1, ?_⟩, by simp only [dueB, ← hdue, if_true]; exact b2⟩
      rw [hI]
      simp (disch := omega) only [q_lit, le_T, le_F, lt_T, lt_F, eq_T, eq_F, m1_lt, m1_le, lt_m1, le_m1, eq_m1, m1_eq, nI_add, nI_sub, nI_dec, nI_mul, nI_or, nI_and, nI_div, nI_mod, and_255, and_31, and_1, and_63, nI_shl, nI_shr, bI_F, bI_1, vp_T, cl_T, true_implies, false_implies, not_true_eq_false, not_false_eq_true, true_and, and_true, false_and, and_false, Bool.false_eq_true, Bool.true_eq_false, reduceCtorEq, implies_true]
      exact ⟨Bo1, Le1, by rw [hT]; exact c1, b1⟩
def smE (L : List Nat) (k f : Nat) : Nat := if k < f ∧ isSm (L.getD k 0) = true then smE L (k + 1) f else k
termination_by f - k
decreasing_by all_goals omega
theorem smE_ge (L : List Nat) (k f : Nat) : k ≤ smE L k f := by
  rw [smE]; split
  · have := smE_ge L (k + 1) f; omega
  · omega
termination_by f - k
decreasing_by all_goals omega
theorem smE_le {L : List Nat} {k f : Nat} (h : k ≤ f) : smE L k f ≤ f := by
  rw [smE]; split
  · exact smE_le (by omega)
  · exact h
termination_by f - k
decreasing_by all_goals omega
theorem smAll_end {L : List Nat} {k e : Nat} : smAll L k (smE L k e) = true := by
  rw [smE]
  by_cases h : k < e ∧ isSm (L.getD k 0) = true
  · rw [if_pos h]
    have := smE_ge L (k + 1) e
    rw [smAll_step (by omega), h.2, Bool.true_and]
    exact smAll_end
  · rw [if_neg h]; exact smAll_stop (Nat.le_refl _)
termination_by e - k
decreasing_by all_goals omega
theorem smE_eq {L : List Nat} {k e f : Nat} (h : smAll L k e = true) (hk : k ≤ e) (he : e < f) (h2 : isSm (L.getD e 0) = false) : smE L k f = e := by
  rw [smE]
  by_cases h1 : k = e
  · subst h1; rw [if_neg (by rw [h2]; simp)]
  · rw [smAll_step (by omega), Bool.and_eq_true] at h
    rw [if_pos ⟨by omega, h.1⟩]
    exact smE_eq h.2 (by omega) he h2
termination_by e - k
decreasing_by all_goals omega
theorem letEnd_eq {L : List Nat} {k e f : Nat} (h : smAll L k e = true) (hk : k ≤ e) (he : e < f) (h2 : isLet (L.getD e 0) = false) : letEnd L k f = e := by
  by_cases h1 : k = e
  · subst h1; simp [letEnd, letRun_stop (L := L) (k := k) (f := f) (Or.inr h2)]
  · rw [smAll_step (by omega), Bool.and_eq_true] at h
    have := letEnd_eq h.2 (by omega) he h2
    rw [← this]
    simp only [letEnd, letRun_step (L := L) (k := k) (f := f) (by omega) (sm_let h.1), List.length_cons]; omega
termination_by e - k
decreasing_by all_goals omega
/-- the reference finds the same links -/
theorem lk_same {L : List Nat} {k f : Nat} (hkf : k < f) : lkOkS L k f = (decide (smE L (k + 1) f < f) && decide (L.getD (smE L (k + 1) f) 0 = 93) && isWdS L (k + 1) (smE L (k + 1) f) 6) ∧ (lkOkS L k f = true → smE L (k + 1) f = letEnd L (k + 1) f) := by
  have n1 : isLet 93 = false := by decide
  have n2 : isSm 93 = false := by decide
  have hge := smE_ge L (k + 1) f
  have hge2 := letEnd_ge L (k + 1) f
  have key1 : lkOkS L k f = true → smE L (k + 1) f = letEnd L (k + 1) f := by
    intro h
    simp only [lkOkS, isWdS, Bool.and_eq_true, decide_eq_true_eq] at h
    exact smE_eq h.2.1.1 hge2 h.1.1 (by rw [h.1.2]; exact n2)
  refine ⟨?_, key1⟩
  cases h : (decide (smE L (k + 1) f < f) && decide (L.getD (smE L (k + 1) f) 0 = 93) && isWdS L (k + 1) (smE L (k + 1) f) 6) with
  | true =>
    have h' := h
    simp only [Bool.and_eq_true, decide_eq_true_eq] at h'
    have e : letEnd L (k + 1) f = smE L (k + 1) f := letEnd_eq smAll_end hge h'.1.1 (by rw [h'.1.2]; exact n1)
    rw [lkOkS, e]; exact h
  | false =>
    rw [Bool.eq_false_iff]
    intro h2
    have e := key1 h2
    rw [e] at h
    rw [lkOkS] at h2
    rw [h2] at h; cases h
theorem m_lk0 {L : List Nat} {sE : Nat → Int32} {sC : Int32} (hs : Rw 700 sE sC L) (hv : ∀ i, L.getD i 0 < 2147483648) {f k0 : Nat} (hf : f ≤ L.length) {T R FL' F' : Int32} {Bo' Le' : Nat → Int32} {n' : Int32} {lA' lL' lI' lT' : Nat → Int32} {I' B' : Bool} {X' x3 FL F : Int32} {Bo Le : Nat → Int32} {n : Int32} {lA lL lI lT : Nat → Int32} {I B : Bool} {X : Int32} (k : Nat) (hk : k ≤ f)
    (h1 : ∃ m, T_Model_link sE T R FL' F' Bo' Le' n' lA' lL' lI' lT' I' B' X' m 1 (nI k0) (nI f) x3 (nI (smE L k f)) FL F Bo Le n lA lL lI lT I B X) : ∃ m, T_Model_link sE T R FL' F' Bo' Le' n' lA' lL' lI' lT' I' B' X' m 0 (nI k0) (nI f) x3 (nI k) FL F Bo Le n lA lL lI lT I B X := by
  have hL7 := hs.2.1
  rw [smE] at h1
  by_cases h : k < f
  · have hel := hs.2.2.2 k (by omega)
    have hvk := hv k
    cases h2 : isSm (L.getD k 0) with
    | true =>
      rw [if_pos ⟨h, h2⟩] at h1
      obtain ⟨m, hm⟩ := m_lk0 hs hv hf (k + 1) h h1
      refine ⟨m + 1, ?_⟩
      simp (disch := omega) only [T_Model_link, S_Model_link, B_Model_link_5, hel, q_lit, le_T, le_F, lt_T, lt_F, eq_T, eq_F, m1_lt, m1_le, lt_m1, le_m1, eq_m1, m1_eq, nI_add, nI_sub, nI_dec, nI_mul, nI_or, nI_and, nI_div, nI_mod, and_255, and_31, and_1, and_63, nI_shl, nI_shr, bI_F, bI_1, vp_T, cl_T, true_implies, false_implies, not_true_eq_false, not_false_eq_true, true_and, and_true, false_and, and_false, Bool.false_eq_true, Bool.true_eq_false, reduceCtorEq, implies_true, q_lc_eq, q_lc_ge, q_lc_gt, q_lc_le, lN_or, lN_and, lN_shl, lN_shr, nI_L, lN_I, l_0]
      refine ⟨_, mo_isSmall hvk, ?_⟩
      simp (disch := omega) only [h2, q_lit, le_T, le_F, lt_T, lt_F, eq_T, eq_F, m1_lt, m1_le, lt_m1, le_m1, eq_m1, m1_eq, nI_add, nI_sub, nI_dec, nI_mul, nI_or, nI_and, nI_div, nI_mod, and_255, and_31, and_1, and_63, nI_shl, nI_shr, bI_F, bI_1, vp_T, cl_T, true_implies, false_implies, not_true_eq_false, not_false_eq_true, true_and, and_true, false_and, and_false, Bool.false_eq_true, Bool.true_eq_false, reduceCtorEq, implies_true]
      exact hm
    | false =>
      rw [if_neg (by rw [h2]; simp)] at h1
      obtain ⟨m, hm⟩ := h1
      refine ⟨m + 1, ?_⟩
      simp (disch := omega) only [T_Model_link, S_Model_link, B_Model_link_5, hel, q_lit, le_T, le_F, lt_T, lt_F, eq_T, eq_F, m1_lt, m1_le, lt_m1, le_m1, eq_m1, m1_eq, nI_add, nI_sub, nI_dec, nI_mul, nI_or, nI_and, nI_div, nI_mod, and_255, and_31, and_1, and_63, nI_shl, nI_shr, bI_F, bI_1, vp_T, cl_T, true_implies, false_implies, not_true_eq_false, not_false_eq_true, true_and, and_true, false_and, and_false, Bool.false_eq_true, Bool.true_eq_false, reduceCtorEq, implies_true, q_lc_eq, q_lc_ge, q_lc_gt, q_lc_le, lN_or, lN_and, lN_shl, lN_shr, nI_L, lN_I, l_0]
      refine ⟨_, mo_isSmall hvk, ?_⟩
      simp (disch := omega) only [h2, q_lit, le_T, le_F, lt_T, lt_F, eq_T, eq_F, m1_lt, m1_le, lt_m1, le_m1, eq_m1, m1_eq, nI_add, nI_sub, nI_dec, nI_mul, nI_or, nI_and, nI_div, nI_mod, and_255, and_31, and_1, and_63, nI_shl, nI_shr, bI_F, bI_1, vp_T, cl_T, true_implies, false_implies, not_true_eq_false, not_false_eq_true, true_and, and_true, false_and, and_false, Bool.false_eq_true, Bool.true_eq_false, reduceCtorEq, implies_true]
      exact hm
  · rw [if_neg (fun h9 => h h9.1)] at h1
    obtain ⟨m, hm⟩ := h1
    refine ⟨m + 1, ?_⟩
    simp (disch := omega) only [T_Model_link, S_Model_link, B_Model_link_5, q_lit, le_T, le_F, lt_T, lt_F, eq_T, eq_F, m1_lt, m1_le, lt_m1, le_m1, eq_m1, m1_eq, nI_add, nI_sub, nI_dec, nI_mul, nI_or, nI_and, nI_div, nI_mod, and_255, and_31, and_1, and_63, nI_shl, nI_shr, bI_F, bI_1, vp_T, cl_T, true_implies, false_implies, not_true_eq_false, not_false_eq_true, true_and, and_true, false_and, and_false, Bool.false_eq_true, Bool.true_eq_false, reduceCtorEq, implies_true, q_lc_eq, q_lc_ge, q_lc_gt, q_lc_le, lN_or, lN_and, lN_shl, lN_shr, nI_L, lN_I, l_0]
    exact hm
termination_by f - k
decreasing_by all_goals omega
theorem mi_noLink {L : List Nat} {sE : Nat → Int32} {sC : Int32} (hs : Rw 700 sE sC L) (hv : ∀ i, L.getD i 0 < 2147483648) {m : q_MM} (hF : m.2.1 = nI 0) (hFL : m.1 = -nI 1) {k f ln : Nat} (hkf : k < f) (hf : f ≤ L.length) (hok : lkOkS L k f = false) :
    D_Model_link (nI k) (nI f) (nI ln) sE m.1 m.2.1 m.2.2.1 m.2.2.2.2.1 m.2.2.2.2.2.1 m.2.2.2.2.2.2.2.2.2.2.2.1 m.2.2.2.2.2.2.2.2.2.2.2.2.1 m.2.2.2.2.2.2.2.2.2.2.2.2.2.1 m.2.2.2.2.2.2.2.2.2.2.2.2.2.2.1 m.2.2.2.2.2.2.2.2.2.2.2.2.2.2.2.1 m.2.2.2.2.2.2.2.2.2.2.2.2.2.2.2.2.1 m.2.2.2.2.2.2.2.2.2.2.2.2.2.2.2.2.2.2.1 m.2.2.2.2.2.2.2.2.2.2.2.2.2.2.2.2.2.2.2.1 (-nI 1) (nI ln) (nI 6) m.2.2.2.2.1 m.2.2.2.2.2.1 m.2.2.2.2.2.2.2.2.2.2.2.1 m.2.2.2.2.2.2.2.2.2.2.2.2.1 m.2.2.2.2.2.2.2.2.2.2.2.2.2.1 m.2.2.2.2.2.2.2.2.2.2.2.2.2.2.1 m.2.2.2.2.2.2.2.2.2.2.2.2.2.2.2.1 m.2.2.2.2.2.2.2.2.2.2.2.2.2.2.2.2.1 m.2.2.2.2.2.2.2.2.2.2.2.2.2.2.2.2.2.2.1 m.2.2.2.2.2.2.2.2.2.2.2.2.2.2.2.2.2.2.2.1 := by
  have hL7 := hs.2.1
  rw [(lk_same hkf).1] at hok
  have hge := smE_ge L (k + 1) f
  have hle := smE_le (L := L) (k := k + 1) (f := f) (by omega)
  have bad : ∀ x1 x2 x4, T_Model_link sE m.2.2.1 (-nI 1) (nI ln) (nI 6) m.2.2.2.2.1 m.2.2.2.2.2.1 m.2.2.2.2.2.2.2.2.2.2.2.1 m.2.2.2.2.2.2.2.2.2.2.2.2.1 m.2.2.2.2.2.2.2.2.2.2.2.2.2.1 m.2.2.2.2.2.2.2.2.2.2.2.2.2.2.1 m.2.2.2.2.2.2.2.2.2.2.2.2.2.2.2.1 m.2.2.2.2.2.2.2.2.2.2.2.2.2.2.2.2.1 m.2.2.2.2.2.2.2.2.2.2.2.2.2.2.2.2.2.2.1 m.2.2.2.2.2.2.2.2.2.2.2.2.2.2.2.2.2.2.2.1 1 2 x1 x2 (nI ln) x4 m.1 m.2.1 m.2.2.2.2.1 m.2.2.2.2.2.1 m.2.2.2.2.2.2.2.2.2.2.2.1 m.2.2.2.2.2.2.2.2.2.2.2.2.1 m.2.2.2.2.2.2.2.2.2.2.2.2.2.1 m.2.2.2.2.2.2.2.2.2.2.2.2.2.2.1 m.2.2.2.2.2.2.2.2.2.2.2.2.2.2.2.1 m.2.2.2.2.2.2.2.2.2.2.2.2.2.2.2.2.1 m.2.2.2.2.2.2.2.2.2.2.2.2.2.2.2.2.2.2.1 m.2.2.2.2.2.2.2.2.2.2.2.2.2.2.2.2.2.2.2.1 := by
    intro x1 x2 x4
    rw [hF, hFL]
    simp (disch := omega) only [T_Model_link, S_Model_link, B_Model_link_62, q_lit, le_T, le_F, lt_T, lt_F, eq_T, eq_F, m1_lt, m1_le, lt_m1, le_m1, eq_m1, m1_eq, nI_add, nI_sub, nI_dec, nI_mul, nI_or, nI_and, nI_div, nI_mod, and_255, and_31, and_1, and_63, nI_shl, nI_shr, bI_F, bI_1, vp_T, cl_T, true_implies, false_implies, not_true_eq_false, not_false_eq_true, true_and, and_true, false_and, and_false, Bool.false_eq_true, Bool.true_eq_false, reduceCtorEq, implies_true, q_lc_eq, q_lc_ge, q_lc_gt, q_lc_le, lN_or, lN_and, lN_shl, lN_shr, nI_L, lN_I, l_0]
    exact ⟨_, _, mo_fail0, rfl, rfl⟩
  have h1 : ∃ q, T_Model_link sE m.2.2.1 (-nI 1) (nI ln) (nI 6) m.2.2.2.2.1 m.2.2.2.2.2.1 m.2.2.2.2.2.2.2.2.2.2.2.1 m.2.2.2.2.2.2.2.2.2.2.2.2.1 m.2.2.2.2.2.2.2.2.2.2.2.2.2.1 m.2.2.2.2.2.2.2.2.2.2.2.2.2.2.1 m.2.2.2.2.2.2.2.2.2.2.2.2.2.2.2.1 m.2.2.2.2.2.2.2.2.2.2.2.2.2.2.2.2.1 m.2.2.2.2.2.2.2.2.2.2.2.2.2.2.2.2.2.2.1 m.2.2.2.2.2.2.2.2.2.2.2.2.2.2.2.2.2.2.2.1 q 1 (nI k) (nI f) (nI ln) (nI (smE L (k + 1) f)) m.1 m.2.1 m.2.2.2.2.1 m.2.2.2.2.2.1 m.2.2.2.2.2.2.2.2.2.2.2.1 m.2.2.2.2.2.2.2.2.2.2.2.2.1 m.2.2.2.2.2.2.2.2.2.2.2.2.2.1 m.2.2.2.2.2.2.2.2.2.2.2.2.2.2.1 m.2.2.2.2.2.2.2.2.2.2.2.2.2.2.2.1 m.2.2.2.2.2.2.2.2.2.2.2.2.2.2.2.2.1 m.2.2.2.2.2.2.2.2.2.2.2.2.2.2.2.2.2.2.1 m.2.2.2.2.2.2.2.2.2.2.2.2.2.2.2.2.2.2.2.1 := by
    refine ⟨2, ?_⟩
    by_cases a1 : smE L (k + 1) f < f
    · have hel := hs.2.2.2 (smE L (k + 1) f) (by omega)
      have hvk := hv (smE L (k + 1) f)
      by_cases a2 : L.getD (smE L (k + 1) f) 0 = 93
      · have a3 : isWdS L (k + 1) (smE L (k + 1) f) 6 = false := by
          rw [decide_eq_true a1, decide_eq_true a2, Bool.true_and, Bool.true_and] at hok; exact hok
        have hnm := mo_name hs hv (k := k + 1) (f := smE L (k + 1) f) (by omega) hge (m := 6) (by omega)
        rw [a3] at hnm
        refine ⟨fun h9 => ?_, fun _ => ⟨vp_in_nI (by omega) (by omega), ?_⟩⟩
        · exfalso; revert h9; simp (disch := omega) only [q_lit, le_T, le_F, lt_T, lt_F, eq_T, eq_F, m1_lt, m1_le, lt_m1, le_m1, eq_m1, m1_eq, nI_add, nI_sub, nI_dec, nI_mul, nI_or, nI_and, nI_div, nI_mod, and_255, and_31, and_1, and_63, nI_shl, nI_shr, bI_F, bI_1, vp_T, cl_T, true_implies, false_implies, not_true_eq_false, not_false_eq_true, true_and, and_true, false_and, and_false, Bool.false_eq_true, Bool.true_eq_false, reduceCtorEq, implies_true]
        · rw [nI_clamp (by omega), hel, a2]
          simp (disch := omega) only [q_lit, le_T, le_F, lt_T, lt_F, eq_T, eq_F, m1_lt, m1_le, lt_m1, le_m1, eq_m1, m1_eq, nI_add, nI_sub, nI_dec, nI_mul, nI_or, nI_and, nI_div, nI_mod, and_255, and_31, and_1, and_63, nI_shl, nI_shr, bI_F, bI_1, vp_T, cl_T, true_implies, false_implies, not_true_eq_false, not_false_eq_true, true_and, and_true, false_and, and_false, Bool.false_eq_true, Bool.true_eq_false, reduceCtorEq, implies_true]
          exact ⟨_, hnm, by simp (disch := omega) only [q_lit, le_T, le_F, lt_T, lt_F, eq_T, eq_F, m1_lt, m1_le, lt_m1, le_m1, eq_m1, m1_eq, nI_add, nI_sub, nI_dec, nI_mul, nI_or, nI_and, nI_div, nI_mod, and_255, and_31, and_1, and_63, nI_shl, nI_shr, bI_F, bI_1, vp_T, cl_T, true_implies, false_implies, not_true_eq_false, not_false_eq_true, true_and, and_true, false_and, and_false, Bool.false_eq_true, Bool.true_eq_false, reduceCtorEq, implies_true]; exact bad _ _ _⟩
      · refine ⟨fun h9 => ?_, fun _ => ⟨vp_in_nI (by omega) (by omega), ?_⟩⟩
        · exfalso; revert h9; simp (disch := omega) only [q_lit, le_T, le_F, lt_T, lt_F, eq_T, eq_F, m1_lt, m1_le, lt_m1, le_m1, eq_m1, m1_eq, nI_add, nI_sub, nI_dec, nI_mul, nI_or, nI_and, nI_div, nI_mod, and_255, and_31, and_1, and_63, nI_shl, nI_shr, bI_F, bI_1, vp_T, cl_T, true_implies, false_implies, not_true_eq_false, not_false_eq_true, true_and, and_true, false_and, and_false, Bool.false_eq_true, Bool.true_eq_false, reduceCtorEq, implies_true]
        · rw [nI_clamp (by omega), hel]
          simp (disch := omega) only [q_lit, le_T, le_F, lt_T, lt_F, eq_T, eq_F, m1_lt, m1_le, lt_m1, le_m1, eq_m1, m1_eq, nI_add, nI_sub, nI_dec, nI_mul, nI_or, nI_and, nI_div, nI_mod, and_255, and_31, and_1, and_63, nI_shl, nI_shr, bI_F, bI_1, vp_T, cl_T, true_implies, false_implies, not_true_eq_false, not_false_eq_true, true_and, and_true, false_and, and_false, Bool.false_eq_true, Bool.true_eq_false, reduceCtorEq, implies_true]
          exact bad _ _ _
    · refine ⟨fun _ => bad _ _ _, fun h9 => ?_⟩
      exfalso; revert h9; simp (disch := omega) only [q_lit, le_T, le_F, lt_T, lt_F, eq_T, eq_F, m1_lt, m1_le, lt_m1, le_m1, eq_m1, m1_eq, nI_add, nI_sub, nI_dec, nI_mul, nI_or, nI_and, nI_div, nI_mod, and_255, and_31, and_1, and_63, nI_shl, nI_shr, bI_F, bI_1, vp_T, cl_T, true_implies, false_implies, not_true_eq_false, not_false_eq_true, true_and, and_true, false_and, and_false, Bool.false_eq_true, Bool.true_eq_false, reduceCtorEq, implies_true]
  obtain ⟨q, hq⟩ := m_lk0 hs hv hf (k + 1) (by omega) h1
  exact ⟨q, by rw [nI_1]; exact hq⟩
theorem mi_link {L : List Nat} {sE : Nat → Int32} {sC : Int32} (hs : Rw 700 sE sC L) (hv : ∀ i, L.getD i 0 < 2147483648) {m : q_MM} {a : q_Cs} (h : MI L m a) (hne : a.2.1 ≠ []) (hl : a.2.1.flatten.length < 2546) (hdue : (m.2.2.2.2.2.2.2.2.2.2.2.2.2.2.2.2.2.2.1 && a.2.2.2.2.2.2.2.1) = a.2.2.2.2.2.2.2.2.2.1) (hlk : a.2.2.2.2.1.length < 234) {k f ln : Nat} (hkf : k < f) (hf : f ≤ L.length) (hok : lkOkS L k f = true) :
    ∃ Bo' Le' n' lA' lL' lI' lT', D_Model_link (nI k) (nI f) (nI ln) sE m.1 m.2.1 m.2.2.1 m.2.2.2.2.1 m.2.2.2.2.2.1 m.2.2.2.2.2.2.2.2.2.2.2.1 m.2.2.2.2.2.2.2.2.2.2.2.2.1 m.2.2.2.2.2.2.2.2.2.2.2.2.2.1 m.2.2.2.2.2.2.2.2.2.2.2.2.2.2.1 m.2.2.2.2.2.2.2.2.2.2.2.2.2.2.2.1 m.2.2.2.2.2.2.2.2.2.2.2.2.2.2.2.2.1 m.2.2.2.2.2.2.2.2.2.2.2.2.2.2.2.2.2.2.1 m.2.2.2.2.2.2.2.2.2.2.2.2.2.2.2.2.2.2.2.1 (nI (letEnd L (k + 1) f)) m.1 m.2.1 Bo' Le' n' lA' lL' lI' lT' true false (nI ln) ∧ MI L ((m.1, m.2.1, m.2.2.1, m.2.2.2.1, Bo', Le', m.2.2.2.2.2.2.1, m.2.2.2.2.2.2.2.1, m.2.2.2.2.2.2.2.2.1, m.2.2.2.2.2.2.2.2.2.1, m.2.2.2.2.2.2.2.2.2.2.1, n', lA', lL', lI', lT', true, m.2.2.2.2.2.2.2.2.2.2.2.2.2.2.2.2.2.1, false, nI ln, m.2.2.2.2.2.2.2.2.2.2.2.2.2.2.2.2.2.2.2.2.1, m.2.2.2.2.2.2.2.2.2.2.2.2.2.2.2.2.2.2.2.2.2) : q_MM) (lnkA L k f ln (dueB a)) := by
  have hL7 := hs.2.1
  have hsame := lk_same (L := L) hkf
  have he := hsame.2 hok
  have hok2 := hok
  simp only [lkOkS, Bool.and_eq_true, decide_eq_true_eq] at hok
  have hge := letEnd_ge L (k + 1) f
  obtain ⟨z1, z2, z3, z4, z5, z6, z7, z8, z9, z10, z11, z12, z13, z14, z15⟩ := h
  obtain ⟨Bo1, Le1, b1, b2⟩ := mo_sign z4 z7 hne (by omega) z12 hdue 2 ln
  have hne1 := dueB_ne hne
  have hl1 := dueB_len hne
  have hd : (dueB a).2.1.length = a.2.1.length := by
    simp only [dueB]; split
    · exact addB_len hne _
    · rfl
  have hl2 : (q_addB (dueB a).2.1 2).flatten.length = (dueB a).2.1.flatten.length + 1 := by rw [addB_flat hne1]; simp
  have hpos : 0 < a.2.1.length := List.length_pos_iff.mpr hne
  have h10 := z7.1
  have hlen2 : (q_addB (dueB a).2.1 2).length = a.2.1.length := by rw [addB_len hne1, hd]
  obtain ⟨Bo2, Le2, c1, c2⟩ := mo_byte b2 (addB_ne _ _) (by omega) 0
  have hlast : bd (q_addB (dueB a).2.1 2) (a.2.1.length - 1) = bd (dueB a).2.1 (a.2.1.length - 1) ++ [2] := by
    rw [addB_bd hne1 2 (by omega), if_pos (by omega)]
  have hLe := (b2.2 (a.2.1.length - 1) (by omega)).1
  rw [hlast, List.length_append] at hLe
  simp only [List.length_cons, List.length_nil, Nat.zero_add] at hLe
  have hbdl : (bd (dueB a).2.1 (a.2.1.length - 1)).length ≤ (dueB a).2.1.flatten.length := by
    have := off_end (bs := (dueB a).2.1) (t := a.2.1.length - 1) (by omega); omega
  obtain ⟨l1, l2, l3⟩ := z11
  have hnm := mo_name hs hv (k := k + 1) (f := letEnd L (k + 1) f) (by omega) hge (m := 6) (by omega)
  rw [hok.2] at hnm
  have hel := hs.2.2.2 (letEnd L (k + 1) f) (by omega)
  rw [hok.1.2] at hel
  have hmid : ∃ q, T_Model_link sE m.2.2.1 (nI (letEnd L (k + 1) f)) m.1 m.2.1 Bo2 Le2 (nI (a.2.2.2.2.1.length + 1)) (upd m.2.2.2.2.2.2.2.2.2.2.2.2.1 a.2.2.2.2.1.length (nI (k + 1))) (upd m.2.2.2.2.2.2.2.2.2.2.2.2.2.1 a.2.2.2.2.1.length (nI (letEnd L (k + 1) f - (k + 1)))) (upd m.2.2.2.2.2.2.2.2.2.2.2.2.2.2.1 a.2.2.2.2.1.length (nI ln)) (upd m.2.2.2.2.2.2.2.2.2.2.2.2.2.2.2.1 a.2.2.2.2.1.length (lkT ⟨k + 1, letEnd L (k + 1) f - (k + 1), ln, a.2.1.length - 1, (bd (dueB a).2.1 (a.2.1.length - 1)).length + 1⟩)) true false (nI ln) q 1 (nI k) (nI f) (nI ln) (nI (smE L (k + 1) f)) m.1 m.2.1 m.2.2.2.2.1 m.2.2.2.2.2.1 m.2.2.2.2.2.2.2.2.2.2.2.1 m.2.2.2.2.2.2.2.2.2.2.2.2.1 m.2.2.2.2.2.2.2.2.2.2.2.2.2.1 m.2.2.2.2.2.2.2.2.2.2.2.2.2.2.1 m.2.2.2.2.2.2.2.2.2.2.2.2.2.2.2.1 m.2.2.2.2.2.2.2.2.2.2.2.2.2.2.2.2.1 m.2.2.2.2.2.2.2.2.2.2.2.2.2.2.2.2.2.2.1 m.2.2.2.2.2.2.2.2.2.2.2.2.2.2.2.2.2.2.2.1 := by
    rw [he]
    refine ⟨2, ?_⟩
    have q_fin : ∀ (lT9 : Nat → Int32) x1 x2 x3, lT9 = upd m.2.2.2.2.2.2.2.2.2.2.2.2.2.2.2.1 a.2.2.2.2.1.length (lkT ⟨k + 1, letEnd L (k + 1) f - (k + 1), ln, a.2.1.length - 1, (bd (dueB a).2.1 (a.2.1.length - 1)).length + 1⟩) → T_Model_link sE m.2.2.1 (nI (letEnd L (k + 1) f)) m.1 m.2.1 Bo2 Le2 (nI (a.2.2.2.2.1.length + 1)) (upd m.2.2.2.2.2.2.2.2.2.2.2.2.1 a.2.2.2.2.1.length (nI (k + 1))) (upd m.2.2.2.2.2.2.2.2.2.2.2.2.2.1 a.2.2.2.2.1.length (nI (letEnd L (k + 1) f - (k + 1)))) (upd m.2.2.2.2.2.2.2.2.2.2.2.2.2.2.1 a.2.2.2.2.1.length (nI ln)) (upd m.2.2.2.2.2.2.2.2.2.2.2.2.2.2.2.1 a.2.2.2.2.1.length (lkT ⟨k + 1, letEnd L (k + 1) f - (k + 1), ln, a.2.1.length - 1, (bd (dueB a).2.1 (a.2.1.length - 1)).length + 1⟩)) true false (nI ln) 1 3 x1 x2 x3 (nI (letEnd L (k + 1) f)) m.1 m.2.1 Bo1 Le1 (nI a.2.2.2.2.1.length) (upd m.2.2.2.2.2.2.2.2.2.2.2.2.1 a.2.2.2.2.1.length (nI (k + 1))) (upd m.2.2.2.2.2.2.2.2.2.2.2.2.2.1 a.2.2.2.2.1.length (nI (letEnd L (k + 1) f - (k + 1)))) (upd m.2.2.2.2.2.2.2.2.2.2.2.2.2.2.1 a.2.2.2.2.1.length (nI ln)) lT9 true false (nI ln) := by
      intro lT9 x1 x2 x3 h9
      subst h9
      simp (disch := omega) only [T_Model_link, S_Model_link, B_Model_link_162, q_lit, le_T, le_F, lt_T, lt_F, eq_T, eq_F, m1_lt, m1_le, lt_m1, le_m1, eq_m1, m1_eq, nI_add, nI_sub, nI_dec, nI_mul, nI_or, nI_and, nI_div, nI_mod, and_255, and_31, and_1, and_63, nI_shl, nI_shr, bI_F, bI_1, vp_T, cl_T, true_implies, false_implies, not_true_eq_false, not_false_eq_true, true_and, and_true, false_and, and_false, Bool.false_eq_true, Bool.true_eq_false, reduceCtorEq, implies_true, q_lc_eq, q_lc_ge, q_lc_gt, q_lc_le, lN_or, lN_and, lN_shl, lN_shr, nI_L, lN_I, l_0]
      exact ⟨Bo2, Le2, by rw [z4, ← hlen2]; exact c1, rfl, rfl⟩
    refine ⟨fun h9 => ?_, fun _ => ⟨vp_in_nI (by omega) (by omega), ?_⟩⟩
    · exfalso; revert h9; simp (disch := omega) only [q_lit, le_T, le_F, lt_T, lt_F, eq_T, eq_F, m1_lt, m1_le, lt_m1, le_m1, eq_m1, m1_eq, nI_add, nI_sub, nI_dec, nI_mul, nI_or, nI_and, nI_div, nI_mod, and_255, and_31, and_1, and_63, nI_shl, nI_shr, bI_F, bI_1, vp_T, cl_T, true_implies, false_implies, not_true_eq_false, not_false_eq_true, true_and, and_true, false_and, and_false, Bool.false_eq_true, Bool.true_eq_false, reduceCtorEq, implies_true]
    · rw [nI_clamp (by omega), hel]
      simp (disch := omega) only [q_lit, le_T, le_F, lt_T, lt_F, eq_T, eq_F, m1_lt, m1_le, lt_m1, le_m1, eq_m1, m1_eq, nI_add, nI_sub, nI_dec, nI_mul, nI_or, nI_and, nI_div, nI_mod, and_255, and_31, and_1, and_63, nI_shl, nI_shr, bI_F, bI_1, vp_T, cl_T, true_implies, false_implies, not_true_eq_false, not_false_eq_true, true_and, and_true, false_and, and_false, Bool.false_eq_true, Bool.true_eq_false, reduceCtorEq, implies_true]
      refine ⟨_, hnm, ?_⟩
      simp (disch := omega) only [q_lit, le_T, le_F, lt_T, lt_F, eq_T, eq_F, m1_lt, m1_le, lt_m1, le_m1, eq_m1, m1_eq, nI_add, nI_sub, nI_dec, nI_mul, nI_or, nI_and, nI_div, nI_mod, and_255, and_31, and_1, and_63, nI_shl, nI_shr, bI_F, bI_1, vp_T, cl_T, true_implies, false_implies, not_true_eq_false, not_false_eq_true, true_and, and_true, false_and, and_false, Bool.false_eq_true, Bool.true_eq_false, reduceCtorEq, implies_true]
      refine ⟨Bo1, Le1, true, false, nI ln, b1, ?_⟩
      rw [z4, l1]
      by_cases h255 : (bd (dueB a).2.1 (a.2.1.length - 1)).length + 1 < 255
      · simp (disch := omega) only [hLe, q_lit, le_T, le_F, lt_T, lt_F, eq_T, eq_F, m1_lt, m1_le, lt_m1, le_m1, eq_m1, m1_eq, nI_add, nI_sub, nI_dec, nI_mul, nI_or, nI_and, nI_div, nI_mod, and_255, and_31, and_1, and_63, nI_shl, nI_shr, bI_F, bI_1, vp_T, cl_T, true_implies, false_implies, not_true_eq_false, not_false_eq_true, true_and, and_true, false_and, and_false, Bool.false_eq_true, Bool.true_eq_false, reduceCtorEq, implies_true]
        rw [show letEnd L (k + 1) f - k - 1 = letEnd L (k + 1) f - (k + 1) by omega]
        have := q_fin (upd m.2.2.2.2.2.2.2.2.2.2.2.2.2.2.2.1 a.2.2.2.2.1.length (nI (255 * (a.2.1.length - 1) + ((bd (dueB a).2.1 (a.2.1.length - 1)).length + 1)))) (nI 0) (nI 0) (nI 0) (by simp only [lkT]; rw [if_pos h255])
        rw [z4] at this
        exact this
      · simp (disch := omega) only [hLe, q_lit, le_T, le_F, lt_T, lt_F, eq_T, eq_F, m1_lt, m1_le, lt_m1, le_m1, eq_m1, m1_eq, nI_add, nI_sub, nI_dec, nI_mul, nI_or, nI_and, nI_div, nI_mod, and_255, and_31, and_1, and_63, nI_shl, nI_shr, bI_F, bI_1, vp_T, cl_T, true_implies, false_implies, not_true_eq_false, not_false_eq_true, true_and, and_true, false_and, and_false, Bool.false_eq_true, Bool.true_eq_false, reduceCtorEq, implies_true]
        rw [show letEnd L (k + 1) f - k - 1 = letEnd L (k + 1) f - (k + 1) by omega]
        have := q_fin (upd m.2.2.2.2.2.2.2.2.2.2.2.2.2.2.2.1 a.2.2.2.2.1.length (-nI 1)) (nI 0) (nI 0) (nI 0) (by simp only [lkT]; rw [if_neg h255])
        rw [z4] at this
        exact this
  obtain ⟨q, hq⟩ := m_lk0 hs hv hf (k + 1) (by omega) hmid
  refine ⟨Bo2, Le2, _, _, _, _, _, ⟨q, by rw [nI_1]; exact hq⟩, ?_⟩
  have hlen3 : (q_addB (q_addB (dueB a).2.1 2) 0).length = a.2.1.length := by rw [addB_len (addB_ne _ _), hlen2]
  refine ⟨z1, z2, z3, by simp only [lnkA]; rw [hlen3]; exact z4, by simp only [lnkA]; rw [hlen3]; exact z5, by simp only [lnkA]; rw [hlen3]; exact z6, c2, z8, fun t ht => z9 t (by simp only [lnkA] at ht; rw [hlen3] at ht; exact ht), z10, ⟨by simp [lnkA, dueB], by simp [lnkA, dueB]; omega, fun i hi => ?_⟩, rfl, z13, fun _ => addB_ne _ _, fun h9 => by cases h9⟩
  have hlk' : (lnkA L k f ln (dueB a)).2.2.2.2.1 = a.2.2.2.2.1 ++ [⟨k + 1, letEnd L (k + 1) f - (k + 1), ln, a.2.1.length - 1, (bd (dueB a).2.1 (a.2.1.length - 1)).length + 1⟩] := by
    simp only [lnkA]
    rw [hd]
    rfl
  have hbs' : (lnkA L k f ln (dueB a)).2.1 = q_addB (q_addB (dueB a).2.1 2) 0 := rfl
  have hlast3 : bd (q_addB (q_addB (dueB a).2.1 2) 0) (a.2.1.length - 1) = bd (dueB a).2.1 (a.2.1.length - 1) ++ [2] ++ [0] := by
    rw [addB_bd (addB_ne _ _) 0 (by omega), if_pos (by omega), hlast]
  rw [hlk'] at hi ⊢
  rw [hbs', hlen3]
  simp only [List.length_append, List.length_cons, List.length_nil] at hi
  by_cases h5 : i = a.2.2.2.2.1.length
  · subst h5
    rw [getD_snoc, if_pos rfl]
    refine ⟨upd_eq _ _ _, upd_eq _ _ _, upd_eq _ _ _, upd_eq _ _ _, by show a.2.1.length - 1 < a.2.1.length; omega, by simp only; rw [hlast3]; simp, by simp only; omega⟩
  · have hi2 : i < a.2.2.2.2.1.length := by omega
    obtain ⟨q1, q2, q3, q4, q5, q6, q7⟩ := l3 i hi2
    rw [getD_snoc, if_neg h5]
    have e1 : (bd a.2.1 (a.2.2.2.2.1.getD i lk0).2.2.2.1).length ≤ (bd (dueB a).2.1 (a.2.2.2.2.1.getD i lk0).2.2.2.1).length := by
      simp only [dueB]; split
      · exact addB_bd_le hne 32 q5
      · exact Nat.le_refl _
    have e2 := addB_bd_le hne1 2 (t := (a.2.2.2.2.1.getD i lk0).2.2.2.1) (by omega)
    have e3 := addB_bd_le (addB_ne (dueB a).2.1 2) 0 (t := (a.2.2.2.2.1.getD i lk0).2.2.2.1) (by omega)
    refine ⟨?_, ?_, ?_, ?_, q5, by omega, q7⟩
    · simp only; rw [upd_ne hi2]; exact q1
    · simp only; rw [upd_ne hi2]; exact q2
    · simp only; rw [upd_ne hi2]; exact q3
    · simp only; rw [upd_ne hi2]; exact q4
/-- how the reference stands where the class stands at a: the same, or the same fault -/
def MR (L : List Nat) (m : q_MM) (a : q_Cs) : Prop := (a.2.2.2.2.2.1 = 0 ∧ MI L m a) ∨ (¬ a.2.2.2.2.2.1 = 0 ∧ a.2.2.2.2.2.1 < 100 ∧ m.2.1 = nI a.2.2.2.2.2.1 ∧ m.1 = nI a.2.2.2.2.2.2.1 ∧ ∃ tn, tn ≤ 10 ∧ m.2.2.1 = nI tn)
def keepM (m m' : q_MM) : Prop := m'.2.2.1 = m.2.2.1 ∧ m'.2.2.2.1 = m.2.2.2.1 ∧ m'.2.2.2.2.2.2.1 = m.2.2.2.2.2.2.1 ∧ m'.2.2.2.2.2.2.2.1 = m.2.2.2.2.2.2.2.1 ∧ m'.2.2.2.2.2.2.2.2.1 = m.2.2.2.2.2.2.2.2.1 ∧ m'.2.2.2.2.2.2.2.2.2.1 = m.2.2.2.2.2.2.2.2.2.1 ∧ m'.2.2.2.2.2.2.2.2.2.2.1 = m.2.2.2.2.2.2.2.2.2.2.1 ∧ m'.2.2.2.2.2.2.2.2.2.2.2.2.2.2.2.2.2.2.2.2.1 = m.2.2.2.2.2.2.2.2.2.2.2.2.2.2.2.2.2.2.2.2.1 ∧ m'.2.2.2.2.2.2.2.2.2.2.2.2.2.2.2.2.2.2.2.2.2 = m.2.2.2.2.2.2.2.2.2.2.2.2.2.2.2.2.2.2.2.2.2
theorem mi_txt {L : List Nat} {sE : Nat → Int32} {sC : Int32} (hs : Rw 700 sE sC L) (hv : ∀ i, L.getD i 0 < 2147483648) {f ln : Nat} (hf : f ≤ L.length) (k : Nat) (a : q_Cs) (m : q_MM) (h : MI L m a) (hne : a.2.1 ≠ []) (hdue : (m.2.2.2.2.2.2.2.2.2.2.2.2.2.2.2.2.2.2.1 && a.2.2.2.2.2.2.2.1) = a.2.2.2.2.2.2.2.2.2.1) (htl : a.2.2.2.2.2.2.2.2.2.2 = ln) (hX : m.2.2.2.2.2.2.2.2.2.2.2.2.2.2.2.2.2.2.2.1 = nI ln ∨ blkS L k f = false) (hb : a.2.1.flatten.length ≤ 2 * k + 2) (hlk : 3 * a.2.2.2.2.1.length ≤ k) (hkf : k ≤ f) :
    ∃ m', (∃ q, T_Model_textLine sE m.2.2.1 m'.1 m'.2.1 m'.2.2.2.2.1 m'.2.2.2.2.2.1 m'.2.2.2.2.2.2.2.2.2.2.2.1 m'.2.2.2.2.2.2.2.2.2.2.2.2.1 m'.2.2.2.2.2.2.2.2.2.2.2.2.2.1 m'.2.2.2.2.2.2.2.2.2.2.2.2.2.2.1 m'.2.2.2.2.2.2.2.2.2.2.2.2.2.2.2.1 m'.2.2.2.2.2.2.2.2.2.2.2.2.2.2.2.2.1 m'.2.2.2.2.2.2.2.2.2.2.2.2.2.2.2.2.2.1 m'.2.2.2.2.2.2.2.2.2.2.2.2.2.2.2.2.2.2.1 m'.2.2.2.2.2.2.2.2.2.2.2.2.2.2.2.2.2.2.2.1 q (nI f) (nI ln) (nI k) m.1 m.2.1 m.2.2.2.2.1 m.2.2.2.2.2.1 m.2.2.2.2.2.2.2.2.2.2.2.1 m.2.2.2.2.2.2.2.2.2.2.2.2.1 m.2.2.2.2.2.2.2.2.2.2.2.2.2.1 m.2.2.2.2.2.2.2.2.2.2.2.2.2.2.1 m.2.2.2.2.2.2.2.2.2.2.2.2.2.2.2.1 m.2.2.2.2.2.2.2.2.2.2.2.2.2.2.2.2.1 m.2.2.2.2.2.2.2.2.2.2.2.2.2.2.2.2.2.1 m.2.2.2.2.2.2.2.2.2.2.2.2.2.2.2.2.2.2.1 m.2.2.2.2.2.2.2.2.2.2.2.2.2.2.2.2.2.2.2.1) ∧ MR L m' (q_txt L f ln a k) ∧ keepM m m' ∧ ((q_txt L f ln a k).2.2.2.2.2.1 = 0 → m'.2.2.2.2.2.2.2.2.2.2.2.2.2.2.2.2.2.2.2.1 = nI ln ∧ (q_txt L f ln a k).2.2.2.2.2.2.2.2.2.2 = ln) := by
  have hL7 := hs.2.1
  have h' := h
  obtain ⟨z1, z2, z3, z4, z5, z6, z7, z8, z9, z10, z11, z12, z13, z14, z15⟩ := h
  have hpos : 0 < a.2.1.length := List.length_pos_iff.mpr hne
  have h10 := z7.1
  rw [q_txt]
  by_cases h1 : k < f
  · rw [if_pos ⟨h1, z2⟩]
    have hel := hs.2.2.2 k (by omega)
    have hvk := hv k
    have hne1 := dueB_ne hne
    have hl1 := dueB_len hne
    have hd : (dueB a).2.1.length = a.2.1.length := by
      simp only [dueB]; split
      · exact addB_len hne _
      · rfl
    -- a fault: nothing more is read
    have stop : ∀ (a9 : q_Cs), ¬ a9.2.2.2.2.2.1 = 0 → ∀ j, q_txt L f ln a9 j = a9 := fun a9 h9 j => by rw [q_txt, if_neg (fun h8 => h9 h8.2)]
    have hML : ∀ {x : Nat} {m9 : q_MM}, m9.2.2.2.2.2.2.2.2.2.2.2.1 = m.2.2.2.2.2.2.2.2.2.2.2.1 → m9.2.2.2.2.2.2.2.2.2.2.2.2.1 = m.2.2.2.2.2.2.2.2.2.2.2.2.1 → m9.2.2.2.2.2.2.2.2.2.2.2.2.2.1 = m.2.2.2.2.2.2.2.2.2.2.2.2.2.1 → m9.2.2.2.2.2.2.2.2.2.2.2.2.2.2.1 = m.2.2.2.2.2.2.2.2.2.2.2.2.2.2.1 → m9.2.2.2.2.2.2.2.2.2.2.2.2.2.2.2.1 = m.2.2.2.2.2.2.2.2.2.2.2.2.2.2.2.1 → ML L m9 (((dueB a).1, q_addB (dueB a).2.1 x, (dueB a).2.2.1, (dueB a).2.2.2.1, (dueB a).2.2.2.2.1, (dueB a).2.2.2.2.2.1, (dueB a).2.2.2.2.2.2.1, (dueB a).2.2.2.2.2.2.2.1, (dueB a).2.2.2.2.2.2.2.2.1, (dueB a).2.2.2.2.2.2.2.2.2.1, (dueB a).2.2.2.2.2.2.2.2.2.2) : q_Cs) := by
      intro x m9 q1 q2 q3 q4 q5
      have g1 : ML L m9 (dueB a) := by
        by_cases hdd : a.2.2.2.2.2.2.2.2.2.1 = true
        · exact ML.grow z11 hne (x := 32) (by simp only [dueB, hdd, if_true]) rfl q1 q2 q3 q4 q5
        · obtain ⟨y1, y2, y3⟩ := z11
          refine ⟨by rw [q1]; exact y1, y2, fun i hi => ?_⟩
          rw [q2, q3, q4, q5]
          simp only [dueB, hdd, if_false]
          exact y3 i hi
      exact ML.grow g1 hne1 rfl rfl rfl rfl rfl rfl rfl
    by_cases h32 : L.getD k 0 = 32
    · rw [if_pos h32]
      have hX' : m.2.2.2.2.2.2.2.2.2.2.2.2.2.2.2.2.2.2.2.1 = nI ln ∨ blkS L (k + 1) f = false := by
        rcases hX with hX | hX
        · exact Or.inl hX
        · rw [blk_step h1, decide_eq_true h32, Bool.true_and] at hX; exact Or.inr hX
      obtain ⟨m', ⟨q, hq⟩, d2⟩ := mi_txt hs hv hf (k + 1) ((a.1, a.2.1, a.2.2.1, a.2.2.2.1, a.2.2.2.2.1, a.2.2.2.2.2.1, a.2.2.2.2.2.2.1, a.2.2.2.2.2.2.2.1, a.2.2.2.2.2.2.2.2.1, a.2.2.2.2.2.2.2.1, a.2.2.2.2.2.2.2.2.2.2) : q_Cs) ((m.1, m.2.1, m.2.2.1, m.2.2.2.1, m.2.2.2.2.1, m.2.2.2.2.2.1, m.2.2.2.2.2.2.1, m.2.2.2.2.2.2.2.1, m.2.2.2.2.2.2.2.2.1, m.2.2.2.2.2.2.2.2.2.1, m.2.2.2.2.2.2.2.2.2.2.1, m.2.2.2.2.2.2.2.2.2.2.2.1, m.2.2.2.2.2.2.2.2.2.2.2.2.1, m.2.2.2.2.2.2.2.2.2.2.2.2.2.1, m.2.2.2.2.2.2.2.2.2.2.2.2.2.2.1, m.2.2.2.2.2.2.2.2.2.2.2.2.2.2.2.1, m.2.2.2.2.2.2.2.2.2.2.2.2.2.2.2.2.1, m.2.2.2.2.2.2.2.2.2.2.2.2.2.2.2.2.2.1, true, m.2.2.2.2.2.2.2.2.2.2.2.2.2.2.2.2.2.2.2.1, m.2.2.2.2.2.2.2.2.2.2.2.2.2.2.2.2.2.2.2.2.1, m.2.2.2.2.2.2.2.2.2.2.2.2.2.2.2.2.2.2.2.2.2) : q_MM) ⟨z1, z2, z3, z4, z5, z6, z7, z8, z9, z10, z11, z12, z13, z14, z15⟩ hne (by simp only [Bool.true_and]) htl hX' (by simp only; omega) (by simp only; omega) h1
      refine ⟨m', ⟨q + 1, ?_⟩, d2⟩
      rw [z1] at hq ⊢
      simp (disch := omega) only [T_Model_textLine, S_Model_textLine, B_Model_textLine_22, hel, h32, q_lit, le_T, le_F, lt_T, lt_F, eq_T, eq_F, m1_lt, m1_le, lt_m1, le_m1, eq_m1, m1_eq, nI_add, nI_sub, nI_dec, nI_mul, nI_or, nI_and, nI_div, nI_mod, and_255, and_31, and_1, and_63, nI_shl, nI_shr, bI_F, bI_1, vp_T, cl_T, true_implies, false_implies, not_true_eq_false, not_false_eq_true, true_and, and_true, false_and, and_false, Bool.false_eq_true, Bool.true_eq_false, reduceCtorEq, implies_true, q_lc_eq, q_lc_ge, q_lc_gt, q_lc_le, lN_or, lN_and, lN_shl, lN_shr, nI_L, lN_I, l_0]
      exact hq
    · rw [if_neg h32]
      by_cases h91 : L.getD k 0 = 91
      · rw [if_pos h91]
        cases hok : lkOkS L k f with
        | true =>
          have hge := letEnd_ge L (k + 1) f
          have hok2 := hok
          simp only [lkOkS, isWdS, Bool.and_eq_true, decide_eq_true_eq] at hok2
          rw [if_pos rfl]
          obtain ⟨Bo1, Le1, n1, lA1, lL1, lI1, lT1, b1, b2⟩ := mi_link hs hv (ln := ln) h' hne (by omega) hdue (by omega) h1 hf hok
          obtain ⟨m', ⟨q, hq⟩, d2⟩ := mi_txt hs hv hf (letEnd L (k + 1) f + 1) _ _ b2 (addB_ne _ _) rfl htl (Or.inl rfl) (by
            simp only [lnkA]
            rw [addB_flat (addB_ne _ _), addB_flat hne1]
            simp only [List.length_append, List.length_cons, List.length_nil]
            omega) (by simp only [lnkA, dueB, List.length_append, List.length_cons, List.length_nil]; omega) (by omega)
          refine ⟨m', ⟨q + 1, ?_⟩, d2⟩
          rw [z1] at b1 hq ⊢
          simp (disch := omega) only [T_Model_textLine, S_Model_textLine, B_Model_textLine_22, hel, h91, q_lit, le_T, le_F, lt_T, lt_F, eq_T, eq_F, m1_lt, m1_le, lt_m1, le_m1, eq_m1, m1_eq, nI_add, nI_sub, nI_dec, nI_mul, nI_or, nI_and, nI_div, nI_mod, and_255, and_31, and_1, and_63, nI_shl, nI_shr, bI_F, bI_1, vp_T, cl_T, true_implies, false_implies, not_true_eq_false, not_false_eq_true, true_and, and_true, false_and, and_false, Bool.false_eq_true, Bool.true_eq_false, reduceCtorEq, implies_true, q_lc_eq, q_lc_ge, q_lc_gt, q_lc_le, lN_or, lN_and, lN_shl, lN_shr, nI_L, lN_I, l_0]
          exact ⟨_, _, _, _, _, _, _, _, _, _, _, _, _, b1, by simp (disch := omega) only [q_lit, le_T, le_F, lt_T, lt_F, eq_T, eq_F, m1_lt, m1_le, lt_m1, le_m1, eq_m1, m1_eq, nI_add, nI_sub, nI_dec, nI_mul, nI_or, nI_and, nI_div, nI_mod, and_255, and_31, and_1, and_63, nI_shl, nI_shr, bI_F, bI_1, vp_T, cl_T, true_implies, false_implies, not_true_eq_false, not_false_eq_true, true_and, and_true, false_and, and_false, Bool.false_eq_true, Bool.true_eq_false, reduceCtorEq, implies_true]; exact hq⟩
        | false =>
          rw [if_neg (by simp)]
          have b1 := mi_noLink hs hv (ln := ln) z1 z3 h1 hf hok
          have hft : ¬ (blm 6 ln (dueB a)).2.2.2.2.2.1 = 0 := by simp [blm, dueB, z2]
          rw [stop _ hft]
          refine ⟨((nI ln, nI 6, m.2.2.1, m.2.2.2.1, m.2.2.2.2.1, m.2.2.2.2.2.1, m.2.2.2.2.2.2.1, m.2.2.2.2.2.2.2.1, m.2.2.2.2.2.2.2.2.1, m.2.2.2.2.2.2.2.2.2.1, m.2.2.2.2.2.2.2.2.2.2.1, m.2.2.2.2.2.2.2.2.2.2.2.1, m.2.2.2.2.2.2.2.2.2.2.2.2.1, m.2.2.2.2.2.2.2.2.2.2.2.2.2.1, m.2.2.2.2.2.2.2.2.2.2.2.2.2.2.1, m.2.2.2.2.2.2.2.2.2.2.2.2.2.2.2.1, m.2.2.2.2.2.2.2.2.2.2.2.2.2.2.2.2.1, m.2.2.2.2.2.2.2.2.2.2.2.2.2.2.2.2.2.1, m.2.2.2.2.2.2.2.2.2.2.2.2.2.2.2.2.2.2.1, m.2.2.2.2.2.2.2.2.2.2.2.2.2.2.2.2.2.2.2.1, m.2.2.2.2.2.2.2.2.2.2.2.2.2.2.2.2.2.2.2.2.1, m.2.2.2.2.2.2.2.2.2.2.2.2.2.2.2.2.2.2.2.2.2) : q_MM), ⟨2, ?_⟩, Or.inr ⟨hft, by simp [blm, dueB, z2], by simp [blm, dueB, z2], by simp [blm, dueB, z2], ⟨_, h10, z4⟩⟩, ⟨rfl, rfl, rfl, rfl, rfl, rfl, rfl, rfl, rfl⟩, fun h9 => absurd h9 hft⟩
          rw [z1] at b1 ⊢
          simp only [T_Model_textLine, S_Model_textLine, B_Model_textLine_22]
          simp (disch := omega) only [hel, h91, q_lit, le_T, le_F, lt_T, lt_F, eq_T, eq_F, m1_lt, m1_le, lt_m1, le_m1, eq_m1, m1_eq, nI_add, nI_sub, nI_dec, nI_mul, nI_or, nI_and, nI_div, nI_mod, and_255, and_31, and_1, and_63, nI_shl, nI_shr, bI_F, bI_1, vp_T, cl_T, true_implies, false_implies, not_true_eq_false, not_false_eq_true, true_and, and_true, false_and, and_false, Bool.false_eq_true, Bool.true_eq_false, reduceCtorEq, implies_true]
          refine ⟨_, _, _, _, _, _, _, _, _, _, _, _, _, b1, ?_⟩
          simp (disch := omega) only [q_lit, le_T, le_F, lt_T, lt_F, eq_T, eq_F, m1_lt, m1_le, lt_m1, le_m1, eq_m1, m1_eq, nI_add, nI_sub, nI_dec, nI_mul, nI_or, nI_and, nI_div, nI_mod, and_255, and_31, and_1, and_63, nI_shl, nI_shr, bI_F, bI_1, vp_T, cl_T, true_implies, false_implies, not_true_eq_false, not_false_eq_true, true_and, and_true, false_and, and_false, Bool.false_eq_true, Bool.true_eq_false, reduceCtorEq, implies_true]
      · rw [if_neg h91]
        by_cases h93 : L.getD k 0 = 93
        · have hft : ¬ (q_sgn (L.getD k 0) ln (dueB a)).2.2.2.2.2.1 = 0 := by rw [h93]; simp [q_sgn, blm, dueB, z2]
          have e1 : (q_sgn (L.getD k 0) ln (dueB a)) = blm 6 ln (dueB a) := by rw [h93]; simp [q_sgn]
          rw [stop _ hft]
          rw [e1] at hft ⊢
          refine ⟨((nI ln, nI 6, m.2.2.1, m.2.2.2.1, m.2.2.2.2.1, m.2.2.2.2.2.1, m.2.2.2.2.2.2.1, m.2.2.2.2.2.2.2.1, m.2.2.2.2.2.2.2.2.1, m.2.2.2.2.2.2.2.2.2.1, m.2.2.2.2.2.2.2.2.2.2.1, m.2.2.2.2.2.2.2.2.2.2.2.1, m.2.2.2.2.2.2.2.2.2.2.2.2.1, m.2.2.2.2.2.2.2.2.2.2.2.2.2.1, m.2.2.2.2.2.2.2.2.2.2.2.2.2.2.1, m.2.2.2.2.2.2.2.2.2.2.2.2.2.2.2.1, m.2.2.2.2.2.2.2.2.2.2.2.2.2.2.2.2.1, m.2.2.2.2.2.2.2.2.2.2.2.2.2.2.2.2.2.1, m.2.2.2.2.2.2.2.2.2.2.2.2.2.2.2.2.2.2.1, m.2.2.2.2.2.2.2.2.2.2.2.2.2.2.2.2.2.2.2.1, m.2.2.2.2.2.2.2.2.2.2.2.2.2.2.2.2.2.2.2.2.1, m.2.2.2.2.2.2.2.2.2.2.2.2.2.2.2.2.2.2.2.2.2) : q_MM), ⟨2, ?_⟩, Or.inr ⟨hft, by simp [blm, dueB, z2], by simp [blm, dueB, z2], by simp [blm, dueB, z2], ⟨_, h10, z4⟩⟩, ⟨rfl, rfl, rfl, rfl, rfl, rfl, rfl, rfl, rfl⟩, fun h9 => absurd h9 hft⟩
          rw [z1, z3]
          simp only [T_Model_textLine, S_Model_textLine, B_Model_textLine_22]
          simp (disch := omega) only [hel, h93, q_lit, le_T, le_F, lt_T, lt_F, eq_T, eq_F, m1_lt, m1_le, lt_m1, le_m1, eq_m1, m1_eq, nI_add, nI_sub, nI_dec, nI_mul, nI_or, nI_and, nI_div, nI_mod, and_255, and_31, and_1, and_63, nI_shl, nI_shr, bI_F, bI_1, vp_T, cl_T, true_implies, false_implies, not_true_eq_false, not_false_eq_true, true_and, and_true, false_and, and_false, Bool.false_eq_true, Bool.true_eq_false, reduceCtorEq, implies_true]
          refine ⟨_, _, mo_fail0, ?_⟩
          simp (disch := omega) only [q_lit, le_T, le_F, lt_T, lt_F, eq_T, eq_F, m1_lt, m1_le, lt_m1, le_m1, eq_m1, m1_eq, nI_add, nI_sub, nI_dec, nI_mul, nI_or, nI_and, nI_div, nI_mod, and_255, and_31, and_1, and_63, nI_shl, nI_shr, bI_F, bI_1, vp_T, cl_T, true_implies, false_implies, not_true_eq_false, not_false_eq_true, true_and, and_true, false_and, and_false, Bool.false_eq_true, Bool.true_eq_false, reduceCtorEq, implies_true]
        · by_cases h42 : L.getD k 0 = 42
          · obtain ⟨Bo1, Le1, b1, b2⟩ := mo_sign z4 z7 hne (by omega) z12 hdue 1 ln
            have e1 : q_sgn (L.getD k 0) ln (dueB a) = (((dueB a).1, q_addB (dueB a).2.1 1, (dueB a).2.2.1, (dueB a).2.2.2.1, (dueB a).2.2.2.2.1, (dueB a).2.2.2.2.2.1, (dueB a).2.2.2.2.2.2.1, (dueB a).2.2.2.2.2.2.2.1, !a.2.2.2.2.2.2.2.2.1, (dueB a).2.2.2.2.2.2.2.2.2.1, (dueB a).2.2.2.2.2.2.2.2.2.2) : q_Cs) := by rw [h42]; simp [q_sgn, dueB]
            rw [e1]
            have hn : MI L ((m.1, m.2.1, m.2.2.1, m.2.2.2.1, Bo1, Le1, m.2.2.2.2.2.2.1, m.2.2.2.2.2.2.2.1, m.2.2.2.2.2.2.2.2.1, m.2.2.2.2.2.2.2.2.2.1, m.2.2.2.2.2.2.2.2.2.2.1, m.2.2.2.2.2.2.2.2.2.2.2.1, m.2.2.2.2.2.2.2.2.2.2.2.2.1, m.2.2.2.2.2.2.2.2.2.2.2.2.2.1, m.2.2.2.2.2.2.2.2.2.2.2.2.2.2.1, m.2.2.2.2.2.2.2.2.2.2.2.2.2.2.2.1, true, !a.2.2.2.2.2.2.2.2.1, false, nI ln, m.2.2.2.2.2.2.2.2.2.2.2.2.2.2.2.2.2.2.2.2.1, m.2.2.2.2.2.2.2.2.2.2.2.2.2.2.2.2.2.2.2.2.2) : q_MM) (((dueB a).1, q_addB (dueB a).2.1 1, (dueB a).2.2.1, (dueB a).2.2.2.1, (dueB a).2.2.2.2.1, (dueB a).2.2.2.2.2.1, (dueB a).2.2.2.2.2.2.1, (dueB a).2.2.2.2.2.2.2.1, !a.2.2.2.2.2.2.2.2.1, (dueB a).2.2.2.2.2.2.2.2.2.1, (dueB a).2.2.2.2.2.2.2.2.2.2) : q_Cs) := by
              refine ⟨z1, z2, z3, by simp only; rw [addB_len hne1, hd]; exact z4, by simp only; rw [addB_len hne1, hd]; exact z5, by simp only; rw [addB_len hne1, hd]; exact z6, b2, z8, fun t ht => z9 t (by simp only at ht; rw [addB_len hne1, hd] at ht; exact ht), z10, ?_, rfl, rfl, fun _ => addB_ne _ _, fun h9 => by cases h9⟩
              obtain ⟨y1, y2, y3⟩ := hML (x := 1) (m9 := ((m.1, m.2.1, m.2.2.1, m.2.2.2.1, Bo1, Le1, m.2.2.2.2.2.2.1, m.2.2.2.2.2.2.2.1, m.2.2.2.2.2.2.2.2.1, m.2.2.2.2.2.2.2.2.2.1, m.2.2.2.2.2.2.2.2.2.2.1, m.2.2.2.2.2.2.2.2.2.2.2.1, m.2.2.2.2.2.2.2.2.2.2.2.2.1, m.2.2.2.2.2.2.2.2.2.2.2.2.2.1, m.2.2.2.2.2.2.2.2.2.2.2.2.2.2.1, m.2.2.2.2.2.2.2.2.2.2.2.2.2.2.2.1, true, !a.2.2.2.2.2.2.2.2.1, false, nI ln, m.2.2.2.2.2.2.2.2.2.2.2.2.2.2.2.2.2.2.2.2.1, m.2.2.2.2.2.2.2.2.2.2.2.2.2.2.2.2.2.2.2.2.2) : q_MM)) rfl rfl rfl rfl rfl
              exact ⟨y1, y2, y3⟩
            obtain ⟨m', ⟨q, hq⟩, d2⟩ := mi_txt hs hv hf (k + 1) _ _ hn (addB_ne _ _) rfl htl (Or.inl rfl) (by simp only; rw [addB_flat hne1]; simp only [List.length_append, List.length_cons, List.length_nil]; omega) (by simp only [dueB]; omega) h1
            refine ⟨m', ⟨q + 1, ?_⟩, d2⟩
            rw [z1, z13] at *
            simp (disch := omega) only [T_Model_textLine, S_Model_textLine, B_Model_textLine_22, hel, h42, q_lit, le_T, le_F, lt_T, lt_F, eq_T, eq_F, m1_lt, m1_le, lt_m1, le_m1, eq_m1, m1_eq, nI_add, nI_sub, nI_dec, nI_mul, nI_or, nI_and, nI_div, nI_mod, and_255, and_31, and_1, and_63, nI_shl, nI_shr, bI_F, bI_1, vp_T, cl_T, true_implies, false_implies, not_true_eq_false, not_false_eq_true, true_and, and_true, false_and, and_false, Bool.false_eq_true, Bool.true_eq_false, reduceCtorEq, implies_true, q_lc_eq, q_lc_ge, q_lc_gt, q_lc_le, lN_or, lN_and, lN_shl, lN_shr, nI_L, lN_I, l_0]
            refine ⟨Bo1, Le1, true, false, nI ln, b1, ?_⟩
            cases hem : a.2.2.2.2.2.2.2.2.1 with
            | true => rw [hem] at hq; simp (disch := omega) only [q_lit, le_T, le_F, lt_T, lt_F, eq_T, eq_F, m1_lt, m1_le, lt_m1, le_m1, eq_m1, m1_eq, nI_add, nI_sub, nI_dec, nI_mul, nI_or, nI_and, nI_div, nI_mod, and_255, and_31, and_1, and_63, nI_shl, nI_shr, bI_F, bI_1, vp_T, cl_T, true_implies, false_implies, not_true_eq_false, not_false_eq_true, true_and, and_true, false_and, and_false, Bool.false_eq_true, Bool.true_eq_false, reduceCtorEq, implies_true]; exact hq
            | false => rw [hem] at hq; simp (disch := omega) only [q_lit, le_T, le_F, lt_T, lt_F, eq_T, eq_F, m1_lt, m1_le, lt_m1, le_m1, eq_m1, m1_eq, nI_add, nI_sub, nI_dec, nI_mul, nI_or, nI_and, nI_div, nI_mod, and_255, and_31, and_1, and_63, nI_shl, nI_shr, bI_F, bI_1, vp_T, cl_T, true_implies, false_implies, not_true_eq_false, not_false_eq_true, true_and, and_true, false_and, and_false, Bool.false_eq_true, Bool.true_eq_false, reduceCtorEq, implies_true]; exact hq
          · obtain ⟨Bo1, Le1, b1, b2⟩ := mo_sign z4 z7 hne (by omega) z12 hdue (L.getD k 0) ln
            have e1 : q_sgn (L.getD k 0) ln (dueB a) = (((dueB a).1, q_addB (dueB a).2.1 (L.getD k 0), (dueB a).2.2.1, (dueB a).2.2.2.1, (dueB a).2.2.2.2.1, (dueB a).2.2.2.2.2.1, (dueB a).2.2.2.2.2.2.1, (dueB a).2.2.2.2.2.2.2.1, (dueB a).2.2.2.2.2.2.2.2.1, (dueB a).2.2.2.2.2.2.2.2.2.1, (dueB a).2.2.2.2.2.2.2.2.2.2) : q_Cs) := by simp only [q_sgn, h93, h42, if_false]
            rw [e1]
            have hn : MI L ((m.1, m.2.1, m.2.2.1, m.2.2.2.1, Bo1, Le1, m.2.2.2.2.2.2.1, m.2.2.2.2.2.2.2.1, m.2.2.2.2.2.2.2.2.1, m.2.2.2.2.2.2.2.2.2.1, m.2.2.2.2.2.2.2.2.2.2.1, m.2.2.2.2.2.2.2.2.2.2.2.1, m.2.2.2.2.2.2.2.2.2.2.2.2.1, m.2.2.2.2.2.2.2.2.2.2.2.2.2.1, m.2.2.2.2.2.2.2.2.2.2.2.2.2.2.1, m.2.2.2.2.2.2.2.2.2.2.2.2.2.2.2.1, true, m.2.2.2.2.2.2.2.2.2.2.2.2.2.2.2.2.2.1, false, nI ln, m.2.2.2.2.2.2.2.2.2.2.2.2.2.2.2.2.2.2.2.2.1, m.2.2.2.2.2.2.2.2.2.2.2.2.2.2.2.2.2.2.2.2.2) : q_MM) (((dueB a).1, q_addB (dueB a).2.1 (L.getD k 0), (dueB a).2.2.1, (dueB a).2.2.2.1, (dueB a).2.2.2.2.1, (dueB a).2.2.2.2.2.1, (dueB a).2.2.2.2.2.2.1, (dueB a).2.2.2.2.2.2.2.1, (dueB a).2.2.2.2.2.2.2.2.1, (dueB a).2.2.2.2.2.2.2.2.2.1, (dueB a).2.2.2.2.2.2.2.2.2.2) : q_Cs) := by
              refine ⟨z1, z2, z3, by simp only; rw [addB_len hne1, hd]; exact z4, by simp only; rw [addB_len hne1, hd]; exact z5, by simp only; rw [addB_len hne1, hd]; exact z6, b2, z8, fun t ht => z9 t (by simp only at ht; rw [addB_len hne1, hd] at ht; exact ht), z10, ?_, rfl, z13, fun _ => addB_ne _ _, fun h9 => by cases h9⟩
              obtain ⟨y1, y2, y3⟩ := hML (x := L.getD k 0) (m9 := ((m.1, m.2.1, m.2.2.1, m.2.2.2.1, Bo1, Le1, m.2.2.2.2.2.2.1, m.2.2.2.2.2.2.2.1, m.2.2.2.2.2.2.2.2.1, m.2.2.2.2.2.2.2.2.2.1, m.2.2.2.2.2.2.2.2.2.2.1, m.2.2.2.2.2.2.2.2.2.2.2.1, m.2.2.2.2.2.2.2.2.2.2.2.2.1, m.2.2.2.2.2.2.2.2.2.2.2.2.2.1, m.2.2.2.2.2.2.2.2.2.2.2.2.2.2.1, m.2.2.2.2.2.2.2.2.2.2.2.2.2.2.2.1, true, m.2.2.2.2.2.2.2.2.2.2.2.2.2.2.2.2.2.1, false, nI ln, m.2.2.2.2.2.2.2.2.2.2.2.2.2.2.2.2.2.2.2.2.1, m.2.2.2.2.2.2.2.2.2.2.2.2.2.2.2.2.2.2.2.2.2) : q_MM)) rfl rfl rfl rfl rfl
              exact ⟨y1, y2, y3⟩
            obtain ⟨m', ⟨q, hq⟩, d2⟩ := mi_txt hs hv hf (k + 1) _ _ hn (addB_ne _ _) rfl htl (Or.inl rfl) (by simp only; rw [addB_flat hne1]; simp only [List.length_append, List.length_cons, List.length_nil]; omega) (by simp only [dueB]; omega) h1
            refine ⟨m', ⟨q + 1, ?_⟩, d2⟩
            rw [z1] at hq ⊢
            simp (disch := omega) only [T_Model_textLine, S_Model_textLine, B_Model_textLine_22, hel, q_lit, le_T, le_F, lt_T, lt_F, eq_T, eq_F, m1_lt, m1_le, lt_m1, le_m1, eq_m1, m1_eq, nI_add, nI_sub, nI_dec, nI_mul, nI_or, nI_and, nI_div, nI_mod, and_255, and_31, and_1, and_63, nI_shl, nI_shr, bI_F, bI_1, vp_T, cl_T, true_implies, false_implies, not_true_eq_false, not_false_eq_true, true_and, and_true, false_and, and_false, Bool.false_eq_true, Bool.true_eq_false, reduceCtorEq, implies_true, q_lc_eq, q_lc_ge, q_lc_gt, q_lc_le, lN_or, lN_and, lN_shl, lN_shr, nI_L, lN_I, l_0]
            exact ⟨Bo1, Le1, true, false, nI ln, b1, hq⟩
  · rw [if_neg (fun h9 => h1 h9.1)]
    refine ⟨m, ⟨1, ?_⟩, Or.inl ⟨z2, h'⟩, ⟨rfl, rfl, rfl, rfl, rfl, rfl, rfl, rfl, rfl⟩, fun _ => ⟨?_, htl⟩⟩
    · simp (disch := omega) only [T_Model_textLine, S_Model_textLine, B_Model_textLine_22, q_lit, le_T, le_F, lt_T, lt_F, eq_T, eq_F, m1_lt, m1_le, lt_m1, le_m1, eq_m1, m1_eq, nI_add, nI_sub, nI_dec, nI_mul, nI_or, nI_and, nI_div, nI_mod, and_255, and_31, and_1, and_63, nI_shl, nI_shr, bI_F, bI_1, vp_T, cl_T, true_implies, false_implies, not_true_eq_false, not_false_eq_true, true_and, and_true, false_and, and_false, Bool.false_eq_true, Bool.true_eq_false, reduceCtorEq, implies_true, q_lc_eq, q_lc_ge, q_lc_gt, q_lc_le, lN_or, lN_and, lN_shl, lN_shr, nI_L, lN_I, l_0]
    · rcases hX with hX | hX
      · exact hX
      · rw [blk_stop (by omega)] at hX; cases hX
termination_by f - k
decreasing_by
  · omega
  · have := letEnd_ge L (k + 1) f; omega
  · omega
  · omega
