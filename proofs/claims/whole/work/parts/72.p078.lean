/-! Pure: the bodies of a book of the class. -/
abbrev bd (bs : List (List Nat)) (t : Nat) : List Nat := bs.getD t []
def q_off (bs : List (List Nat)) (t : Nat) : Nat := (bs.take t).flatten.length
theorem bd_cons_s (b : List Nat) (bs : List (List Nat)) (t : Nat) : bd (b :: bs) (t + 1) = bd bs t := by simp [bd]
theorem off_cons_s (b : List Nat) (bs : List (List Nat)) (t : Nat) : q_off (b :: bs) (t + 1) = b.length + q_off bs t := by simp [q_off]
theorem off_0 (bs : List (List Nat)) : q_off bs 0 = 0 := by simp [q_off]
theorem off_succ {bs : List (List Nat)} {t : Nat} (h : t < bs.length) : q_off bs (t + 1) = q_off bs t + (bd bs t).length := by
  induction bs generalizing t with
  | nil => simp at h
  | cons b bs ih =>
    cases t with
    | zero => simp [q_off]
    | succ t =>
      rw [off_cons_s, off_cons_s, bd_cons_s, ih (by simpa using h)]; omega
theorem off_all (bs : List (List Nat)) : q_off bs bs.length = bs.flatten.length := by simp [q_off]
theorem q_off_le (bs : List (List Nat)) (t : Nat) : q_off bs t ≤ bs.flatten.length := by
  induction bs generalizing t with
  | nil => simp [q_off]
  | cons b bs ih =>
    cases t with
    | zero => simp [q_off]
    | succ t =>
      have := ih t
      rw [off_cons_s]; simp only [List.flatten_cons, List.length_append]; omega
theorem off_end {bs : List (List Nat)} {t : Nat} (h : t < bs.length) : q_off bs t + (bd bs t).length ≤ bs.flatten.length := by
  rw [← off_succ h]; exact q_off_le _ _
theorem q_flat_get {bs : List (List Nat)} {t i : Nat} (h : t < bs.length) (hi : i < (bd bs t).length) : bs.flatten.getD (q_off bs t + i) 0 = (bd bs t).getD i 0 := by
  induction bs generalizing t with
  | nil => simp at h
  | cons b bs ih =>
    cases t with
    | zero =>
      simp only [bd, List.getD_cons_zero] at hi ⊢
      simp only [q_off, List.take_zero, List.flatten_nil, List.length_nil, Nat.zero_add, List.flatten_cons, List.getD_eq_getElem?_getD]
      rw [List.getElem?_append_left hi]
    | succ t =>
      rw [bd_cons_s] at hi ⊢
      rw [off_cons_s, List.flatten_cons, ← ih (by simpa using h) hi]
      simp only [List.getD_eq_getElem?_getD]
      rw [List.getElem?_append_right (by omega)]
      congr 2; omega
def CB (S BE : Nat → Int32) (BC T : Int32) (bs : List (List Nat)) : Prop := T = nI bs.length ∧ bs.length ≤ 10 ∧ Rw 2550 BE BC bs.flatten ∧ (∀ t, t ≤ bs.length → 0 < bs.length → S t = nI (q_off bs t)) ∧ ∀ i, bs.flatten.getD i 0 < 2147483648
theorem cb_has {T : Int32} {n : Nat} (hT : T = nI n) (hn : n ≤ 10) {k : Nat} (hk : k < 2147483648) : D_Book_has (nI k) T (decide (k < n)) := by
  subst hT
  by_cases h : k < n
  · simp (disch := omega) only [D_Book_has, q_lit, le_T, le_F, lt_T, lt_F, eq_T, eq_F, m1_lt, m1_le, lt_m1, le_m1, eq_m1, m1_eq, nI_add, nI_sub, nI_dec, nI_mul, nI_or, nI_and, nI_div, nI_mod, and_255, and_31, and_1, and_63, nI_shl, nI_shr, bI_F, bI_1, vp_T, cl_T, true_implies, false_implies, not_true_eq_false, not_false_eq_true, true_and, and_true, false_and, and_false, Bool.false_eq_true, Bool.true_eq_false, reduceCtorEq, implies_true]
    simp [h]
  · simp (disch := omega) only [D_Book_has, q_lit, le_T, le_F, lt_T, lt_F, eq_T, eq_F, m1_lt, m1_le, lt_m1, le_m1, eq_m1, m1_eq, nI_add, nI_sub, nI_dec, nI_mul, nI_or, nI_and, nI_div, nI_mod, and_255, and_31, and_1, and_63, nI_shl, nI_shr, bI_F, bI_1, vp_T, cl_T, true_implies, false_implies, not_true_eq_false, not_false_eq_true, true_and, and_true, false_and, and_false, Bool.false_eq_true, Bool.true_eq_false, reduceCtorEq, implies_true]
    simp [h]
theorem cb_start {S BE : Nat → Int32} {BC T : Int32} {bs : List (List Nat)} (h : CB S BE BC T bs) {t : Nat} (ht : t < bs.length) : D_Book_bodyStart (nI t) S T (nI (q_off bs t)) := by
  have h2 := h.2.1
  refine ⟨_, cb_has h.1 h.2.1 (by omega), ?_⟩
  have e := h.2.2.2.1 t (by omega) (by omega)
  simp (disch := omega) only [ht, decide_true, e, q_lit, le_T, le_F, lt_T, lt_F, eq_T, eq_F, m1_lt, m1_le, lt_m1, le_m1, eq_m1, m1_eq, nI_add, nI_sub, nI_dec, nI_mul, nI_or, nI_and, nI_div, nI_mod, and_255, and_31, and_1, and_63, nI_shl, nI_shr, bI_F, bI_1, vp_T, cl_T, true_implies, false_implies, not_true_eq_false, not_false_eq_true, true_and, and_true, false_and, and_false, Bool.false_eq_true, Bool.true_eq_false, reduceCtorEq, implies_true]
theorem cb_end {S BE : Nat → Int32} {BC T : Int32} {bs : List (List Nat)} (h : CB S BE BC T bs) {t : Nat} (ht : t < bs.length) : D_Book_bodyEnd (nI t) S T (nI (q_off bs t + (bd bs t).length)) := by
  have h2 := h.2.1
  refine ⟨_, cb_has h.1 h.2.1 (by omega), ?_⟩
  have e := h.2.2.2.1 (t + 1) (by omega) (by omega)
  rw [off_succ ht] at e
  simp (disch := omega) only [ht, decide_true, e, q_lit, le_T, le_F, lt_T, lt_F, eq_T, eq_F, m1_lt, m1_le, lt_m1, le_m1, eq_m1, m1_eq, nI_add, nI_sub, nI_dec, nI_mul, nI_or, nI_and, nI_div, nI_mod, and_255, and_31, and_1, and_63, nI_shl, nI_shr, bI_F, bI_1, vp_T, cl_T, true_implies, false_implies, not_true_eq_false, not_false_eq_true, true_and, and_true, false_and, and_false, Bool.false_eq_true, Bool.true_eq_false, reduceCtorEq, implies_true]
theorem cb_len {S BE : Nat → Int32} {BC T : Int32} {bs : List (List Nat)} (h : CB S BE BC T bs) {t : Nat} (ht : t < bs.length) : D_Book_bodyLength (nI t) S T (nI (bd bs t).length) := by
  refine ⟨_, cb_end h ht, _, cb_start h ht, ?_⟩
  simp (disch := omega) only [q_lit, le_T, le_F, lt_T, lt_F, eq_T, eq_F, m1_lt, m1_le, lt_m1, le_m1, eq_m1, m1_eq, nI_add, nI_sub, nI_dec, nI_mul, nI_or, nI_and, nI_div, nI_mod, and_255, and_31, and_1, and_63, nI_shl, nI_shr, bI_F, bI_1, vp_T, cl_T, true_implies, false_implies, not_true_eq_false, not_false_eq_true, true_and, and_true, false_and, and_false, Bool.false_eq_true, Bool.true_eq_false, reduceCtorEq, implies_true]
theorem cb_el {S BE : Nat → Int32} {BC T : Int32} {bs : List (List Nat)} (h : CB S BE BC T bs) {t i : Nat} (ht : t < bs.length) (hi : i < (bd bs t).length) : D_Row_element 2550 (nI (q_off bs t + i)) BE BC (nI ((bd bs t).getD i 0)) := by
  rw [← q_flat_get ht hi]
  have := off_end ht
  have := h.2.2.1.2.1
  exact row_el h.2.2.1 (by omega)
theorem CB.len {S BE : Nat → Int32} {BC T : Int32} {bs : List (List Nat)} (h : CB S BE BC T bs) {t : Nat} (ht : t < bs.length) : q_off bs t + (bd bs t).length ≤ 2550 := by
  have := off_end ht
  have := h.2.2.1.2.1
  omega
theorem CB.v {S BE : Nat → Int32} {BC T : Int32} {bs : List (List Nat)} (h : CB S BE BC T bs) {t : Nat} (ht : t < bs.length) (i : Nat) : (bd bs t).getD i 0 < 2147483648 := by
  rcases Nat.lt_or_ge i (bd bs t).length with h1 | h1
  · rw [← q_flat_get ht h1]; exact h.2.2.2.2 _
  · rw [List.getD_eq_getElem?_getD, List.getElem?_eq_none h1]; simp
/-- the targets of a body's links -/
def lnks : List Nat → List Nat
  | [] => []
  | [_] => []
  | x :: y :: r => if x = 2 then y :: lnks r else lnks (y :: r)
/-- no link is cut q_off -/
def lkOk : List Nat → Bool
  | [] => true
  | [x] => decide (x ≠ 2)
  | x :: y :: r => if x = 2 then lkOk r else lkOk (y :: r)
theorem drop_s {b : List Nat} {p : Nat} (h : p < b.length) : b.drop p = b.getD p 0 :: b.drop (p + 1) := by
  rw [List.drop_eq_getElem_cons h]
  simp [List.getD_eq_getElem?_getD, List.getElem?_eq_getElem h]
theorem lnks_link {b : List Nat} {p : Nat} (hp : p < b.length) (hk : lkOk (b.drop p) = true) (h2 : b.getD p 0 = 2) : p + 1 < b.length ∧ lnks (b.drop p) = b.getD (p + 1) 0 :: lnks (b.drop (p + 2)) ∧ lkOk (b.drop (p + 2)) = true := by
  rw [drop_s hp, h2] at hk ⊢
  rcases Nat.lt_or_ge (p + 1) b.length with h | h
  · rw [drop_s h] at hk ⊢
    simp only [lnks, lkOk, if_true] at hk ⊢
    exact ⟨h, trivial, hk⟩
  · rw [List.drop_eq_nil_of_le h] at hk
    simp [lkOk] at hk
theorem lnks_not {b : List Nat} {p : Nat} (hp : p < b.length) (hk : lkOk (b.drop p) = true) (h2 : ¬ b.getD p 0 = 2) : lnks (b.drop p) = lnks (b.drop (p + 1)) ∧ lkOk (b.drop (p + 1)) = true := by
  rw [drop_s hp] at hk ⊢
  rcases Nat.lt_or_ge (p + 1) b.length with h | h
  · rw [drop_s h] at hk ⊢
    simp only [lnks, lkOk, if_neg h2] at hk ⊢
    exact ⟨trivial, hk⟩
  · rw [List.drop_eq_nil_of_le h]
    simp [lnks, lkOk]
theorem lnks_len (b : List Nat) : (lnks b).length ≤ b.length := by
  fun_induction lnks b <;> simp_all <;> omega
theorem t_links {S BE : Nat → Int32} {BC T : Int32} {bs : List (List Nat)} (h : CB S BE BC T bs) {t : Nat} (ht : t < bs.length) (c p : Nat) (hp : p ≤ (bd bs t).length) (hk : lkOk ((bd bs t).drop p) = true) (hc : c ≤ p) : ∃ m, T_Book_links 2550 S BE BC T (nI (c + (lnks ((bd bs t).drop p)).length)) m (nI t) (nI c) (nI (q_off bs t + p)) := by
  have hl := h.len ht
  by_cases h1 : p < (bd bs t).length
  · have hv := h.v ht p
    by_cases h2 : (bd bs t).getD p 0 = 2
    · obtain ⟨a1, a2, a3⟩ := lnks_link h1 hk h2
      obtain ⟨m, hm⟩ := t_links h ht (c + 1) (p + 2) (by omega) a3 (by omega)
      refine ⟨m + 1, ?_⟩
      rw [a2, List.length_cons, show c + ((lnks ((bd bs t).drop (p + 2))).length + 1) = c + 1 + (lnks ((bd bs t).drop (p + 2))).length by omega]
      simp only [T_Book_links, S_Book_links, B_Book_links_8]
      refine ⟨_, cb_end h ht, ?_⟩
      simp (disch := omega) only [q_lit, le_T, le_F, lt_T, lt_F, eq_T, eq_F, m1_lt, m1_le, lt_m1, le_m1, eq_m1, m1_eq, nI_add, nI_sub, nI_dec, nI_mul, nI_or, nI_and, nI_div, nI_mod, and_255, and_31, and_1, and_63, nI_shl, nI_shr, bI_F, bI_1, vp_T, cl_T, true_implies, false_implies, not_true_eq_false, not_false_eq_true, true_and, and_true, false_and, and_false, Bool.false_eq_true, Bool.true_eq_false, reduceCtorEq, implies_true]
      refine ⟨_, cb_el h ht h1, ?_⟩
      simp (disch := omega) only [q_lit, le_T, le_F, lt_T, lt_F, eq_T, eq_F, m1_lt, m1_le, lt_m1, le_m1, eq_m1, m1_eq, nI_add, nI_sub, nI_dec, nI_mul, nI_or, nI_and, nI_div, nI_mod, and_255, and_31, and_1, and_63, nI_shl, nI_shr, bI_F, bI_1, vp_T, cl_T, true_implies, false_implies, not_true_eq_false, not_false_eq_true, true_and, and_true, false_and, and_false, Bool.false_eq_true, Bool.true_eq_false, reduceCtorEq, implies_true]
      exact hm
    · obtain ⟨a2, a3⟩ := lnks_not h1 hk h2
      obtain ⟨m, hm⟩ := t_links h ht c (p + 1) (by omega) a3 (by omega)
      refine ⟨m + 1, ?_⟩
      rw [a2]
      simp only [T_Book_links, S_Book_links, B_Book_links_8]
      refine ⟨_, cb_end h ht, ?_⟩
      simp (disch := omega) only [q_lit, le_T, le_F, lt_T, lt_F, eq_T, eq_F, m1_lt, m1_le, lt_m1, le_m1, eq_m1, m1_eq, nI_add, nI_sub, nI_dec, nI_mul, nI_or, nI_and, nI_div, nI_mod, and_255, and_31, and_1, and_63, nI_shl, nI_shr, bI_F, bI_1, vp_T, cl_T, true_implies, false_implies, not_true_eq_false, not_false_eq_true, true_and, and_true, false_and, and_false, Bool.false_eq_true, Bool.true_eq_false, reduceCtorEq, implies_true]
      refine ⟨_, cb_el h ht h1, ?_⟩
      simp (disch := omega) only [q_lit, le_T, le_F, lt_T, lt_F, eq_T, eq_F, m1_lt, m1_le, lt_m1, le_m1, eq_m1, m1_eq, nI_add, nI_sub, nI_dec, nI_mul, nI_or, nI_and, nI_div, nI_mod, and_255, and_31, and_1, and_63, nI_shl, nI_shr, bI_F, bI_1, vp_T, cl_T, true_implies, false_implies, not_true_eq_false, not_false_eq_true, true_and, and_true, false_and, and_false, Bool.false_eq_true, Bool.true_eq_false, reduceCtorEq, implies_true]
      exact hm
  · refine ⟨1, ?_⟩
    rw [List.drop_eq_nil_of_le (by omega)]
    simp only [T_Book_links, S_Book_links, B_Book_links_8]
    refine ⟨_, cb_end h ht, ?_⟩
    simp (disch := omega) only [lnks, List.length_nil, q_lit, le_T, le_F, lt_T, lt_F, eq_T, eq_F, m1_lt, m1_le, lt_m1, le_m1, eq_m1, m1_eq, nI_add, nI_sub, nI_dec, nI_mul, nI_or, nI_and, nI_div, nI_mod, and_255, and_31, and_1, and_63, nI_shl, nI_shr, bI_F, bI_1, vp_T, cl_T, true_implies, false_implies, not_true_eq_false, not_false_eq_true, true_and, and_true, false_and, and_false, Bool.false_eq_true, Bool.true_eq_false, reduceCtorEq, implies_true]
termination_by (bd bs t).length - p
decreasing_by all_goals omega
theorem cb_links {S BE : Nat → Int32} {BC T : Int32} {bs : List (List Nat)} (h : CB S BE BC T bs) {t : Nat} (ht : t < bs.length) (hk : lkOk (bd bs t) = true) : D_Book_links 2550 (nI t) S BE BC T (nI (lnks (bd bs t)).length) := by
  obtain ⟨m, hm⟩ := t_links h ht 0 0 (by omega) (by simpa using hk) (by omega)
  refine ⟨m, _, cb_start h ht, ?_⟩
  simpa [q_lit] using hm
/-- a link's target, or the sign for none -/
def lkTo (k : Int32) (l : List Nat) : Int32 := match l with
  | [] => -nI 1
  | y :: r => if k = 0 then nI y else lkTo (k + -nI 1) r
theorem t_target {S BE : Nat → Int32} {BC T : Int32} {bs : List (List Nat)} (h : CB S BE BC T bs) {t : Nat} (ht : t < bs.length) (k : Int32) (p : Nat) (hp : p ≤ (bd bs t).length) (hk : lkOk ((bd bs t).drop p) = true) : ∃ m, T_Book_linkTarget 2550 S BE BC T (lkTo k (lnks ((bd bs t).drop p))) m (nI t) k (nI (q_off bs t + p)) := by
  have hl := h.len ht
  by_cases h1 : p < (bd bs t).length
  · have hv := h.v ht p
    by_cases h2 : (bd bs t).getD p 0 = 2
    · obtain ⟨a1, a2, a3⟩ := lnks_link h1 hk h2
      by_cases hk0 : k = 0
      · refine ⟨1, ?_⟩
        rw [a2]
        simp only [T_Book_linkTarget, S_Book_linkTarget, B_Book_linkTarget_9]
        refine ⟨_, cb_end h ht, ?_⟩
        simp (disch := omega) only [q_lit, le_T, le_F, lt_T, lt_F, eq_T, eq_F, m1_lt, m1_le, lt_m1, le_m1, eq_m1, m1_eq, nI_add, nI_sub, nI_dec, nI_mul, nI_or, nI_and, nI_div, nI_mod, and_255, and_31, and_1, and_63, nI_shl, nI_shr, bI_F, bI_1, vp_T, cl_T, true_implies, false_implies, not_true_eq_false, not_false_eq_true, true_and, and_true, false_and, and_false, Bool.false_eq_true, Bool.true_eq_false, reduceCtorEq, implies_true]
        refine ⟨_, cb_el h ht h1, ?_⟩
        subst hk0
        simp (disch := omega) only [lkTo, q_lit, le_T, le_F, lt_T, lt_F, eq_T, eq_F, m1_lt, m1_le, lt_m1, le_m1, eq_m1, m1_eq, nI_add, nI_sub, nI_dec, nI_mul, nI_or, nI_and, nI_div, nI_mod, and_255, and_31, and_1, and_63, nI_shl, nI_shr, bI_F, bI_1, vp_T, cl_T, true_implies, false_implies, not_true_eq_false, not_false_eq_true, true_and, and_true, false_and, and_false, Bool.false_eq_true, Bool.true_eq_false, reduceCtorEq, implies_true]
        simp only [if_true]
        have e := cb_el h ht a1
        rw [← Nat.add_assoc] at e
        exact ⟨_, e, rfl⟩
      · obtain ⟨m, hm⟩ := t_target h ht (k + -nI 1) (p + 2) (by omega) a3
        refine ⟨m + 1, ?_⟩
        rw [a2]
        simp only [T_Book_linkTarget, S_Book_linkTarget, B_Book_linkTarget_9]
        refine ⟨_, cb_end h ht, ?_⟩
        simp (disch := omega) only [q_lit, le_T, le_F, lt_T, lt_F, eq_T, eq_F, m1_lt, m1_le, lt_m1, le_m1, eq_m1, m1_eq, nI_add, nI_sub, nI_dec, nI_mul, nI_or, nI_and, nI_div, nI_mod, and_255, and_31, and_1, and_63, nI_shl, nI_shr, bI_F, bI_1, vp_T, cl_T, true_implies, false_implies, not_true_eq_false, not_false_eq_true, true_and, and_true, false_and, and_false, Bool.false_eq_true, Bool.true_eq_false, reduceCtorEq, implies_true]
        refine ⟨_, cb_el h ht h1, ?_⟩
        rw [q_lit.1] at hk0
        simp (disch := omega) only [lkTo, hk0, if_false, q_lit, le_T, le_F, lt_T, lt_F, eq_T, eq_F, m1_lt, m1_le, lt_m1, le_m1, eq_m1, m1_eq, nI_add, nI_sub, nI_dec, nI_mul, nI_or, nI_and, nI_div, nI_mod, and_255, and_31, and_1, and_63, nI_shl, nI_shr, bI_F, bI_1, vp_T, cl_T, true_implies, false_implies, not_true_eq_false, not_false_eq_true, true_and, and_true, false_and, and_false, Bool.false_eq_true, Bool.true_eq_false, reduceCtorEq, implies_true]
        exact hm
    · obtain ⟨a2, a3⟩ := lnks_not h1 hk h2
      obtain ⟨m, hm⟩ := t_target h ht k (p + 1) (by omega) a3
      refine ⟨m + 1, ?_⟩
      rw [a2]
      simp only [T_Book_linkTarget, S_Book_linkTarget, B_Book_linkTarget_9]
      refine ⟨_, cb_end h ht, ?_⟩
      simp (disch := omega) only [q_lit, le_T, le_F, lt_T, lt_F, eq_T, eq_F, m1_lt, m1_le, lt_m1, le_m1, eq_m1, m1_eq, nI_add, nI_sub, nI_dec, nI_mul, nI_or, nI_and, nI_div, nI_mod, and_255, and_31, and_1, and_63, nI_shl, nI_shr, bI_F, bI_1, vp_T, cl_T, true_implies, false_implies, not_true_eq_false, not_false_eq_true, true_and, and_true, false_and, and_false, Bool.false_eq_true, Bool.true_eq_false, reduceCtorEq, implies_true]
      refine ⟨_, cb_el h ht h1, ?_⟩
      simp (disch := omega) only [q_lit, le_T, le_F, lt_T, lt_F, eq_T, eq_F, m1_lt, m1_le, lt_m1, le_m1, eq_m1, m1_eq, nI_add, nI_sub, nI_dec, nI_mul, nI_or, nI_and, nI_div, nI_mod, and_255, and_31, and_1, and_63, nI_shl, nI_shr, bI_F, bI_1, vp_T, cl_T, true_implies, false_implies, not_true_eq_false, not_false_eq_true, true_and, and_true, false_and, and_false, Bool.false_eq_true, Bool.true_eq_false, reduceCtorEq, implies_true]
      exact hm
  · refine ⟨1, ?_⟩
    rw [List.drop_eq_nil_of_le (by omega)]
    simp only [T_Book_linkTarget, S_Book_linkTarget, B_Book_linkTarget_9]
    refine ⟨_, cb_end h ht, ?_⟩
    simp (disch := omega) only [lnks, lkTo, q_lit, le_T, le_F, lt_T, lt_F, eq_T, eq_F, m1_lt, m1_le, lt_m1, le_m1, eq_m1, m1_eq, nI_add, nI_sub, nI_dec, nI_mul, nI_or, nI_and, nI_div, nI_mod, and_255, and_31, and_1, and_63, nI_shl, nI_shr, bI_F, bI_1, vp_T, cl_T, true_implies, false_implies, not_true_eq_false, not_false_eq_true, true_and, and_true, false_and, and_false, Bool.false_eq_true, Bool.true_eq_false, reduceCtorEq, implies_true]
termination_by (bd bs t).length - p
decreasing_by all_goals omega
theorem cb_target {S BE : Nat → Int32} {BC T : Int32} {bs : List (List Nat)} (h : CB S BE BC T bs) {t : Nat} (ht : t < bs.length) (hk : lkOk (bd bs t) = true) (k : Int32) : D_Book_linkTarget 2550 (nI t) k S BE BC T (lkTo k (lnks (bd bs t))) := by
  obtain ⟨m, hm⟩ := t_target h ht k 0 (by omega) (by simpa using hk)
  refine ⟨m, _, cb_start h ht, ?_⟩
  simpa using hm
/-- the reference's bodies -/
def MB (Bo Ln : Nat → Int32) (bs : List (List Nat)) : Prop := bs.length ≤ 10 ∧ ∀ t, t < bs.length → Ln t = nI (bd bs t).length ∧ (bd bs t).length ≤ 255 ∧ ∀ i, i < (bd bs t).length → Bo (255 * t + i) = nI ((bd bs t).getD i 0) ∧ (bd bs t).getD i 0 < 2147483648
/-- the reference's search for a link: found so far, or the one among the rest -/
def lkFd (n : Nat) (k : Int32) (f : Int32) (l : List Nat) : Int32 := match l with
  | [] => f
  | y :: r => lkFd (n + 1) k (if nI n = k then nI y else f) r
theorem t_linkOf {Bo Ln : Nat → Int32} {bs : List (List Nat)} (h : MB Bo Ln bs) {t : Nat} (ht : t < bs.length) (k : Int32) (V : Int32) (p n : Nat) (f : Int32) (hp : p ≤ (bd bs t).length) (hk : lkOk ((bd bs t).drop p) = true) (hn : n ≤ p) : ∃ m, T_Model_linkOf Bo Ln (nI t) (lkFd n k f (lnks ((bd bs t).drop p))) (nI (n + (lnks ((bd bs t).drop p)).length)) m k (nI n) f (nI p) V := by
  obtain ⟨h0, hall⟩ := h
  obtain ⟨e1, e2, e3⟩ := hall t ht
  by_cases h1 : p < (bd bs t).length
  · obtain ⟨e4, e5⟩ := e3 p h1
    by_cases h2 : (bd bs t).getD p 0 = 2
    · obtain ⟨a1, a2, a3⟩ := lnks_link h1 hk h2
      obtain ⟨m, hm⟩ := t_linkOf ⟨h0, hall⟩ ht k V (p + 2) (n + 1) (if nI n = k then nI ((bd bs t).getD (p + 1) 0) else f) (by omega) a3 (by omega)
      obtain ⟨e6, e7⟩ := e3 (p + 1) a1
      refine ⟨m + 1, ?_⟩
      rw [a2, List.length_cons, show n + ((lnks ((bd bs t).drop (p + 2))).length + 1) = n + 1 + (lnks ((bd bs t).drop (p + 2))).length by omega]
      simp (disch := omega) only [T_Model_linkOf, S_Model_linkOf, B_Model_linkOf_7, e1, e4, e6, lkFd, q_lit, le_T, le_F, lt_T, lt_F, eq_T, eq_F, m1_lt, m1_le, lt_m1, le_m1, eq_m1, m1_eq, nI_add, nI_sub, nI_dec, nI_mul, nI_or, nI_and, nI_div, nI_mod, and_255, and_31, and_1, and_63, nI_shl, nI_shr, bI_F, bI_1, vp_T, cl_T, true_implies, false_implies, not_true_eq_false, not_false_eq_true, true_and, and_true, false_and, and_false, Bool.false_eq_true, Bool.true_eq_false, reduceCtorEq, implies_true, q_lc_eq, q_lc_ge, q_lc_gt, q_lc_le, lN_or, lN_and, lN_shl, lN_shr, nI_L, lN_I, l_0]
      refine ⟨fun h9 => ?_, fun h9 => ?_⟩
      · simpa [h9] using hm
      · simpa [h9] using hm
    · obtain ⟨a2, a3⟩ := lnks_not h1 hk h2
      obtain ⟨m, hm⟩ := t_linkOf ⟨h0, hall⟩ ht k V (p + 1) n f (by omega) a3 (by omega)
      refine ⟨m + 1, ?_⟩
      rw [a2]
      simp (disch := omega) only [T_Model_linkOf, S_Model_linkOf, B_Model_linkOf_7, e1, e4, q_lit, le_T, le_F, lt_T, lt_F, eq_T, eq_F, m1_lt, m1_le, lt_m1, le_m1, eq_m1, m1_eq, nI_add, nI_sub, nI_dec, nI_mul, nI_or, nI_and, nI_div, nI_mod, and_255, and_31, and_1, and_63, nI_shl, nI_shr, bI_F, bI_1, vp_T, cl_T, true_implies, false_implies, not_true_eq_false, not_false_eq_true, true_and, and_true, false_and, and_false, Bool.false_eq_true, Bool.true_eq_false, reduceCtorEq, implies_true, q_lc_eq, q_lc_ge, q_lc_gt, q_lc_le, lN_or, lN_and, lN_shl, lN_shr, nI_L, lN_I, l_0]
      exact hm
  · refine ⟨1, ?_⟩
    rw [List.drop_eq_nil_of_le (by omega)]
    simp (disch := omega) only [T_Model_linkOf, S_Model_linkOf, B_Model_linkOf_7, e1, lnks, lkFd, List.length_nil, Nat.add_zero, q_lit, le_T, le_F, lt_T, lt_F, eq_T, eq_F, m1_lt, m1_le, lt_m1, le_m1, eq_m1, m1_eq, nI_add, nI_sub, nI_dec, nI_mul, nI_or, nI_and, nI_div, nI_mod, and_255, and_31, and_1, and_63, nI_shl, nI_shr, bI_F, bI_1, vp_T, cl_T, true_implies, false_implies, not_true_eq_false, not_false_eq_true, true_and, and_true, false_and, and_false, Bool.false_eq_true, Bool.true_eq_false, reduceCtorEq, implies_true, q_lc_eq, q_lc_ge, q_lc_gt, q_lc_le, lN_or, lN_and, lN_shl, lN_shr, nI_L, lN_I, l_0]
termination_by (bd bs t).length - p
decreasing_by all_goals omega
theorem mo_linkOf {Bo Ln : Nat → Int32} {bs : List (List Nat)} (h : MB Bo Ln bs) {t : Nat} (ht : t < bs.length) (hk : lkOk (bd bs t) = true) (k V : Int32) : D_Model_linkOf k V Bo Ln (nI t) (lkFd 0 k (-nI 1) (lnks (bd bs t))) (nI (lnks (bd bs t)).length) := by
  have := t_linkOf h ht k V 0 0 (-nI 1) (by omega) (by simpa using hk) (by omega)
  simpa [D_Model_linkOf, q_lit] using this
theorem lkFd_past {n : Nat} {k f : Int32} {l : List Nat} (h : ∀ j, n ≤ j → j < n + l.length → ¬ nI j = k) : lkFd n k f l = f := by
  induction l generalizing n f with
  | nil => rfl
  | cons y r ih =>
    simp only [lkFd]
    rw [if_neg (h n (by omega) (by simp)), ih (fun j h1 h2 => h j (by omega) (by simp only [List.length_cons]; omega))]
theorem lkFd_eq {n : Nat} {k : Int32} {l : List Nat} (hl : n + l.length < 2147483648) (hk : ∀ j, j < n → ¬ nI j = k) : lkFd n k (-nI 1) l = lkTo (k - nI n) l := by
  induction l generalizing n with
  | nil => rfl
  | cons y r ih =>
    simp only [List.length_cons] at hl
    simp only [lkFd, lkTo]
    by_cases h : nI n = k
    · subst h
      rw [if_pos rfl, Int32.sub_self, if_pos rfl]
      refine lkFd_past (fun j h1 h2 h3 => ?_)
      have := (nI_eq (by omega) (by omega)).mp h3
      omega
    · have h3 : ¬ k - nI n = 0 := fun h4 => h (by
        have := congrArg (· + nI n) h4
        simp only [Int32.sub_add_cancel, Int32.zero_add] at this
        exact this.symm)
      rw [if_neg h, if_neg h3, ih (by omega) (fun j hj => by
        rcases Nat.lt_or_ge j n with h5 | h5
        · exact hk j h5
        · have : j = n := by omega
          subst this; exact h)]
      rw [show k - nI (n + 1) = k - nI n + -nI 1 by rw [← nI_add n 1, Int32.sub_eq_add_neg, Int32.sub_eq_add_neg, Int32.neg_add, Int32.sub_eq_add_neg, ← Int32.add_assoc]]
