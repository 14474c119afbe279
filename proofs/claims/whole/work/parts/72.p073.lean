/-! Pure: word lists of the class. -/
abbrev ce (l : List (Nat × Nat)) (i : Nat) : Nat := (l.getD i (0, 0)).1
abbrev cb (l : List (Nat × Nat)) (i : Nat) : Nat := (l.getD i (0, 0)).2
def CW (n : Nat) (W : Nat → Int64) (T : Nat → Int32) (C : Int32) (l : List (Nat × Nat)) : Prop := C = nI l.length ∧ l.length ≤ n ∧ n < 1073741824 ∧ ∀ i, i < l.length → W i = lN (ce l i) ∧ T i = nI (cb l i)
def Srt (l : List (Nat × Nat)) : Prop := ∀ i j, i < j → j < l.length → ce l i < ce l j
def Sml (l : List (Nat × Nat)) : Prop := ∀ i, ce l i < 1152921504606846976
def plc (x : Nat) : List (Nat × Nat) → Nat
  | [] => 0
  | e :: r => if e.1 < x then plc x r + 1 else 0
def ins (x b : Nat) : List (Nat × Nat) → List (Nat × Nat)
  | [] => [(x, b)]
  | e :: r => if e.1 < x then e :: ins x b r else if e.1 = x then (x, e.2 ||| b) :: r else (x, b) :: e :: r
theorem plc_le (x : Nat) (l : List (Nat × Nat)) : plc x l ≤ l.length := by
  induction l with
  | nil => simp [plc]
  | cons e r ih => simp only [plc, List.length_cons]; split <;> omega
theorem plc_lt {x : Nat} {l : List (Nat × Nat)} {i : Nat} (h : i < plc x l) : ce l i < x := by
  induction l generalizing i with
  | nil => simp [plc] at h
  | cons e r ih =>
    simp only [plc] at h
    split at h
    · cases i with
      | zero => simpa [ce]
      | succ i => simpa [ce] using ih (i := i) (by omega)
    · omega
theorem plc_ge {x : Nat} {l : List (Nat × Nat)} (h : plc x l < l.length) : x ≤ ce l (plc x l) := by
  induction l with
  | nil => simp [plc] at h
  | cons e r ih =>
    simp only [plc] at h ⊢
    split
    · rename_i h1
      rw [if_pos h1] at h
      simpa [ce] using ih (by simpa using h)
    · simp [ce]; omega
theorem plc_uni {x : Nat} {l : List (Nat × Nat)} {p : Nat} (h : p ≤ l.length) (h1 : ∀ i, i < p → ce l i < x) (h2 : p < l.length → x ≤ ce l p) : p = plc x l := by
  have a := plc_le x l
  rcases Nat.lt_trichotomy p (plc x l) with h3 | h3 | h3
  · have := plc_lt h3; have := h2 (by omega); omega
  · exact h3
  · have := plc_ge (x := x) (l := l) (by omega); have := h1 _ h3; omega
theorem ins_hit {x b : Nat} {l : List (Nat × Nat)} (h : plc x l < l.length) (h1 : ce l (plc x l) = x) : ins x b l = l.set (plc x l) (x, cb l (plc x l) ||| b) := by
  induction l with
  | nil => simp [plc] at h
  | cons e r ih =>
    by_cases h2 : e.1 < x
    · simp only [plc, if_pos h2, List.length_cons, ins, List.set_cons_succ] at h h1 ⊢
      rw [ih (by omega) (by simpa [ce] using h1)]
      simp [cb]
    · simp only [plc, if_neg h2, ins] at h h1 ⊢
      have h3 : e.1 = x := by simpa [ce] using h1
      rw [if_pos h3]
      simp [cb]
theorem ins_miss {x b : Nat} {l : List (Nat × Nat)} (h : ¬ (plc x l < l.length ∧ ce l (plc x l) = x)) : ins x b l = l.take (plc x l) ++ (x, b) :: l.drop (plc x l) := by
  induction l with
  | nil => simp [plc, ins]
  | cons e r ih =>
    by_cases h2 : e.1 < x
    · simp only [plc, if_pos h2, List.length_cons, ins, List.take_succ_cons, List.drop_succ_cons, List.cons_append] at h ⊢
      rw [ih (fun h3 => h ⟨by omega, by simpa [ce] using h3.2⟩)]
    · simp only [plc, if_neg h2, ins, List.length_cons] at h ⊢
      have h3 : ¬ e.1 = x := fun h3 => h ⟨by omega, by simpa [ce] using h3⟩
      rw [if_neg h3]
      simp
theorem mid_len {α : Type} (l : List α) (p : Nat) (y : α) (hp : p ≤ l.length) : (l.take p ++ y :: l.drop p).length = l.length + 1 := by simp; omega
theorem mid_get {α : Type} (l : List α) (p : Nat) (y d : α) (hp : p ≤ l.length) (i : Nat) : (l.take p ++ y :: l.drop p).getD i d = if i < p then l.getD i d else if i = p then y else l.getD (i - 1) d := by
  have h1 : (l.take p).length = p := by simp; omega
  simp only [List.getD_eq_getElem?_getD]
  by_cases hi : i < p
  · rw [List.getElem?_append_left (by omega), List.getElem?_take, if_pos hi, if_pos hi]
  · rw [List.getElem?_append_right (by omega), if_neg hi, h1]
    by_cases h2 : i = p
    · subst h2; simp
    · rw [if_neg h2, show i - p = (i - p - 1) + 1 by omega, List.getElem?_cons_succ, List.getElem?_drop, show p + (i - p - 1) = i - 1 by omega]
/-- the array with room made at a place, up to another -/
def shf {α : Type} (W : Nat → α) (p : Nat) (x : α) (k : Nat) : Nat → α := fun i => if i < p then W i else if i = p then x else if i ≤ k then W (i - 1) else W i
theorem shf_stepL {W : Nat → Int64} {p : Nat} {x : Int64} {k : Nat} (h : p < k) : shf (vp_updL W k (W (k - 1))) p x (k - 1) = shf W p x k := by
  funext i
  unfold shf vp_updL
  by_cases h1 : i < p
  · rw [if_pos h1, if_pos h1, if_neg (by omega)]
  · rw [if_neg h1, if_neg h1]
    by_cases h2 : i = p
    · rw [if_pos h2, if_pos h2]
    · rw [if_neg h2, if_neg h2]
      by_cases h3 : i ≤ k - 1
      · rw [if_pos h3, if_neg (show ¬ (i - 1 = k) by omega), if_pos (show i ≤ k by omega)]
      · rw [if_neg h3]
        by_cases h4 : i = k
        · subst h4; simp
        · rw [if_neg h4, if_neg (by omega)]
theorem shf_step {W : Nat → Int32} {p : Nat} {x : Int32} {k : Nat} (h : p < k) : shf (upd W k (W (k - 1))) p x (k - 1) = shf W p x k := by
  funext i
  unfold shf upd
  by_cases h1 : i < p
  · rw [if_pos h1, if_pos h1, if_neg (by omega)]
  · rw [if_neg h1, if_neg h1]
    by_cases h2 : i = p
    · rw [if_pos h2, if_pos h2]
    · rw [if_neg h2, if_neg h2]
      by_cases h3 : i ≤ k - 1
      · rw [if_pos h3, if_neg (show ¬ (i - 1 = k) by omega), if_pos (show i ≤ k by omega)]
      · rw [if_neg h3]
        by_cases h4 : i = k
        · subst h4; simp
        · rw [if_neg h4, if_neg (by omega)]
theorem shf_0L {W : Nat → Int64} {p : Nat} {x : Int64} : vp_updL W p x = shf W p x p := by
  funext i
  unfold shf vp_updL
  by_cases h1 : i < p
  · rw [if_neg (by omega), if_pos h1]
  · by_cases h2 : i = p
    · rw [if_pos h2, if_neg h1, if_pos h2]
    · rw [if_neg h2, if_neg h1, if_neg h2, if_neg (by omega)]
theorem shf_0 {W : Nat → Int32} {p : Nat} {x : Int32} : upd W p x = shf W p x p := by
  funext i
  unfold shf upd
  by_cases h1 : i < p
  · rw [if_neg (by omega), if_pos h1]
  · by_cases h2 : i = p
    · rw [if_pos h2, if_neg h1, if_pos h2]
    · rw [if_neg h2, if_neg h1, if_neg h2, if_neg (by omega)]
theorem t_insert {n : Nat} (hn : n < 1073741824) (p : Nat) (x : Int64) (b : Int32) (C : Int32) (k : Nat) (W : Nat → Int64) (T : Nat → Int32) (hp : p ≤ k) (hk : k < n) : ∃ m, T_WordList_insert n (shf W p x k) (shf T p b k) (C + 1) m (nI p) x b (nI k) W T C := by
  by_cases h : p = k
  · subst h
    refine ⟨1, ?_⟩
    show B_WordList_insert_6 _ _ _ _ _ _ _ _ _ _ _ _
    simp (disch := omega) only [B_WordList_insert_6, q_lit, le_T, le_F, lt_T, lt_F, eq_T, eq_F, m1_lt, m1_le, lt_m1, le_m1, eq_m1, m1_eq, nI_add, nI_sub, nI_dec, nI_mul, nI_or, nI_and, nI_div, nI_mod, and_255, and_31, and_1, and_63, nI_shl, nI_shr, bI_F, bI_1, vp_T, cl_T, true_implies, false_implies, not_true_eq_false, not_false_eq_true, true_and, and_true, false_and, and_false, Bool.false_eq_true, Bool.true_eq_false, reduceCtorEq, implies_true]
    exact ⟨shf_0L.symm, shf_0.symm⟩
  · obtain ⟨m, hm⟩ := t_insert hn p x b C (k - 1) (vp_updL W k (W (k - 1))) (upd T k (T (k - 1))) (by omega) (by omega)
    refine ⟨m + 1, ?_⟩
    show B_WordList_insert_6 _ _ _ _ _ _ _ _ _ _ _ _
    simp (disch := omega) only [B_WordList_insert_6, q_lit, le_T, le_F, lt_T, lt_F, eq_T, eq_F, m1_lt, m1_le, lt_m1, le_m1, eq_m1, m1_eq, nI_add, nI_sub, nI_dec, nI_mul, nI_or, nI_and, nI_div, nI_mod, and_255, and_31, and_1, and_63, nI_shl, nI_shr, bI_F, bI_1, vp_T, cl_T, true_implies, false_implies, not_true_eq_false, not_false_eq_true, true_and, and_true, false_and, and_false, Bool.false_eq_true, Bool.true_eq_false, reduceCtorEq, implies_true]
    rw [shf_stepL (by omega), shf_step (by omega)] at hm
    exact hm
termination_by k
decreasing_by all_goals omega
theorem t_place {n : Nat} {W : Nat → Int64} {T : Nat → Int32} {C : Int32} {l : List (Nat × Nat)} (h : CW n W T C l) (hs : Srt l) (hm : Sml l) {x : Nat} (hx : x < 1152921504606846976) (lo hi : Nat) (h1 : lo ≤ hi) (h2 : hi ≤ l.length) (h3 : ∀ i, i < lo → ce l i < x) (h4 : ∀ i, hi ≤ i → i < l.length → x ≤ ce l i) : ∃ m, T_WordList_placeOf n W C (nI (plc x l)) m (lN x) (nI lo) (nI hi) := by
  have hn := h.2.2.1
  have hl := h.2.1
  by_cases h5 : lo = hi
  · refine ⟨1, ?_⟩
    have := plc_uni (x := x) (l := l) (p := lo) (by omega) h3 (fun h9 => h4 lo (by omega) h9)
    rw [← this]
    simp (disch := omega) only [T_WordList_placeOf, S_WordList_placeOf, B_WordList_placeOf_8, q_lit, le_T, le_F, lt_T, lt_F, eq_T, eq_F, m1_lt, m1_le, lt_m1, le_m1, eq_m1, m1_eq, nI_add, nI_sub, nI_dec, nI_mul, nI_or, nI_and, nI_div, nI_mod, and_255, and_31, and_1, and_63, nI_shl, nI_shr, bI_F, bI_1, vp_T, cl_T, true_implies, false_implies, not_true_eq_false, not_false_eq_true, true_and, and_true, false_and, and_false, Bool.false_eq_true, Bool.true_eq_false, reduceCtorEq, implies_true, q_lc_eq, q_lc_ge, q_lc_gt, q_lc_le, lN_or, lN_and, lN_shl, lN_shr, nI_L, lN_I, l_0]
  · have hmid : (lo + hi) / 2 < hi := by omega
    have e := (h.2.2.2 ((lo + hi) / 2) (by omega)).1
    have hc := hm ((lo + hi) / 2)
    by_cases h6 : x ≤ ce l ((lo + hi) / 2)
    · obtain ⟨m, hm⟩ := t_place h hs hm hx lo ((lo + hi) / 2) (by omega) (by omega) h3 (by
        intro i h7 h8
        rcases Nat.lt_or_ge ((lo + hi) / 2) i with h9 | h9
        · exact Nat.le_of_lt (Nat.lt_of_le_of_lt h6 (hs _ _ h9 h8))
        · have : i = (lo + hi) / 2 := by omega
          rw [this]; exact h6)
      refine ⟨m + 1, ?_⟩
      simp (disch := omega) only [T_WordList_placeOf, S_WordList_placeOf, B_WordList_placeOf_8, e, h6, q_lit, le_T, le_F, lt_T, lt_F, eq_T, eq_F, m1_lt, m1_le, lt_m1, le_m1, eq_m1, m1_eq, nI_add, nI_sub, nI_dec, nI_mul, nI_or, nI_and, nI_div, nI_mod, and_255, and_31, and_1, and_63, nI_shl, nI_shr, bI_F, bI_1, vp_T, cl_T, true_implies, false_implies, not_true_eq_false, not_false_eq_true, true_and, and_true, false_and, and_false, Bool.false_eq_true, Bool.true_eq_false, reduceCtorEq, implies_true, q_lc_eq, q_lc_ge, q_lc_gt, q_lc_le, lN_or, lN_and, lN_shl, lN_shr, nI_L, lN_I, l_0]
      exact hm
    · obtain ⟨m, hm⟩ := t_place h hs hm hx ((lo + hi) / 2 + 1) hi (by omega) (by omega) (by
        intro i h7
        rcases Nat.lt_or_ge i ((lo + hi) / 2) with h9 | h9
        · exact Nat.lt_trans (hs _ _ h9 (by omega)) (by omega)
        · have : i = (lo + hi) / 2 := by omega
          rw [this]; omega) h4
      refine ⟨m + 1, ?_⟩
      simp (disch := omega) only [T_WordList_placeOf, S_WordList_placeOf, B_WordList_placeOf_8, e, h6, q_lit, le_T, le_F, lt_T, lt_F, eq_T, eq_F, m1_lt, m1_le, lt_m1, le_m1, eq_m1, m1_eq, nI_add, nI_sub, nI_dec, nI_mul, nI_or, nI_and, nI_div, nI_mod, and_255, and_31, and_1, and_63, nI_shl, nI_shr, bI_F, bI_1, vp_T, cl_T, true_implies, false_implies, not_true_eq_false, not_false_eq_true, true_and, and_true, false_and, and_false, Bool.false_eq_true, Bool.true_eq_false, reduceCtorEq, implies_true, q_lc_eq, q_lc_ge, q_lc_gt, q_lc_le, lN_or, lN_and, lN_shl, lN_shr, nI_L, lN_I, l_0]
      exact hm
termination_by hi - lo
decreasing_by all_goals omega
theorem wl_place {n : Nat} {W : Nat → Int64} {T : Nat → Int32} {C : Int32} {l : List (Nat × Nat)} (h : CW n W T C l) (hs : Srt l) (hm : Sml l) {x : Nat} (hx : x < 1152921504606846976) : D_WordList_placeOf n (lN x) W C (nI (plc x l)) := by
  have := t_place h hs hm hx 0 l.length (by omega) (Nat.le_refl _) (fun i hi => absurd hi (by omega)) (fun i h1 h2 => absurd h1 (by omega))
  have hC := h.1
  subst hC
  simpa [D_WordList_placeOf, q_lit] using this
def q_bitsOf (x : Nat) (l : List (Nat × Nat)) : Nat := if plc x l < l.length ∧ ce l (plc x l) = x then cb l (plc x l) else 0
theorem wl_topicsOf {n : Nat} {W : Nat → Int64} {T : Nat → Int32} {C : Int32} {l : List (Nat × Nat)} (h : CW n W T C l) (hs : Srt l) (hm : Sml l) {x : Nat} (hx : x < 1152921504606846976) : D_WordList_topicsOf n (lN x) W T C (nI (q_bitsOf x l)) := by
  have hn := h.2.2.1
  have hl := h.2.1
  refine ⟨_, wl_place h hs hm hx, ?_⟩
  have hp := plc_le x l
  rw [h.1]
  by_cases h1 : plc x l < l.length
  · have e := (h.2.2.2 _ h1)
    have hc := hm (plc x l)
    by_cases h2 : ce l (plc x l) = x
    · simp (disch := omega) only [e, h2, q_lit, le_T, le_F, lt_T, lt_F, eq_T, eq_F, m1_lt, m1_le, lt_m1, le_m1, eq_m1, m1_eq, nI_add, nI_sub, nI_dec, nI_mul, nI_or, nI_and, nI_div, nI_mod, and_255, and_31, and_1, and_63, nI_shl, nI_shr, bI_F, bI_1, vp_T, cl_T, true_implies, false_implies, not_true_eq_false, not_false_eq_true, true_and, and_true, false_and, and_false, Bool.false_eq_true, Bool.true_eq_false, reduceCtorEq, implies_true, q_lc_eq, q_lc_ge, q_lc_gt, q_lc_le, lN_or, lN_and, lN_shl, lN_shr, nI_L, lN_I, l_0]
      simp [q_bitsOf, h1, h2]
    · simp (disch := omega) only [e, h2, q_lit, le_T, le_F, lt_T, lt_F, eq_T, eq_F, m1_lt, m1_le, lt_m1, le_m1, eq_m1, m1_eq, nI_add, nI_sub, nI_dec, nI_mul, nI_or, nI_and, nI_div, nI_mod, and_255, and_31, and_1, and_63, nI_shl, nI_shr, bI_F, bI_1, vp_T, cl_T, true_implies, false_implies, not_true_eq_false, not_false_eq_true, true_and, and_true, false_and, and_false, Bool.false_eq_true, Bool.true_eq_false, reduceCtorEq, implies_true, q_lc_eq, q_lc_ge, q_lc_gt, q_lc_le, lN_or, lN_and, lN_shl, lN_shr, nI_L, lN_I, l_0]
      simp [q_bitsOf, h2]
  · simp (disch := omega) only [q_lit, le_T, le_F, lt_T, lt_F, eq_T, eq_F, m1_lt, m1_le, lt_m1, le_m1, eq_m1, m1_eq, nI_add, nI_sub, nI_dec, nI_mul, nI_or, nI_and, nI_div, nI_mod, and_255, and_31, and_1, and_63, nI_shl, nI_shr, bI_F, bI_1, vp_T, cl_T, true_implies, false_implies, not_true_eq_false, not_false_eq_true, true_and, and_true, false_and, and_false, Bool.false_eq_true, Bool.true_eq_false, reduceCtorEq, implies_true, q_lc_eq, q_lc_ge, q_lc_gt, q_lc_le, lN_or, lN_and, lN_shl, lN_shr, nI_L, lN_I, l_0]
    simp [q_bitsOf, h1]
theorem wl_note {n : Nat} {W : Nat → Int64} {T : Nat → Int32} {C : Int32} {l : List (Nat × Nat)} (h : CW n W T C l) (hs : Srt l) (hm : Sml l) {x b : Nat} (hx : x < 1152921504606846976) (hl : l.length < n) :
    ∃ W' T' C', D_WordList_note n (lN x) (nI b) W T C W' T' C' ∧ CW n W' T' C' (ins x b l) := by
  have hn := h.2.2.1
  have hp := plc_le x l
  have hpl := wl_place h hs hm hx
  by_cases h1 : plc x l < l.length ∧ ce l (plc x l) = x
  · have e := h.2.2.2 _ h1.1
    have hc := hm (plc x l)
    refine ⟨W, upd T (plc x l) (nI (cb l (plc x l) ||| b)), C, ⟨1, _, hpl, ?_⟩, ?_⟩
    · rw [h.1]
      have h2 := h1.1
      simp (disch := omega) only [e, h1.2, q_lit, le_T, le_F, lt_T, lt_F, eq_T, eq_F, m1_lt, m1_le, lt_m1, le_m1, eq_m1, m1_eq, nI_add, nI_sub, nI_dec, nI_mul, nI_or, nI_and, nI_div, nI_mod, and_255, and_31, and_1, and_63, nI_shl, nI_shr, bI_F, bI_1, vp_T, cl_T, true_implies, false_implies, not_true_eq_false, not_false_eq_true, true_and, and_true, false_and, and_false, Bool.false_eq_true, Bool.true_eq_false, reduceCtorEq, implies_true, q_lc_eq, q_lc_ge, q_lc_gt, q_lc_le, lN_or, lN_and, lN_shl, lN_shr, nI_L, lN_I, l_0]
    · rw [ins_hit h1.1 h1.2]
      refine ⟨by simp [h.1], by simp; omega, hn, fun i hi => ?_⟩
      simp only [List.length_set] at hi
      have e2 := h.2.2.2 i hi
      by_cases h3 : i = plc x l
      · subst h3
        simp only [ce, cb, List.getD_eq_getElem?_getD, List.getElem?_set_self hi, upd] at h1 e2 ⊢
        simp [e2.1, h1.2]
      · simp only [ce, cb, List.getD_eq_getElem?_getD, List.getElem?_set_ne (Ne.symm h3), upd, h3, if_false] at e2 ⊢
        exact e2
  · obtain ⟨m, hmm⟩ := t_insert hn (plc x l) (lN x) (nI b) C l.length W T hp hl
    refine ⟨shf W (plc x l) (lN x) l.length, shf T (plc x l) (nI b) l.length, C + 1, ⟨1, _, hpl, ?_⟩, ?_⟩
    · have hT : T_WordList_note n (shf W (plc x l) (lN x) l.length) (shf T (plc x l) (nI b) l.length) (C + 1) 1 (lN x) (nI b) (nI (plc x l)) W T C := by
        simp only [T_WordList_note, S_WordList_note, B_WordList_note_42]
        refine ⟨fun h9 => ?_, fun _ => ⟨_, _, _, ⟨m, by rw [h.1]; rw [h.1] at hmm; exact hmm⟩, rfl, rfl, rfl⟩⟩
        rw [h.1] at h9
        revert h9; simp (disch := omega) only [q_lit, le_T, le_F, lt_T, lt_F, eq_T, eq_F, m1_lt, m1_le, lt_m1, le_m1, eq_m1, m1_eq, nI_add, nI_sub, nI_dec, nI_mul, nI_or, nI_and, nI_div, nI_mod, and_255, and_31, and_1, and_63, nI_shl, nI_shr, bI_F, bI_1, vp_T, cl_T, true_implies, false_implies, not_true_eq_false, not_false_eq_true, true_and, and_true, false_and, and_false, Bool.false_eq_true, Bool.true_eq_false, reduceCtorEq, implies_true]
      refine ⟨fun _ => hT, fun h9 => ⟨?_, fun h8 => ?_, fun _ => hT⟩⟩
      · rw [h.1] at h9
        have : plc x l < l.length := by
          rcases Nat.lt_or_ge (plc x l) l.length with h7 | h7
          · exact h7
          · exfalso; revert h9; simp (disch := omega) only [q_lit, le_T, le_F, lt_T, lt_F, eq_T, eq_F, m1_lt, m1_le, lt_m1, le_m1, eq_m1, m1_eq, nI_add, nI_sub, nI_dec, nI_mul, nI_or, nI_and, nI_div, nI_mod, and_255, and_31, and_1, and_63, nI_shl, nI_shr, bI_F, bI_1, vp_T, cl_T, true_implies, false_implies, not_true_eq_false, not_false_eq_true, true_and, and_true, false_and, and_false, Bool.false_eq_true, Bool.true_eq_false, reduceCtorEq, implies_true]
        simp (disch := omega) only [q_lit, le_T, le_F, lt_T, lt_F, eq_T, eq_F, m1_lt, m1_le, lt_m1, le_m1, eq_m1, m1_eq, nI_add, nI_sub, nI_dec, nI_mul, nI_or, nI_and, nI_div, nI_mod, and_255, and_31, and_1, and_63, nI_shl, nI_shr, bI_F, bI_1, vp_T, cl_T, true_implies, false_implies, not_true_eq_false, not_false_eq_true, true_and, and_true, false_and, and_false, Bool.false_eq_true, Bool.true_eq_false, reduceCtorEq, implies_true]
      · exfalso
        have h7 : plc x l < l.length := by
          rcases Nat.lt_or_ge (plc x l) l.length with h7 | h7
          · exact h7
          · exfalso; rw [h.1] at h9; revert h9; simp (disch := omega) only [q_lit, le_T, le_F, lt_T, lt_F, eq_T, eq_F, m1_lt, m1_le, lt_m1, le_m1, eq_m1, m1_eq, nI_add, nI_sub, nI_dec, nI_mul, nI_or, nI_and, nI_div, nI_mod, and_255, and_31, and_1, and_63, nI_shl, nI_shr, bI_F, bI_1, vp_T, cl_T, true_implies, false_implies, not_true_eq_false, not_false_eq_true, true_and, and_true, false_and, and_false, Bool.false_eq_true, Bool.true_eq_false, reduceCtorEq, implies_true]
        have e := h.2.2.2 _ h7
        have hc := hm (plc x l)
        revert h8
        simp (disch := omega) only [e.1, q_lit, le_T, le_F, lt_T, lt_F, eq_T, eq_F, m1_lt, m1_le, lt_m1, le_m1, eq_m1, m1_eq, nI_add, nI_sub, nI_dec, nI_mul, nI_or, nI_and, nI_div, nI_mod, and_255, and_31, and_1, and_63, nI_shl, nI_shr, bI_F, bI_1, vp_T, cl_T, true_implies, false_implies, not_true_eq_false, not_false_eq_true, true_and, and_true, false_and, and_false, Bool.false_eq_true, Bool.true_eq_false, reduceCtorEq, implies_true, q_lc_eq, q_lc_ge, q_lc_gt, q_lc_le, lN_or, lN_and, lN_shl, lN_shr, nI_L, lN_I, l_0]
        exact fun h6 => h1 ⟨h7, h6⟩
    · rw [ins_miss h1]
      refine ⟨by rw [mid_len _ _ _ hp, h.1, nI_1], by rw [mid_len _ _ _ hp]; omega, hn, fun i hi => ?_⟩
      rw [mid_len _ _ _ hp] at hi
      simp only [ce, cb]
      rw [mid_get _ _ _ _ hp]
      unfold shf
      by_cases h2 : i < plc x l
      · simp only [if_pos h2]
        exact h.2.2.2 i (by omega)
      · simp only [if_neg h2]
        by_cases h3 : i = plc x l
        · simp only [if_pos h3]; exact ⟨trivial, trivial⟩
        · simp only [if_neg h3, if_pos (show i ≤ l.length by omega)]
          exact h.2.2.2 (i - 1) (by omega)
theorem wl_word {n : Nat} {W : Nat → Int64} {T : Nat → Int32} {C : Int32} {l : List (Nat × Nat)} (h : CW n W T C l) {k : Nat} (hk : k < l.length) : D_WordList_word n (nI k) W C (lN (ce l k)) := by
  have hn := h.2.2.1
  have hl := h.2.1
  have e := h.2.2.2 k hk
  rw [h.1]
  simp (disch := omega) only [D_WordList_word, e.1, q_lit, le_T, le_F, lt_T, lt_F, eq_T, eq_F, m1_lt, m1_le, lt_m1, le_m1, eq_m1, m1_eq, nI_add, nI_sub, nI_dec, nI_mul, nI_or, nI_and, nI_div, nI_mod, and_255, and_31, and_1, and_63, nI_shl, nI_shr, bI_F, bI_1, vp_T, cl_T, true_implies, false_implies, not_true_eq_false, not_false_eq_true, true_and, and_true, false_and, and_false, Bool.false_eq_true, Bool.true_eq_false, reduceCtorEq, implies_true]
theorem wl_topics {n : Nat} {W : Nat → Int64} {T : Nat → Int32} {C : Int32} {l : List (Nat × Nat)} (h : CW n W T C l) {k : Nat} (hk : k < l.length) : D_WordList_topics n (nI k) T C (nI (cb l k)) := by
  have hn := h.2.2.1
  have hl := h.2.1
  have e := h.2.2.2 k hk
  rw [h.1]
  simp (disch := omega) only [D_WordList_topics, e.2, q_lit, le_T, le_F, lt_T, lt_F, eq_T, eq_F, m1_lt, m1_le, lt_m1, le_m1, eq_m1, m1_eq, nI_add, nI_sub, nI_dec, nI_mul, nI_or, nI_and, nI_div, nI_mod, and_255, and_31, and_1, and_63, nI_shl, nI_shr, bI_F, bI_1, vp_T, cl_T, true_implies, false_implies, not_true_eq_false, not_false_eq_true, true_and, and_true, false_and, and_false, Bool.false_eq_true, Bool.true_eq_false, reduceCtorEq, implies_true]
