/-! Pure: a body is unpacked, the class. -/
def seg (J : List Nat) (p : Nat) : Nat → List Nat
  | 0 => []
  | m + 1 => J.getD p 0 :: seg J (p + 1) m
def cpy (c : List Nat) (d : Nat) : Nat → List Nat
  | 0 => c
  | m + 1 => cpy (c ++ [c.getD (c.length - d) 0]) d m
theorem seg_len (J : List Nat) (p m : Nat) : (seg J p m).length = m := by
  induction m generalizing p with
  | zero => rfl
  | succ m ih => simp [seg, ih]
theorem cpy_len (c : List Nat) (d m : Nat) : (cpy c d m).length = c.length + m := by
  induction m generalizing c with
  | zero => rfl
  | succ m ih => rw [cpy, ih]; simp; omega
theorem seg_by {J : List Nat} (h : q_By J) (p m : Nat) : q_By (seg J p m) := by
  induction m generalizing p with
  | zero => exact q_By.nil
  | succ m ih => exact q_By.cons (h.getD p) (ih _)
theorem cpy_by {c : List Nat} (h : q_By c) (d m : Nat) : q_By (cpy c d m) := by
  induction m generalizing c with
  | zero => exact h
  | succ m ih => exact ih (q_By.app h (q_By.one (h.getD _)))
/-- one piece -/
def pce (J : List Nat) (p : Nat) (c : List Nat) : Option (Nat × List Nat) :=
  if J.getD p 0 < 128 then (if c.length + (J.getD p 0 + 1) ≤ 255 then some (p + 1 + (J.getD p 0 + 1), c ++ seg J (p + 1) (J.getD p 0 + 1)) else none)
  else (if c.length < J.getD (p + 1) 0 ∨ J.getD (p + 1) 0 = 0 ∨ 255 < c.length + (J.getD p 0 - 125) then none else some (p + 2, cpy c (J.getD (p + 1) 0) (J.getD p 0 - 125)))
theorem pce_ok {J : List Nat} (hJ : q_By J) {p : Nat} {c : List Nat} (hc : q_By c) {p' : Nat} {c' : List Nat} (h : pce J p c = some (p', c')) : q_By c' ∧ c'.length ≤ 255 ∧ c.length < c'.length ∧ p < p' ∧ p' + 2 * c.length ≤ p + 2 * c'.length := by
  unfold pce at h
  split at h
  · split at h
    · simp only [Option.some.injEq, Prod.mk.injEq] at h
      obtain ⟨rfl, rfl⟩ := h
      exact ⟨q_By.app hc (seg_by hJ _ _), by simp only [List.length_append, seg_len]; omega, by simp only [List.length_append, seg_len]; omega, by omega, by simp only [List.length_append, seg_len]; omega⟩
    · cases h
  · split at h
    · cases h
    · simp only [Option.some.injEq, Prod.mk.injEq] at h
      obtain ⟨rfl, rfl⟩ := h
      exact ⟨cpy_by hc _ _, by rw [cpy_len]; omega, by rw [cpy_len]; omega, by omega, by rw [cpy_len]; omega⟩
def upk (J : List Nat) (f : Nat) : Nat → Nat → List Nat → Bool × List Nat
  | 0, p, c => (decide (p = f), c)
  | i + 1, p, c => if p < f then (match pce J p c with
    | none => (false, c)
    | some (p', c') => upk J f i p' c') else (decide (p = f), c)
theorem upk_by {J : List Nat} (hJ : q_By J) {f : Nat} (i p : Nat) {c : List Nat} (hc : q_By c) (h255 : c.length ≤ 255) : q_By (upk J f i p c).2 ∧ (upk J f i p c).2.length ≤ 255 := by
  induction i generalizing p c with
  | zero => exact ⟨hc, h255⟩
  | succ i ih =>
    rw [upk]
    split
    · cases hp : pce J p c with
      | none => exact ⟨hc, h255⟩
      | some q =>
        obtain ⟨p', c'⟩ := q
        have := pce_ok hJ hc hp
        exact ih p' this.1 this.2.1
    · exact ⟨hc, h255⟩
theorem flat9 {d : List (List Nat)} (hd2 : ∀ b ∈ d, b.length ≤ 255) : d.flatten.length ≤ 255 * d.length := by
  induction d with
  | nil => simp
  | cons b d ih =>
    have := ih (fun x hx => hd2 x (by simp [hx]))
    have := hd2 b (by simp)
    simp only [List.flatten_cons, List.length_append, List.length_cons]; omega
theorem bd_lst (d : List (List Nat)) (c : List Nat) : bd (d ++ [c]) d.length = c := by simp [bd]
theorem off_lst (d : List (List Nat)) (c : List Nat) : q_off (d ++ [c]) d.length = d.flatten.length := by simp [q_off]
theorem ir_next {J : List Nat} {iE : Nat → Int32} {iC : Int32} (hJ : Rw 3000 iE iC J) {p : Nat} (hp : p < 1000000) : D_ImageReader_next 3000 (nI p) iE iC (nI (J.getD p 0)) (nI (p + 1)) := ⟨_, row_el hJ (by omega), rfl, by simp (disch := omega) only [q_lit, le_T, le_F, lt_T, lt_F, eq_T, eq_F, m1_lt, m1_le, lt_m1, le_m1, eq_m1, m1_eq, nI_add, nI_sub, nI_dec, nI_mul, nI_or, nI_and, nI_div, nI_mod, and_255, and_31, and_1, and_63, nI_shl, nI_shr, bI_F, bI_1, vp_T, cl_T, true_implies, false_implies, not_true_eq_false, not_false_eq_true, true_and, and_true, false_and, and_false, Bool.false_eq_true, Bool.true_eq_false, reduceCtorEq, implies_true]⟩
set_option maxRecDepth 100000 in
theorem u5p {J : List Nat} {iE : Nat → Int32} {iC : Int32} (hJ : Rw 3000 iE iC J) (hy : q_By J) {d : List (List Nat)} (hd : d.length ≤ 9) (hd2 : ∀ b ∈ d, b.length ≤ 255) {T : Int32} {f i : Nat} (m : Nat) (hm : m ≤ 255) (j : Nat) (hj : j ≤ m) (p : Nat) (hp : p + (m - j) < 100000) (c : List Nat) (hc : c.length + (m - j) ≤ 255) (hcy : q_By c) {S BE : Nat → Int32} {BC : Int32} (O : Bool) (h : CB S BE BC T (d ++ [c])) (x8 : Int32) (hi : i < 1000) :
    ∃ S2 BE2 BC2, CB S2 BE2 BC2 T (d ++ [c ++ seg J p (m - j)]) ∧ ∀ res irP' bkS' bkBE' bkBC' bkBO', (∃ q, T_ImageReader_unpack 3000 2550 iE iC T res irP' bkS' bkBE' bkBC' bkBO' q 0 (nI d.length) (nI f) (nI (i + 1)) (nI 0) false (nI 0) (nI 0) (nI 0) (nI (p + (m - j))) S2 BE2 BC2 O) → ∃ q, T_ImageReader_unpack 3000 2550 iE iC T res irP' bkS' bkBE' bkBC' bkBO' q 5 (nI d.length) (nI f) (nI i) (nI 0) true (nI m) x8 (nI j) (nI p) S BE BC O := by
  by_cases h1 : j < m
  · have hv := hy.getD p
    have hf := flat9 hd2
    have hne : d ++ [c] ≠ [] := by simp
    obtain ⟨S1, B1, C1, a1, a2, -⟩ := cb_append h hne (by simp only [List.flatten_append, List.length_append, List.flatten_cons, List.flatten_nil, List.append_nil]; omega) (x := J.getD p 0) (by omega) O
    rw [addB_eq] at a2
    obtain ⟨S2, B2, C2, b1, b2⟩ := u5p hJ hy hd hd2 m hm (j + 1) (by omega) (p + 1) (by omega) (c ++ [J.getD p 0]) (by simp; omega) (q_By.app hcy (q_By.one hv)) O a2 x8 hi
    refine ⟨S2, B2, C2, ?_, fun res irP' bkS' bkBE' bkBC' bkBO' hq => ?_⟩
    · rw [show m - j = (m - (j + 1)) + 1 by omega, seg]; simpa using b1
    · rw [show p + (m - j) = p + 1 + (m - (j + 1)) by omega] at hq
      obtain ⟨q, hq⟩ := b2 res irP' bkS' bkBE' bkBC' bkBO' hq
      refine ⟨q + 1, ?_⟩
      have hend := cb_end h (t := d.length) (by simp)
      rw [bd_lst, off_lst] at hend
      have hnx := ir_next hJ (p := p) (by omega)
      rw [T_ImageReader_unpack]
      simp (disch := omega) only [S_ImageReader_unpack, B_ImageReader_unpack_129, q_lit, le_T, le_F, lt_T, lt_F, eq_T, eq_F, m1_lt, m1_le, lt_m1, le_m1, eq_m1, m1_eq, nI_add, nI_sub, nI_dec, nI_mul, nI_or, nI_and, nI_div, nI_mod, and_255, and_31, and_1, and_63, nI_shl, nI_shr, bI_F, bI_1, vp_T, cl_T, true_implies, false_implies, not_true_eq_false, not_false_eq_true, true_and, and_true, false_and, and_false, Bool.false_eq_true, Bool.true_eq_false, reduceCtorEq, implies_true]
      exact ⟨_, hend, _, _, hnx, S1, B1, C1, O, a1, hq⟩
  · refine ⟨S, BE, BC, by rw [show m - j = 0 by omega]; simpa [seg] using h, fun res irP' bkS' bkBE' bkBC' bkBO' hq => ?_⟩
    obtain ⟨q, hq⟩ := hq
    refine ⟨q + 1, ?_⟩
    rw [show p + (m - j) = p by omega] at hq
    rw [T_ImageReader_unpack]
    simp (disch := omega) only [S_ImageReader_unpack, B_ImageReader_unpack_129, q_lit, le_T, le_F, lt_T, lt_F, eq_T, eq_F, m1_lt, m1_le, lt_m1, le_m1, eq_m1, m1_eq, nI_add, nI_sub, nI_dec, nI_mul, nI_or, nI_and, nI_div, nI_mod, and_255, and_31, and_1, and_63, nI_shl, nI_shr, bI_F, bI_1, vp_T, cl_T, true_implies, false_implies, not_true_eq_false, not_false_eq_true, true_and, and_true, false_and, and_false, Bool.false_eq_true, Bool.true_eq_false, reduceCtorEq, implies_true]
    exact hq
termination_by m - j
decreasing_by all_goals omega
set_option maxRecDepth 100000 in
theorem u5c {J : List Nat} {iE : Nat → Int32} {iC : Int32} (hJ : Rw 3000 iE iC J) (hy : q_By J) {d : List (List Nat)} (hd : d.length ≤ 9) (hd2 : ∀ b ∈ d, b.length ≤ 255) {T : Int32} {f i : Nat} (m : Nat) (hm : m ≤ 255) {e : Nat} (he : 1 ≤ e) (j : Nat) (hj : j ≤ m) {p : Nat} (hp : p < 100000) (c : List Nat) (hec : e ≤ c.length) (hc : c.length + (m - j) ≤ 255) (hcy : q_By c) {S BE : Nat → Int32} {BC : Int32} (O : Bool) (h : CB S BE BC T (d ++ [c])) (hi : i < 1000) :
    ∃ S2 BE2 BC2, CB S2 BE2 BC2 T (d ++ [cpy c e (m - j)]) ∧ ∀ res irP' bkS' bkBE' bkBC' bkBO', (∃ q, T_ImageReader_unpack 3000 2550 iE iC T res irP' bkS' bkBE' bkBC' bkBO' q 0 (nI d.length) (nI f) (nI (i + 1)) (nI 0) false (nI 0) (nI 0) (nI 0) (nI p) S2 BE2 BC2 O) → ∃ q, T_ImageReader_unpack 3000 2550 iE iC T res irP' bkS' bkBE' bkBC' bkBO' q 5 (nI d.length) (nI f) (nI i) (nI 0) false (nI m) (nI e) (nI j) (nI p) S BE BC O := by
  by_cases h1 : j < m
  · have hv := hcy.getD (c.length - e)
    have hf := flat9 hd2
    have hne : d ++ [c] ≠ [] := by simp
    obtain ⟨S1, B1, C1, a1, a2, -⟩ := cb_append h hne (by simp only [List.flatten_append, List.length_append, List.flatten_cons, List.flatten_nil, List.append_nil]; omega) (x := c.getD (c.length - e) 0) (by omega) O
    rw [addB_eq] at a2
    obtain ⟨S2, B2, C2, b1, b2⟩ := u5c hJ hy hd hd2 (f := f) m hm he (j + 1) (by omega) hp (c ++ [c.getD (c.length - e) 0]) (by simp; omega) (by simp; omega) (q_By.app hcy (q_By.one hv)) O a2 hi
    refine ⟨S2, B2, C2, ?_, fun res irP' bkS' bkBE' bkBC' bkBO' hq => ?_⟩
    · rw [show m - j = (m - (j + 1)) + 1 by omega, cpy]; exact b1
    · obtain ⟨q, hq⟩ := b2 res irP' bkS' bkBE' bkBC' bkBO' hq
      refine ⟨q + 1, ?_⟩
      have hend := cb_end h (t := d.length) (by simp)
      have hel := cb_el h (t := d.length) (i := c.length - e) (by simp) (by rw [bd_lst]; omega)
      rw [bd_lst, off_lst] at hend hel
      rw [T_ImageReader_unpack]
      simp (disch := omega) only [S_ImageReader_unpack, B_ImageReader_unpack_129, q_lit, le_T, le_F, lt_T, lt_F, eq_T, eq_F, m1_lt, m1_le, lt_m1, le_m1, eq_m1, m1_eq, nI_add, nI_sub, nI_dec, nI_mul, nI_or, nI_and, nI_div, nI_mod, and_255, and_31, and_1, and_63, nI_shl, nI_shr, bI_F, bI_1, vp_T, cl_T, true_implies, false_implies, not_true_eq_false, not_false_eq_true, true_and, and_true, false_and, and_false, Bool.false_eq_true, Bool.true_eq_false, reduceCtorEq, implies_true]
      refine ⟨_, hend, _, ?_, S1, B1, C1, O, a1, hq⟩
      rw [nI_sub (by omega), show d.flatten.length + c.length - e = d.flatten.length + (c.length - e) by omega]
      exact hel
  · refine ⟨S, BE, BC, by rw [show m - j = 0 by omega]; simpa [cpy] using h, fun res irP' bkS' bkBE' bkBC' bkBO' hq => ?_⟩
    obtain ⟨q, hq⟩ := hq
    refine ⟨q + 1, ?_⟩
    rw [T_ImageReader_unpack]
    simp (disch := omega) only [S_ImageReader_unpack, B_ImageReader_unpack_129, q_lit, le_T, le_F, lt_T, lt_F, eq_T, eq_F, m1_lt, m1_le, lt_m1, le_m1, eq_m1, m1_eq, nI_add, nI_sub, nI_dec, nI_mul, nI_or, nI_and, nI_div, nI_mod, and_255, and_31, and_1, and_63, nI_shl, nI_shr, bI_F, bI_1, vp_T, cl_T, true_implies, false_implies, not_true_eq_false, not_false_eq_true, true_and, and_true, false_and, and_false, Bool.false_eq_true, Bool.true_eq_false, reduceCtorEq, implies_true]
    exact hq
termination_by m - j
decreasing_by all_goals omega
set_option maxRecDepth 100000 in
theorem ir_unp {J : List Nat} {iE : Nat → Int32} {iC : Int32} (hJ : Rw 3000 iE iC J) (hy : q_By J) {d : List (List Nat)} (hd : d.length ≤ 9) (hd2 : ∀ b ∈ d, b.length ≤ 255) {T : Int32} {f : Nat} (hf : f < 100000) (i k : Nat) (hi : i + k = 255) (p : Nat) (hp : p < 50000) (c : List Nat) (hc : c.length ≤ 255) (hp2 : p + 2 * (255 - c.length) < 50000) (hcy : q_By c) {S BE : Nat → Int32} {BC : Int32} (O : Bool) (h : CB S BE BC T (d ++ [c])) :
    ∃ p' S' BE' BC', (∃ q, T_ImageReader_unpack 3000 2550 iE iC T (upk J f i p c).1 (nI p') S' BE' BC' O q 0 (nI d.length) (nI f) (nI k) (nI 0) false (nI 0) (nI 0) (nI 0) (nI p) S BE BC O) ∧ CB S' BE' BC' T (d ++ [(upk J f i p c).2]) ∧ p' ≤ p + 2 * (255 - c.length) + 2 ∧ ((upk J f i p c).1 = true → p' = f) := by
  have hle := cb_len h (t := d.length) (by simp)
  rw [bd_lst] at hle
  -- it stops
  have stop : ¬ (p < f ∧ k < 255) → ∃ p' S' BE' BC', (∃ q, T_ImageReader_unpack 3000 2550 iE iC T (decide (p = f)) (nI p') S' BE' BC' O q 0 (nI d.length) (nI f) (nI k) (nI 0) false (nI 0) (nI 0) (nI 0) (nI p) S BE BC O) ∧ CB S' BE' BC' T (d ++ [c]) ∧ p' ≤ p + 2 * (255 - c.length) + 2 ∧ (decide (p = f) = true → p' = f) := by
    intro hs
    refine ⟨p, S, BE, BC, ⟨2, ?_⟩, h, by omega, fun h9 => by simpa using h9⟩
    have st : T_ImageReader_unpack 3000 2550 iE iC T (decide (p = f)) (nI p) S BE BC O 1 6 (nI 0) (nI f) (nI 0) (nI 0) false (nI 0) (nI 0) (nI 0) (nI p) S BE BC O := by
      rw [T_ImageReader_unpack]
      by_cases h9 : p = f
      · rw [decide_eq_true h9]; simp (disch := omega) only [S_ImageReader_unpack, B_ImageReader_unpack_192, q_lit, le_T, le_F, lt_T, lt_F, eq_T, eq_F, m1_lt, m1_le, lt_m1, le_m1, eq_m1, m1_eq, nI_add, nI_sub, nI_dec, nI_mul, nI_or, nI_and, nI_div, nI_mod, and_255, and_31, and_1, and_63, nI_shl, nI_shr, bI_F, bI_1, vp_T, cl_T, true_implies, false_implies, not_true_eq_false, not_false_eq_true, true_and, and_true, false_and, and_false, Bool.false_eq_true, Bool.true_eq_false, reduceCtorEq, implies_true]
      · rw [decide_eq_false h9]; simp (disch := omega) only [S_ImageReader_unpack, B_ImageReader_unpack_192, q_lit, le_T, le_F, lt_T, lt_F, eq_T, eq_F, m1_lt, m1_le, lt_m1, le_m1, eq_m1, m1_eq, nI_add, nI_sub, nI_dec, nI_mul, nI_or, nI_and, nI_div, nI_mod, and_255, and_31, and_1, and_63, nI_shl, nI_shr, bI_F, bI_1, vp_T, cl_T, true_implies, false_implies, not_true_eq_false, not_false_eq_true, true_and, and_true, false_and, and_false, Bool.false_eq_true, Bool.true_eq_false, reduceCtorEq, implies_true]
    rw [T_ImageReader_unpack]
    by_cases h9 : k < 255
    · simp (disch := omega) only [S_ImageReader_unpack, B_ImageReader_unpack_10, q_lit, le_T, le_F, lt_T, lt_F, eq_T, eq_F, m1_lt, m1_le, lt_m1, le_m1, eq_m1, m1_eq, nI_add, nI_sub, nI_dec, nI_mul, nI_or, nI_and, nI_div, nI_mod, and_255, and_31, and_1, and_63, nI_shl, nI_shr, bI_F, bI_1, vp_T, cl_T, true_implies, false_implies, not_true_eq_false, not_false_eq_true, true_and, and_true, false_and, and_false, Bool.false_eq_true, Bool.true_eq_false, reduceCtorEq, implies_true]
      exact st
    · simp (disch := omega) only [S_ImageReader_unpack, B_ImageReader_unpack_10, q_lit, le_T, le_F, lt_T, lt_F, eq_T, eq_F, m1_lt, m1_le, lt_m1, le_m1, eq_m1, m1_eq, nI_add, nI_sub, nI_dec, nI_mul, nI_or, nI_and, nI_div, nI_mod, and_255, and_31, and_1, and_63, nI_shl, nI_shr, bI_F, bI_1, vp_T, cl_T, true_implies, false_implies, not_true_eq_false, not_false_eq_true, true_and, and_true, false_and, and_false, Bool.false_eq_true, Bool.true_eq_false, reduceCtorEq, implies_true]
      exact st
  cases i with
  | zero => exact stop (by omega)
  | succ i =>
    rw [upk]
    by_cases h1 : p < f
    · rw [if_pos h1]
      have hv := hy.getD p
      have hv2 := hy.getD (p + 1)
      have hnx := ir_next hJ (p := p) (by omega)
      have hnx2 := ir_next hJ (p := p + 1) (by omega)
      unfold pce
      by_cases h128 : J.getD p 0 < 128
      · rw [if_pos h128]
        by_cases h255 : c.length + (J.getD p 0 + 1) ≤ 255
        · rw [if_pos h255]
          simp only
          obtain ⟨S2, B2, C2, b1, b2⟩ := u5p hJ hy hd hd2 (f := f) (i := k) (J.getD p 0 + 1) (by omega) 0 (by omega) (p + 1) (by omega) c (by omega) hcy O h (nI 0) (by omega)
          simp only [Nat.sub_zero] at b1 b2
          obtain ⟨p', S3, B3, C3, c1, c2, c3, c4⟩ := ir_unp hJ hy hd hd2 hf i (k + 1) (by omega) (p + 1 + (J.getD p 0 + 1)) (by omega) (c ++ seg J (p + 1) (J.getD p 0 + 1)) (by simp only [List.length_append, seg_len]; omega) (by simp only [List.length_append, seg_len]; omega) (q_By.app hcy (seg_by hy _ _)) O b1
          refine ⟨p', S3, B3, C3, ?_, c2, by simp only [List.length_append, seg_len] at c3; omega, c4⟩
          obtain ⟨q, hq⟩ := b2 _ _ _ _ _ _ c1
          refine ⟨q + 5, ?_⟩
          rw [T_ImageReader_unpack]
          simp (disch := omega) only [S_ImageReader_unpack, B_ImageReader_unpack_10, q_lit, le_T, le_F, lt_T, lt_F, eq_T, eq_F, m1_lt, m1_le, lt_m1, le_m1, eq_m1, m1_eq, nI_add, nI_sub, nI_dec, nI_mul, nI_or, nI_and, nI_div, nI_mod, and_255, and_31, and_1, and_63, nI_shl, nI_shr, bI_F, bI_1, vp_T, cl_T, true_implies, false_implies, not_true_eq_false, not_false_eq_true, true_and, and_true, false_and, and_false, Bool.false_eq_true, Bool.true_eq_false, reduceCtorEq, implies_true]
          refine ⟨_, _, hnx, ?_⟩
          simp (disch := omega) only [T_ImageReader_unpack, S_ImageReader_unpack, B_ImageReader_unpack_47, B_ImageReader_unpack_69, B_ImageReader_unpack_84, B_ImageReader_unpack_107, q_lit, le_T, le_F, lt_T, lt_F, eq_T, eq_F, m1_lt, m1_le, lt_m1, le_m1, eq_m1, m1_eq, nI_add, nI_sub, nI_dec, nI_mul, nI_or, nI_and, nI_div, nI_mod, and_255, and_31, and_1, and_63, nI_shl, nI_shr, bI_F, bI_1, vp_T, cl_T, true_implies, false_implies, not_true_eq_false, not_false_eq_true, true_and, and_true, false_and, and_false, Bool.false_eq_true, Bool.true_eq_false, reduceCtorEq, implies_true]
          refine ⟨_, hle, ?_⟩
          simp (disch := omega) only [q_lit, le_T, le_F, lt_T, lt_F, eq_T, eq_F, m1_lt, m1_le, lt_m1, le_m1, eq_m1, m1_eq, nI_add, nI_sub, nI_dec, nI_mul, nI_or, nI_and, nI_div, nI_mod, and_255, and_31, and_1, and_63, nI_shl, nI_shr, bI_F, bI_1, vp_T, cl_T, true_implies, false_implies, not_true_eq_false, not_false_eq_true, true_and, and_true, false_and, and_false, Bool.false_eq_true, Bool.true_eq_false, reduceCtorEq, implies_true]
          refine ⟨_, hle, ?_⟩
          simp (disch := omega) only [q_lit, le_T, le_F, lt_T, lt_F, eq_T, eq_F, m1_lt, m1_le, lt_m1, le_m1, eq_m1, m1_eq, nI_add, nI_sub, nI_dec, nI_mul, nI_or, nI_and, nI_div, nI_mod, and_255, and_31, and_1, and_63, nI_shl, nI_shr, bI_F, bI_1, vp_T, cl_T, true_implies, false_implies, not_true_eq_false, not_false_eq_true, true_and, and_true, false_and, and_false, Bool.false_eq_true, Bool.true_eq_false, reduceCtorEq, implies_true]
          exact hq
        · rw [if_neg h255]
          simp only
          refine ⟨p + 1, S, BE, BC, ⟨5, ?_⟩, h, by omega, fun h9 => by cases h9⟩
          rw [T_ImageReader_unpack]
          simp (disch := omega) only [S_ImageReader_unpack, B_ImageReader_unpack_10, q_lit, le_T, le_F, lt_T, lt_F, eq_T, eq_F, m1_lt, m1_le, lt_m1, le_m1, eq_m1, m1_eq, nI_add, nI_sub, nI_dec, nI_mul, nI_or, nI_and, nI_div, nI_mod, and_255, and_31, and_1, and_63, nI_shl, nI_shr, bI_F, bI_1, vp_T, cl_T, true_implies, false_implies, not_true_eq_false, not_false_eq_true, true_and, and_true, false_and, and_false, Bool.false_eq_true, Bool.true_eq_false, reduceCtorEq, implies_true]
          refine ⟨_, _, hnx, ?_⟩
          simp (disch := omega) only [T_ImageReader_unpack, S_ImageReader_unpack, B_ImageReader_unpack_47, B_ImageReader_unpack_69, B_ImageReader_unpack_84, B_ImageReader_unpack_107, q_lit, le_T, le_F, lt_T, lt_F, eq_T, eq_F, m1_lt, m1_le, lt_m1, le_m1, eq_m1, m1_eq, nI_add, nI_sub, nI_dec, nI_mul, nI_or, nI_and, nI_div, nI_mod, and_255, and_31, and_1, and_63, nI_shl, nI_shr, bI_F, bI_1, vp_T, cl_T, true_implies, false_implies, not_true_eq_false, not_false_eq_true, true_and, and_true, false_and, and_false, Bool.false_eq_true, Bool.true_eq_false, reduceCtorEq, implies_true]
          refine ⟨_, hle, ?_⟩
          simp (disch := omega) only [q_lit, le_T, le_F, lt_T, lt_F, eq_T, eq_F, m1_lt, m1_le, lt_m1, le_m1, eq_m1, m1_eq, nI_add, nI_sub, nI_dec, nI_mul, nI_or, nI_and, nI_div, nI_mod, and_255, and_31, and_1, and_63, nI_shl, nI_shr, bI_F, bI_1, vp_T, cl_T, true_implies, false_implies, not_true_eq_false, not_false_eq_true, true_and, and_true, false_and, and_false, Bool.false_eq_true, Bool.true_eq_false, reduceCtorEq, implies_true]
          refine ⟨_, hle, ?_⟩
          simp (disch := omega) only [q_lit, le_T, le_F, lt_T, lt_F, eq_T, eq_F, m1_lt, m1_le, lt_m1, le_m1, eq_m1, m1_eq, nI_add, nI_sub, nI_dec, nI_mul, nI_or, nI_and, nI_div, nI_mod, and_255, and_31, and_1, and_63, nI_shl, nI_shr, bI_F, bI_1, vp_T, cl_T, true_implies, false_implies, not_true_eq_false, not_false_eq_true, true_and, and_true, false_and, and_false, Bool.false_eq_true, Bool.true_eq_false, reduceCtorEq, implies_true]
      · rw [if_neg h128]
        have pre : ∀ {res irP' bkS' bkBE' bkBC' bkBO'}, (∃ q, T_ImageReader_unpack 3000 2550 iE iC T res irP' bkS' bkBE' bkBC' bkBO' q 3 (nI d.length) (nI f) (nI k) (nI 0) false (nI (J.getD p 0 - 125)) (nI (J.getD (p + 1) 0)) (nI 0) (nI (p + 2)) S BE BC O) → ∃ q, T_ImageReader_unpack 3000 2550 iE iC T res irP' bkS' bkBE' bkBC' bkBO' q 0 (nI d.length) (nI f) (nI k) (nI 0) false (nI 0) (nI 0) (nI 0) (nI p) S BE BC O := by
          intro res irP' bkS' bkBE' bkBC' bkBO' hq
          obtain ⟨q, hq⟩ := hq
          refine ⟨q + 3, ?_⟩
          rw [T_ImageReader_unpack]
          simp (disch := omega) only [S_ImageReader_unpack, B_ImageReader_unpack_10, q_lit, le_T, le_F, lt_T, lt_F, eq_T, eq_F, m1_lt, m1_le, lt_m1, le_m1, eq_m1, m1_eq, nI_add, nI_sub, nI_dec, nI_mul, nI_or, nI_and, nI_div, nI_mod, and_255, and_31, and_1, and_63, nI_shl, nI_shr, bI_F, bI_1, vp_T, cl_T, true_implies, false_implies, not_true_eq_false, not_false_eq_true, true_and, and_true, false_and, and_false, Bool.false_eq_true, Bool.true_eq_false, reduceCtorEq, implies_true]
          refine ⟨_, _, hnx, ?_⟩
          simp (disch := omega) only [T_ImageReader_unpack, S_ImageReader_unpack, B_ImageReader_unpack_47, B_ImageReader_unpack_69, q_lit, le_T, le_F, lt_T, lt_F, eq_T, eq_F, m1_lt, m1_le, lt_m1, le_m1, eq_m1, m1_eq, nI_add, nI_sub, nI_dec, nI_mul, nI_or, nI_and, nI_div, nI_mod, and_255, and_31, and_1, and_63, nI_shl, nI_shr, bI_F, bI_1, vp_T, cl_T, true_implies, false_implies, not_true_eq_false, not_false_eq_true, true_and, and_true, false_and, and_false, Bool.false_eq_true, Bool.true_eq_false, reduceCtorEq, implies_true]
          refine ⟨_, _, hnx2, ?_⟩
          rw [show J.getD p 0 - 128 + 3 = J.getD p 0 - 125 by omega]
          exact hq
        by_cases hbad : c.length < J.getD (p + 1) 0 ∨ J.getD (p + 1) 0 = 0 ∨ 255 < c.length + (J.getD p 0 - 125)
        · rw [if_pos hbad]
          simp only
          refine ⟨p + 2, S, BE, BC, pre ⟨2, ?_⟩, h, by omega, fun h9 => by cases h9⟩
          rw [T_ImageReader_unpack]
          simp (disch := omega) only [T_ImageReader_unpack, S_ImageReader_unpack, B_ImageReader_unpack_84, B_ImageReader_unpack_107, q_lit, le_T, le_F, lt_T, lt_F, eq_T, eq_F, m1_lt, m1_le, lt_m1, le_m1, eq_m1, m1_eq, nI_add, nI_sub, nI_dec, nI_mul, nI_or, nI_and, nI_div, nI_mod, and_255, and_31, and_1, and_63, nI_shl, nI_shr, bI_F, bI_1, vp_T, cl_T, true_implies, false_implies, not_true_eq_false, not_false_eq_true, true_and, and_true, false_and, and_false, Bool.false_eq_true, Bool.true_eq_false, reduceCtorEq, implies_true]
          refine ⟨_, hle, ?_⟩
          by_cases g1 : c.length < J.getD (p + 1) 0
          · simp (disch := omega) only [q_lit, le_T, le_F, lt_T, lt_F, eq_T, eq_F, m1_lt, m1_le, lt_m1, le_m1, eq_m1, m1_eq, nI_add, nI_sub, nI_dec, nI_mul, nI_or, nI_and, nI_div, nI_mod, and_255, and_31, and_1, and_63, nI_shl, nI_shr, bI_F, bI_1, vp_T, cl_T, true_implies, false_implies, not_true_eq_false, not_false_eq_true, true_and, and_true, false_and, and_false, Bool.false_eq_true, Bool.true_eq_false, reduceCtorEq, implies_true]
          · by_cases g2 : J.getD (p + 1) 0 = 0
            · simp (disch := omega) only [q_lit, le_T, le_F, lt_T, lt_F, eq_T, eq_F, m1_lt, m1_le, lt_m1, le_m1, eq_m1, m1_eq, nI_add, nI_sub, nI_dec, nI_mul, nI_or, nI_and, nI_div, nI_mod, and_255, and_31, and_1, and_63, nI_shl, nI_shr, bI_F, bI_1, vp_T, cl_T, true_implies, false_implies, not_true_eq_false, not_false_eq_true, true_and, and_true, false_and, and_false, Bool.false_eq_true, Bool.true_eq_false, reduceCtorEq, implies_true]
            · simp (disch := omega) only [q_lit, le_T, le_F, lt_T, lt_F, eq_T, eq_F, m1_lt, m1_le, lt_m1, le_m1, eq_m1, m1_eq, nI_add, nI_sub, nI_dec, nI_mul, nI_or, nI_and, nI_div, nI_mod, and_255, and_31, and_1, and_63, nI_shl, nI_shr, bI_F, bI_1, vp_T, cl_T, true_implies, false_implies, not_true_eq_false, not_false_eq_true, true_and, and_true, false_and, and_false, Bool.false_eq_true, Bool.true_eq_false, reduceCtorEq, implies_true]
              refine ⟨_, hle, ?_⟩
              simp (disch := omega) only [q_lit, le_T, le_F, lt_T, lt_F, eq_T, eq_F, m1_lt, m1_le, lt_m1, le_m1, eq_m1, m1_eq, nI_add, nI_sub, nI_dec, nI_mul, nI_or, nI_and, nI_div, nI_mod, and_255, and_31, and_1, and_63, nI_shl, nI_shr, bI_F, bI_1, vp_T, cl_T, true_implies, false_implies, not_true_eq_false, not_false_eq_true, true_and, and_true, false_and, and_false, Bool.false_eq_true, Bool.true_eq_false, reduceCtorEq, implies_true]
        · rw [if_neg hbad]
          simp only
          obtain ⟨S2, B2, C2, b1, b2⟩ := u5c hJ hy hd hd2 (f := f) (i := k) (J.getD p 0 - 125) (by omega) (e := J.getD (p + 1) 0) (by omega) 0 (by omega) (p := p + 2) (by omega) c (by omega) (by omega) hcy O h (by omega)
          simp only [Nat.sub_zero] at b1 b2
          obtain ⟨p', S3, B3, C3, c1, c2, c3, c4⟩ := ir_unp hJ hy hd hd2 hf i (k + 1) (by omega) (p + 2) (by omega) (cpy c (J.getD (p + 1) 0) (J.getD p 0 - 125)) (by rw [cpy_len]; omega) (by rw [cpy_len]; omega) (cpy_by hcy _ _) O b1
          refine ⟨p', S3, B3, C3, pre ?_, c2, by rw [cpy_len] at c3; omega, c4⟩
          obtain ⟨q, hq⟩ := b2 _ _ _ _ _ _ c1
          refine ⟨q + 2, ?_⟩
          rw [T_ImageReader_unpack]
          simp (disch := omega) only [T_ImageReader_unpack, S_ImageReader_unpack, B_ImageReader_unpack_84, B_ImageReader_unpack_107, q_lit, le_T, le_F, lt_T, lt_F, eq_T, eq_F, m1_lt, m1_le, lt_m1, le_m1, eq_m1, m1_eq, nI_add, nI_sub, nI_dec, nI_mul, nI_or, nI_and, nI_div, nI_mod, and_255, and_31, and_1, and_63, nI_shl, nI_shr, bI_F, bI_1, vp_T, cl_T, true_implies, false_implies, not_true_eq_false, not_false_eq_true, true_and, and_true, false_and, and_false, Bool.false_eq_true, Bool.true_eq_false, reduceCtorEq, implies_true]
          refine ⟨_, hle, ?_⟩
          simp (disch := omega) only [q_lit, le_T, le_F, lt_T, lt_F, eq_T, eq_F, m1_lt, m1_le, lt_m1, le_m1, eq_m1, m1_eq, nI_add, nI_sub, nI_dec, nI_mul, nI_or, nI_and, nI_div, nI_mod, and_255, and_31, and_1, and_63, nI_shl, nI_shr, bI_F, bI_1, vp_T, cl_T, true_implies, false_implies, not_true_eq_false, not_false_eq_true, true_and, and_true, false_and, and_false, Bool.false_eq_true, Bool.true_eq_false, reduceCtorEq, implies_true]
          refine ⟨_, hle, ?_⟩
          simp (disch := omega) only [q_lit, le_T, le_F, lt_T, lt_F, eq_T, eq_F, m1_lt, m1_le, lt_m1, le_m1, eq_m1, m1_eq, nI_add, nI_sub, nI_dec, nI_mul, nI_or, nI_and, nI_div, nI_mod, and_255, and_31, and_1, and_63, nI_shl, nI_shr, bI_F, bI_1, vp_T, cl_T, true_implies, false_implies, not_true_eq_false, not_false_eq_true, true_and, and_true, false_and, and_false, Bool.false_eq_true, Bool.true_eq_false, reduceCtorEq, implies_true]
          exact hq
    · rw [if_neg h1]; exact stop (by omega)
