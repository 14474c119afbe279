/-! Pure: what an image says. -/
def pr2 (n : Nat) : List Nat := [n % 256, n / 256 % 256]
def nm6 (w : List Nat) : List Nat := [w.getD 0 0, w.getD 1 0, w.getD 2 0, w.getD 3 0, w.getD 4 0, w.getD 5 0]
def wrd (w : List Nat) : List Nat := w.length :: w
/-- how far what stands at a place is like what stood d before -/
def alk (b : List Nat) (at0 d n : Nat) : Nat := if n < 63 ∧ at0 + n < b.length ∧ b.getD (at0 + n) 0 = b.getD (at0 + n - d) 0 then alk b at0 d (n + 1) else n
termination_by 63 - n
decreasing_by all_goals omega
/-- the q_best so far, and how far before it begins; d is next -/
def q_bst (b : List Nat) (at0 d : Nat) (s : Nat × Nat) : Nat × Nat := if d ≤ at0 then q_bst b at0 (d + 1) (if s.1 < alk b at0 d 0 then (alk b at0 d 0, d) else s) else s
termination_by at0 + 1 - d
decreasing_by all_goals omega
def q_best (b : List Nat) (at0 : Nat) : Nat × Nat := q_bst b at0 1 (0, 0)
def lits (b : List Nat) (at0 n : Nat) : List Nat := if n = 0 then [] else (n - 1) :: (b.drop (at0 - n)).take n
theorem alk_ge (b : List Nat) (at0 d n : Nat) : n ≤ alk b at0 d n := by
  rw [alk]; split
  · have := alk_ge b at0 d (n + 1); omega
  · omega
termination_by 63 - n
decreasing_by all_goals omega
theorem alk_le (b : List Nat) (at0 d n : Nat) (h : n ≤ 63) : alk b at0 d n ≤ 63 := by
  rw [alk]; split
  · exact alk_le b at0 d (n + 1) (by omega)
  · exact h
termination_by 63 - n
decreasing_by all_goals omega
theorem alk_end (b : List Nat) (at0 d n : Nat) (h : at0 + n ≤ b.length) : at0 + alk b at0 d n ≤ b.length := by
  rw [alk]; split
  · exact alk_end b at0 d (n + 1) (by omega)
  · exact h
termination_by 63 - n
decreasing_by all_goals omega
theorem bst_or (b : List Nat) (at0 d : Nat) (s : Nat × Nat) : (q_bst b at0 d s = s) ∨ (d ≤ (q_bst b at0 d s).2 ∧ (q_bst b at0 d s).2 ≤ at0 ∧ (q_bst b at0 d s).1 = alk b at0 (q_bst b at0 d s).2 0 ∧ s.1 < (q_bst b at0 d s).1) := by
  rw [q_bst]
  by_cases h : d ≤ at0
  · rw [if_pos h]
    by_cases h1 : s.1 < alk b at0 d 0
    · rw [if_pos h1]
      rcases bst_or b at0 (d + 1) (alk b at0 d 0, d) with h2 | h2
      · rw [h2]; exact Or.inr ⟨Nat.le_refl _, h, rfl, h1⟩
      · exact Or.inr ⟨by omega, h2.2.1, h2.2.2.1, by have := h2.2.2.2; simp only at this; omega⟩
    · rw [if_neg h1]
      rcases bst_or b at0 (d + 1) s with h2 | h2
      · exact Or.inl h2
      · exact Or.inr ⟨by omega, h2.2⟩
  · rw [if_neg h]; exact Or.inl rfl
termination_by at0 + 1 - d
decreasing_by all_goals omega
theorem best_ok {b : List Nat} {at0 : Nat} (h : 2 < (q_best b at0).1) : 1 ≤ (q_best b at0).2 ∧ (q_best b at0).2 ≤ at0 ∧ (q_best b at0).1 = alk b at0 (q_best b at0).2 0 := by
  rcases bst_or b at0 1 (0, 0) with h1 | h1
  · unfold q_best at h; rw [h1] at h; simp at h
  · exact ⟨h1.1, h1.2.1, h1.2.2.1⟩
/-- a body packed, from a place on, with so many plain signs ahead of it -/
def pkS (b : List Nat) (at0 q_lit : Nat) : List Nat :=
  if h : at0 < b.length then
    if h2 : 2 < (q_best b at0).1 then lits b at0 q_lit ++ ([128 + (q_best b at0).1 - 3, (q_best b at0).2] ++ pkS b (at0 + (q_best b at0).1) 0)
    else if q_lit = 128 then lits b at0 128 ++ pkS b (at0 + 1) 1
    else pkS b (at0 + 1) (q_lit + 1)
  else lits b at0 q_lit
termination_by b.length - at0
decreasing_by all_goals omega
def pk (b : List Nat) : List Nat := pkS b 0 0
/-- heads of topics: the packed lengths of the first j told -/
def hdr (ns bs : List (List Nat)) (j : Nat) : Nat → List Nat
  | 0 => []
  | t + 1 => hdr ns bs j t ++ (nm6 (bd ns t) ++ pr2 (bd bs t).length ++ pr2 (if t < j then (pk (bd bs t)).length else 0))
def pks (bs : List (List Nat)) : Nat → List Nat
  | 0 => []
  | j + 1 => pks bs j ++ pk (bd bs j)
def up4 (k s : Nat) : Nat := (k + s - 1) / s
def treeN (k : Nat) : Nat := up4 k 4 + (if 4 < k then up4 k 16 + (if 16 < k then up4 k 64 + (if 64 < k then up4 k 256 else 0) else 0) else 0)
/-- a leaf's entry -/
def lfE (e : List Nat × Nat) : List Nat := wrd e.1 ++ pr2 e.2
/-- leaves: keyword by keyword -/
def lvs (m : List (List Nat × Nat)) : Nat → List Nat
  | 0 => []
  | k + 1 => lvs m k ++ ((if k % 4 = 0 then [if m.length - k < 4 then m.length - k else 4] else []) ++ (wrd (mw m k) ++ pr2 (mb m k)))
/-- a row of nodes above: n nodes below, the first of them numbered f, s keywords each -/
def rowA (m : List (List Nat × Nat)) (f s n : Nat) : Nat → List Nat
  | 0 => []
  | k + 1 => rowA m f s n k ++ ((if k % 4 = 0 then [if n - k < 4 then n - k else 4] else []) ++ ([f + k] ++ wrd (mw m (k * s))))
def tree (m : List (List Nat × Nat)) : List Nat :=
  [treeN m.length] ++ lvs m m.length ++ (if 4 < m.length then rowA m 0 4 (up4 m.length 4) (up4 m.length 4) ++ (if 16 < m.length then rowA m (up4 m.length 4) 16 (up4 m.length 16) (up4 m.length 16) ++ (if 64 < m.length then rowA m (up4 m.length 4 + up4 m.length 16) 64 (up4 m.length 64) (up4 m.length 64) else []) else []) else [])
/-- topics told by their bits: how many, then each from the one before; those from 10 - d on -/
def tpD (b : Nat) : Nat → List Nat
  | 0 => []
  | d + 1 => (if b >>> (9 - d) % 2 = 1 then [9 - d] else []) ++ tpD b d
def dlt : Nat → List Nat → List Nat
  | _, [] => []
  | p, t :: r => (t - p) :: dlt t r
def tpB (b : Nat) : List Nat := (tpD b 10).length :: dlt 0 (tpD b 10)
def q_idx (m : List (List Nat × Nat)) : Nat → List Nat
  | 0 => []
  | k + 1 => q_idx m k ++ (wrd (mw m k) ++ tpB (mb m k))
def img0 (ns bs : List (List Nat)) (ks ws : List (List Nat × Nat)) : List Nat := [72, bs.length] ++ hdr ns bs bs.length bs.length ++ pks bs bs.length ++ tree ks ++ (pr2 ws.length ++ q_idx ws ws.length)
def img (ns bs : List (List Nat)) (ks ws : List (List Nat × Nat)) : List Nat := img0 ns bs ks ws ++ pr2 (img0 ns bs ks ws).sum
/-- a row that may be overfull -/
def RO (E : Nat → Int32) (C : Int32) (O : Bool) (L : List Nat) : Prop := (O = false ∧ Rw 3000 E C L) ∨ (O = true ∧ 3000 < L.length ∧ C = nI 3000)
theorem ro_app {E : Nat → Int32} {C : Int32} {O : Bool} {L : List Nat} (h : RO E C O L) (n : Nat) : ∃ E' C' O', D_Row_append 3000 (nI n) E C O E' C' O' ∧ RO E' C' O' (L ++ [n]) := by
  rcases h with ⟨rfl, h⟩ | ⟨rfl, h1, rfl⟩
  · by_cases h1 : L.length < 3000
    · exact ⟨_, _, false, row_app h h1 n false, Or.inl ⟨rfl, rw_app h h1 n⟩⟩
    · have h2 := h.2.1
      have h3 := h.1
      refine ⟨E, C, true, ?_, Or.inr ⟨rfl, by simp; omega, by rw [h3]; congr 1; omega⟩⟩
      rw [h3]
      simp (disch := omega) only [D_Row_append, q_lit, le_T, le_F, lt_T, lt_F, eq_T, eq_F, m1_lt, m1_le, lt_m1, le_m1, eq_m1, m1_eq, nI_add, nI_sub, nI_dec, nI_mul, nI_or, nI_and, nI_div, nI_mod, and_255, and_31, and_1, and_63, nI_shl, nI_shr, bI_F, bI_1, vp_T, cl_T, true_implies, false_implies, not_true_eq_false, not_false_eq_true, true_and, and_true, false_and, and_false, Bool.false_eq_true, Bool.true_eq_false, reduceCtorEq, implies_true]
  · refine ⟨E, nI 3000, true, ?_, Or.inr ⟨rfl, by simp; omega, rfl⟩⟩
    simp (disch := omega) only [D_Row_append, q_lit, le_T, le_F, lt_T, lt_F, eq_T, eq_F, m1_lt, m1_le, lt_m1, le_m1, eq_m1, m1_eq, nI_add, nI_sub, nI_dec, nI_mul, nI_or, nI_and, nI_div, nI_mod, and_255, and_31, and_1, and_63, nI_shl, nI_shr, bI_F, bI_1, vp_T, cl_T, true_implies, false_implies, not_true_eq_false, not_false_eq_true, true_and, and_true, false_and, and_false, Bool.false_eq_true, Bool.true_eq_false, reduceCtorEq, implies_true]
theorem ro_pair {E : Nat → Int32} {C : Int32} {O : Bool} {L : List Nat} (h : RO E C O L) {n : Nat} (hn : n < 2147483648) : ∃ E' C' O', D_Row_appendPair 3000 (nI n) E C O E' C' O' ∧ RO E' C' O' (L ++ pr2 n) := by
  obtain ⟨E1, C1, O1, a1, a2⟩ := ro_app h (n % 256)
  obtain ⟨E2, C2, O2, b1, b2⟩ := ro_app a2 (n / 256 % 256)
  refine ⟨E2, C2, O2, ⟨E1, C1, O1, ?_, E2, C2, O2, ?_, rfl, rfl, rfl⟩, by simpa [pr2] using b2⟩
  · have : (nI n &&& 255 : Int32) = nI (n % 256) := by simp (disch := omega) only [q_lit, le_T, le_F, lt_T, lt_F, eq_T, eq_F, m1_lt, m1_le, lt_m1, le_m1, eq_m1, m1_eq, nI_add, nI_sub, nI_dec, nI_mul, nI_or, nI_and, nI_div, nI_mod, and_255, and_31, and_1, and_63, nI_shl, nI_shr, bI_F, bI_1, vp_T, cl_T, true_implies, false_implies, not_true_eq_false, not_false_eq_true, true_and, and_true, false_and, and_false, Bool.false_eq_true, Bool.true_eq_false, reduceCtorEq, implies_true]
    rw [this]; exact a1
  · have : ((nI n >>> (8 &&& 31)) &&& 255 : Int32) = nI (n / 256 % 256) := by
      simp (disch := omega) only [q_lit, le_T, le_F, lt_T, lt_F, eq_T, eq_F, m1_lt, m1_le, lt_m1, le_m1, eq_m1, m1_eq, nI_add, nI_sub, nI_dec, nI_mul, nI_or, nI_and, nI_div, nI_mod, and_255, and_31, and_1, and_63, nI_shl, nI_shr, bI_F, bI_1, vp_T, cl_T, true_implies, false_implies, not_true_eq_false, not_false_eq_true, true_and, and_true, false_and, and_false, Bool.false_eq_true, Bool.true_eq_false, reduceCtorEq, implies_true]
      rw [Nat.shiftRight_eq_div_pow]
    rw [this]; exact b1
theorem t_wname {w : List Nat} (hw : q_Wd w) (k : Nat) (hk : k ≤ 6) (E : Nat → Int32) (C : Int32) (O : Bool) (L : List Nat) (h : RO E C O L) : ∃ E' C' O', (∃ q, T_ImageWriter_writeName 3000 E' C' O' q (lN (enc w)) (nI k) E C O) ∧ RO E' C' O' (L ++ (nm6 w).drop k) := by
  by_cases h1 : k < 6
  · obtain ⟨E1, C1, O1, a1, a2⟩ := ro_app h (w.getD k 0)
    obtain ⟨E', C', O', ⟨q, hq⟩, b2⟩ := t_wname hw (k + 1) (by omega) E1 C1 O1 _ a2
    refine ⟨E', C', O', ⟨q + 1, ?_⟩, ?_⟩
    · simp (disch := omega) only [T_ImageWriter_writeName, S_ImageWriter_writeName, B_ImageWriter_writeName_2, q_lit, le_T, le_F, lt_T, lt_F, eq_T, eq_F, m1_lt, m1_le, lt_m1, le_m1, eq_m1, m1_eq, nI_add, nI_sub, nI_dec, nI_mul, nI_or, nI_and, nI_div, nI_mod, and_255, and_31, and_1, and_63, nI_shl, nI_shr, bI_F, bI_1, vp_T, cl_T, true_implies, false_implies, not_true_eq_false, not_false_eq_true, true_and, and_true, false_and, and_false, Bool.false_eq_true, Bool.true_eq_false, reduceCtorEq, implies_true, q_lc_eq, q_lc_ge, q_lc_gt, q_lc_le, lN_or, lN_and, lN_shl, lN_shr, nI_L, lN_I, l_0]
      exact ⟨_, let_letter hw (by omega), E1, C1, O1, a1, hq⟩
    · have e : (nm6 w).drop k = w.getD k 0 :: (nm6 w).drop (k + 1) := by
        rcases (show k = 0 ∨ k = 1 ∨ k = 2 ∨ k = 3 ∨ k = 4 ∨ k = 5 by omega) with h2 | h2 | h2 | h2 | h2 | h2 <;> subst h2 <;> rfl
      rw [e]; simpa using b2
  · refine ⟨E, C, O, ⟨1, ?_⟩, ?_⟩
    · simp (disch := omega) only [T_ImageWriter_writeName, S_ImageWriter_writeName, B_ImageWriter_writeName_2, q_lit, le_T, le_F, lt_T, lt_F, eq_T, eq_F, m1_lt, m1_le, lt_m1, le_m1, eq_m1, m1_eq, nI_add, nI_sub, nI_dec, nI_mul, nI_or, nI_and, nI_div, nI_mod, and_255, and_31, and_1, and_63, nI_shl, nI_shr, bI_F, bI_1, vp_T, cl_T, true_implies, false_implies, not_true_eq_false, not_false_eq_true, true_and, and_true, false_and, and_false, Bool.false_eq_true, Bool.true_eq_false, reduceCtorEq, implies_true, q_lc_eq, q_lc_ge, q_lc_gt, q_lc_le, lN_or, lN_and, lN_shl, lN_shr, nI_L, lN_I, l_0]
    · rw [List.drop_eq_nil_of_le (by simp [nm6]; omega)]; simpa using h
termination_by 6 - k
decreasing_by all_goals omega
theorem wr_name {w : List Nat} (hw : q_Wd w) {E : Nat → Int32} {C : Int32} {O : Bool} {L : List Nat} (h : RO E C O L) : ∃ E' C' O', D_ImageWriter_writeName 3000 (lN (enc w)) E C O E' C' O' ∧ RO E' C' O' (L ++ nm6 w) := by
  obtain ⟨E', C', O', a, b⟩ := t_wname hw 0 (by omega) E C O L h
  exact ⟨E', C', O', by simpa [D_ImageWriter_writeName, q_lit] using a, by simpa using b⟩
theorem t_wword {w : List Nat} (hw : q_Wd w) (hl : w.length ≤ 12) (k : Nat) (hk : k ≤ w.length) (E : Nat → Int32) (C : Int32) (O : Bool) (L : List Nat) (h : RO E C O L) : ∃ E' C' O', (∃ q, T_ImageWriter_writeWord 3000 E' C' O' q (lN (enc w)) (nI w.length) (nI k) E C O) ∧ RO E' C' O' (L ++ w.drop k) := by
  by_cases h1 : k < w.length
  · obtain ⟨E1, C1, O1, a1, a2⟩ := ro_app h (w.getD k 0)
    obtain ⟨E', C', O', ⟨q, hq⟩, b2⟩ := t_wword hw hl (k + 1) (by omega) E1 C1 O1 _ a2
    refine ⟨E', C', O', ⟨q + 1, ?_⟩, ?_⟩
    · simp (disch := omega) only [T_ImageWriter_writeWord, S_ImageWriter_writeWord, B_ImageWriter_writeWord_13, q_lit, le_T, le_F, lt_T, lt_F, eq_T, eq_F, m1_lt, m1_le, lt_m1, le_m1, eq_m1, m1_eq, nI_add, nI_sub, nI_dec, nI_mul, nI_or, nI_and, nI_div, nI_mod, and_255, and_31, and_1, and_63, nI_shl, nI_shr, bI_F, bI_1, vp_T, cl_T, true_implies, false_implies, not_true_eq_false, not_false_eq_true, true_and, and_true, false_and, and_false, Bool.false_eq_true, Bool.true_eq_false, reduceCtorEq, implies_true, q_lc_eq, q_lc_ge, q_lc_gt, q_lc_le, lN_or, lN_and, lN_shl, lN_shr, nI_L, lN_I, l_0]
      exact ⟨_, let_letter hw (by omega), E1, C1, O1, a1, hq⟩
    · rw [drop_s h1]; simpa using b2
  · refine ⟨E, C, O, ⟨1, ?_⟩, ?_⟩
    · simp (disch := omega) only [T_ImageWriter_writeWord, S_ImageWriter_writeWord, B_ImageWriter_writeWord_13, q_lit, le_T, le_F, lt_T, lt_F, eq_T, eq_F, m1_lt, m1_le, lt_m1, le_m1, eq_m1, m1_eq, nI_add, nI_sub, nI_dec, nI_mul, nI_or, nI_and, nI_div, nI_mod, and_255, and_31, and_1, and_63, nI_shl, nI_shr, bI_F, bI_1, vp_T, cl_T, true_implies, false_implies, not_true_eq_false, not_false_eq_true, true_and, and_true, false_and, and_false, Bool.false_eq_true, Bool.true_eq_false, reduceCtorEq, implies_true, q_lc_eq, q_lc_ge, q_lc_gt, q_lc_le, lN_or, lN_and, lN_shl, lN_shr, nI_L, lN_I, l_0]
    · rw [List.drop_eq_nil_of_le (by omega)]; simpa using h
termination_by w.length - k
decreasing_by all_goals omega
theorem wr_word {w : List Nat} (hw : q_Wd w) (hl : w.length ≤ 12) {E : Nat → Int32} {C : Int32} {O : Bool} {L : List Nat} (h : RO E C O L) : ∃ E' C' O', D_ImageWriter_writeWord 3000 (lN (enc w)) E C O E' C' O' ∧ RO E' C' O' (L ++ wrd w) := by
  obtain ⟨E1, C1, O1, a1, a2⟩ := ro_app h w.length
  obtain ⟨E', C', O', ⟨q, hq⟩, b⟩ := t_wword hw hl 0 (by omega) E1 C1 O1 _ a2
  exact ⟨E', C', O', ⟨q, _, let_length hw hl, E1, C1, O1, a1, by simpa [q_lit] using hq⟩, by simpa [wrd] using b⟩
