/-! Pure: a source is read, the class: what it keeps, and its small steps. -/
abbrev q_Lk : Type := Nat × Nat × Nat × Nat × Nat
abbrev q_Cs : Type := (List (List Nat)) × (List (List Nat)) × (List Nat) × (List (List Nat × Nat)) × (List q_Lk) × Nat × Nat × Bool × Bool × Bool × Nat
def lk0 : q_Lk := ⟨0, 0, 0, 0, 0⟩
def nmL (L : List Nat) (k : q_Lk) : List Nat := (L.drop k.1).take k.2.1
abbrev q_CC : Type := (Nat → Int32) × (Nat → Int64) × (Nat → Int32) × (Nat → Int32) × Int32 × Int32 × Int32 × Int32 × Int32 × Bool × Bool × Bool × (Nat → Int64) × (Nat → Int32) × (Nat → Int32) × Int32 × Bool × (Nat → Int64) × (Nat → Int32) × Int32 × Int32
def ftI (ft fl : Nat) : Int32 := if ft = 0 then -nI 1 else nI fl
def q_CL (L : List Nat) (c : q_CC) (a : q_Cs) : Prop := c.2.2.2.2.1 = nI a.2.2.2.2.1.length ∧ a.2.2.2.2.1.length ≤ 234 ∧ ∀ i, i < a.2.2.2.2.1.length → c.2.1 i = lN (enc (nmL L (a.2.2.2.2.1.getD i lk0))) ∧ c.2.2.1 i = nI (a.2.2.2.2.1.getD i lk0).2.2.1 ∧ c.2.2.2.1 i = nI (q_off a.2.1 (a.2.2.2.2.1.getD i lk0).2.2.2.1 + (a.2.2.2.2.1.getD i lk0).2.2.2.2) ∧ (a.2.2.2.2.1.getD i lk0).2.2.2.1 < a.2.1.length ∧ (a.2.2.2.2.1.getD i lk0).2.2.2.2 < (bd a.2.1 (a.2.2.2.2.1.getD i lk0).2.2.2.1).length
def q_CN (c : q_CC) (a : q_Cs) : Prop := a.1.length = a.2.1.length ∧ a.2.2.1.length = a.2.1.length ∧ (∀ t, t < a.2.1.length → c.2.2.2.2.2.2.2.2.2.2.2.2.1 t = lN (enc (bd a.1 t)) ∧ c.1 t = nI (a.2.2.1.getD t 0)) ∧ CW 252 c.2.2.2.2.2.2.2.2.2.2.2.2.2.2.2.2.2.1 c.2.2.2.2.2.2.2.2.2.2.2.2.2.2.2.2.2.2.1 c.2.2.2.2.2.2.2.2.2.2.2.2.2.2.2.2.2.2.2.1 (codes a.2.2.2.1) ∧ Srt (codes a.2.2.2.1) ∧ (a.2.2.2.2.2.2.2.1 = true → a.2.1 ≠ [])
def q_CI (L : List Nat) (c : q_CC) (a : q_Cs) : Prop := c.2.2.2.2.2.1 = nI a.2.2.2.2.2.1 ∧ a.2.2.2.2.2.1 < 100 ∧ c.2.2.2.2.2.2.1 = ftI a.2.2.2.2.2.1 a.2.2.2.2.2.2.1 ∧ c.2.2.2.2.2.2.2.2.1 = nI a.2.2.2.2.2.2.2.2.2.2 ∧ c.2.2.2.2.2.2.2.2.2.1 = a.2.2.2.2.2.2.2.1 ∧ c.2.2.2.2.2.2.2.2.2.2.1 = a.2.2.2.2.2.2.2.2.2.1 ∧ c.2.2.2.2.2.2.2.2.2.2.2.1 = a.2.2.2.2.2.2.2.2.1 ∧ CB c.2.2.2.2.2.2.2.2.2.2.2.2.2.1 c.2.2.2.2.2.2.2.2.2.2.2.2.2.2.1 c.2.2.2.2.2.2.2.2.2.2.2.2.2.2.2.1 c.2.2.2.2.2.2.2.2.2.2.2.2.2.2.2.2.2.2.2.2 a.2.1 ∧ q_CN c a ∧ q_CL L c a
def q_addB (bs : List (List Nat)) (x : Nat) : List (List Nat) := bs.dropLast ++ [bs.getLastD [] ++ [x]]
theorem addB_eq (d : List (List Nat)) (c : List Nat) (x : Nat) : q_addB (d ++ [c]) x = d ++ [c ++ [x]] := by simp [q_addB]
theorem ne_snoc {bs : List (List Nat)} (h : bs ≠ []) : ∃ d c, bs = d ++ [c] := ⟨bs.dropLast, bs.getLast h, (List.dropLast_concat_getLast h).symm⟩
theorem addB_flat {bs : List (List Nat)} (h : bs ≠ []) (x : Nat) : (q_addB bs x).flatten = bs.flatten ++ [x] := by
  obtain ⟨d, c, rfl⟩ := ne_snoc h
  rw [addB_eq]; simp
theorem addB_len {bs : List (List Nat)} (h : bs ≠ []) (x : Nat) : (q_addB bs x).length = bs.length := by
  obtain ⟨d, c, rfl⟩ := ne_snoc h
  rw [addB_eq]; simp
theorem addB_ne (bs : List (List Nat)) (x : Nat) : q_addB bs x ≠ [] := by simp [q_addB]
theorem addB_off {bs : List (List Nat)} (h : bs ≠ []) (x : Nat) {t : Nat} (ht : t < bs.length) : q_off (q_addB bs x) t = q_off bs t := by
  obtain ⟨d, c, rfl⟩ := ne_snoc h
  simp only [List.length_append, List.length_cons, List.length_nil] at ht
  rw [addB_eq, off_app (by omega), off_app (by omega)]
theorem addB_bd {bs : List (List Nat)} (h : bs ≠ []) (x : Nat) {t : Nat} (ht : t < bs.length) : bd (q_addB bs x) t = if t + 1 = bs.length then bd bs t ++ [x] else bd bs t := by
  obtain ⟨d, c, rfl⟩ := ne_snoc h
  simp only [List.length_append, List.length_cons, List.length_nil] at ht ⊢
  rw [addB_eq]
  by_cases h1 : t = d.length
  · subst h1; rw [if_pos (by omega), bd_last, bd_last]
  · rw [if_neg (by omega), bd_app (by omega), bd_app (by omega)]
theorem addB_bd_le {bs : List (List Nat)} (h : bs ≠ []) (x : Nat) {t : Nat} (ht : t < bs.length) : (bd bs t).length ≤ (bd (q_addB bs x) t).length := by
  rw [addB_bd h x ht]; split <;> simp
theorem cb_append {S BE : Nat → Int32} {BC T : Int32} {bs : List (List Nat)} (h : CB S BE BC T bs) (hne : bs ≠ []) (hl : bs.flatten.length < 2550) {x : Nat} (hx : x < 2147483648) (O : Bool) :
    ∃ S' BE' BC', D_Book_append 2550 (nI x) S BE BC O T S' BE' BC' O ∧ CB S' BE' BC' T (q_addB bs x) ∧ BC' = nI (bs.flatten.length + 1) := by
  obtain ⟨rfl, h2, h3, h4, h5⟩ := h
  have hpos : 0 < bs.length := List.length_pos_iff.mpr hne
  refine ⟨upd S bs.length (nI (bs.flatten.length + 1)), _, _, ⟨_, _, _, row_app h3 hl x O, ?_, by rw [nI_clamp (by omega)], rfl, rfl, rfl⟩, ⟨by rw [addB_len hne], by rw [addB_len hne]; exact h2, by rw [addB_flat hne]; exact rw_app h3 hl x, fun t ht h0 => ?_, fun i => ?_⟩, rfl⟩
  · exact vp_in_nI (by omega) (by omega)
  · rw [addB_len hne] at ht h0
    by_cases h6 : t = bs.length
    · subst h6
      rw [upd_eq]
      have := off_all (q_addB bs x)
      rw [addB_len hne, addB_flat hne] at this
      rw [this]; simp
    · rw [upd_ne (by omega), addB_off hne x (by omega)]
      exact h4 t ht h0
  · rw [addB_flat hne, List.getD_eq_getElem?_getD]
    rcases Nat.lt_trichotomy i bs.flatten.length with h6 | h6 | h6
    · rw [List.getElem?_append_left h6, ← List.getD_eq_getElem?_getD]; exact h5 i
    · subst h6; simpa using hx
    · rw [List.getElem?_eq_none (by simp only [List.length_append, List.length_cons, List.length_nil]; omega)]; simp
theorem co_blame {k l ft fl : Nat} (hk : 0 < k) (hk2 : k < 100) (hft : ft < 100) : D_Compiler_blame (nI k) (nI l) (nI ft) (ftI ft fl) (nI (if ft = 0 then k else ft)) (ftI (if ft = 0 then k else ft) (if ft = 0 then l else fl)) := by
  by_cases h : ft = 0
  · subst h
    simp (disch := omega) only [D_Compiler_blame, if_true, q_lit, le_T, le_F, lt_T, lt_F, eq_T, eq_F, m1_lt, m1_le, lt_m1, le_m1, eq_m1, m1_eq, nI_add, nI_sub, nI_dec, nI_mul, nI_or, nI_and, nI_div, nI_mod, and_255, and_31, and_1, and_63, nI_shl, nI_shr, bI_F, bI_1, vp_T, cl_T, true_implies, false_implies, not_true_eq_false, not_false_eq_true, true_and, and_true, false_and, and_false, Bool.false_eq_true, Bool.true_eq_false, reduceCtorEq, implies_true]
    simp only [ftI, show ¬ k = 0 by omega, if_false]
  · simp (disch := omega) only [D_Compiler_blame, h, if_false, q_lit, le_T, le_F, lt_T, lt_F, eq_T, eq_F, m1_lt, m1_le, lt_m1, le_m1, eq_m1, m1_eq, nI_add, nI_sub, nI_dec, nI_mul, nI_or, nI_and, nI_div, nI_mod, and_255, and_31, and_1, and_63, nI_shl, nI_shr, bI_F, bI_1, vp_T, cl_T, true_implies, false_implies, not_true_eq_false, not_false_eq_true, true_and, and_true, false_and, and_false, Bool.false_eq_true, Bool.true_eq_false, reduceCtorEq, implies_true]
def blm (k l : Nat) (a : q_Cs) : q_Cs := ((a.1, a.2.1, a.2.2.1, a.2.2.2.1, a.2.2.2.2.1, if a.2.2.2.2.2.1 = 0 then k else a.2.2.2.2.2.1, if a.2.2.2.2.2.1 = 0 then l else a.2.2.2.2.2.2.1, a.2.2.2.2.2.2.2.1, a.2.2.2.2.2.2.2.2.1, a.2.2.2.2.2.2.2.2.2.1, a.2.2.2.2.2.2.2.2.2.2) : q_Cs)
theorem ci_blame {L : List Nat} {c : q_CC} {a : q_Cs} (h : q_CI L c a) {k l : Nat} (hk : 0 < k) (hk2 : k < 100) : ∃ F' E', D_Compiler_blame (nI k) (nI l) c.2.2.2.2.2.1 c.2.2.2.2.2.2.1 F' E' ∧ q_CI L ((c.1, c.2.1, c.2.2.1, c.2.2.2.1, c.2.2.2.2.1, F', E', c.2.2.2.2.2.2.2.1, c.2.2.2.2.2.2.2.2.1, c.2.2.2.2.2.2.2.2.2.1, c.2.2.2.2.2.2.2.2.2.2.1, c.2.2.2.2.2.2.2.2.2.2.2.1, c.2.2.2.2.2.2.2.2.2.2.2.2.1, c.2.2.2.2.2.2.2.2.2.2.2.2.2.1, c.2.2.2.2.2.2.2.2.2.2.2.2.2.2.1, c.2.2.2.2.2.2.2.2.2.2.2.2.2.2.2.1, c.2.2.2.2.2.2.2.2.2.2.2.2.2.2.2.2.1, c.2.2.2.2.2.2.2.2.2.2.2.2.2.2.2.2.2.1, c.2.2.2.2.2.2.2.2.2.2.2.2.2.2.2.2.2.2.1, c.2.2.2.2.2.2.2.2.2.2.2.2.2.2.2.2.2.2.2.1, c.2.2.2.2.2.2.2.2.2.2.2.2.2.2.2.2.2.2.2.2) : q_CC) (blm k l a) := by
  obtain ⟨h1, h2, h3, h4⟩ := h
  refine ⟨_, _, by rw [h1, h3]; exact co_blame (fl := a.2.2.2.2.2.2.1) hk hk2 h2, rfl, ?_, rfl, h4⟩
  show (if a.2.2.2.2.2.1 = 0 then k else a.2.2.2.2.2.1) < 100
  split <;> omega
/-- the links stay where they are as bodies grow -/
theorem q_CL.grow {L : List Nat} {c c' : q_CC} {a a' : q_Cs} (h : q_CL L c a) (hne : a.2.1 ≠ []) {x : Nat} (e1 : a'.2.1 = q_addB a.2.1 x) (e2 : a'.2.2.2.2.1 = a.2.2.2.2.1) (e3 : c'.2.2.2.2.1 = c.2.2.2.2.1) (e4 : c'.2.1 = c.2.1) (e5 : c'.2.2.1 = c.2.2.1) (e6 : c'.2.2.2.1 = c.2.2.2.1) : q_CL L c' a' := by
  obtain ⟨h1, h2, h3⟩ := h
  unfold q_CL
  rw [e1, e2, e3, e4, e5, e6]
  refine ⟨h1, h2, fun i hi => ?_⟩
  obtain ⟨b1, b2, b3, b4, b5⟩ := h3 i hi
  have := addB_bd_le hne x b4
  exact ⟨b1, b2, by rw [addB_off hne x b4]; exact b3, by rw [addB_len hne]; exact b4, by omega⟩
theorem ci_add {L : List Nat} {c : q_CC} {a : q_Cs} (h : q_CI L c a) (hne : a.2.1 ≠ []) (hl : a.2.1.flatten.length < 2550) {x : Nat} (hx : x < 2147483648) :
    ∃ S' BE' BC', D_Book_append 2550 (nI x) c.2.2.2.2.2.2.2.2.2.2.2.2.2.1 c.2.2.2.2.2.2.2.2.2.2.2.2.2.2.1 c.2.2.2.2.2.2.2.2.2.2.2.2.2.2.2.1 c.2.2.2.2.2.2.2.2.2.2.2.2.2.2.2.2.1 c.2.2.2.2.2.2.2.2.2.2.2.2.2.2.2.2.2.2.2.2 S' BE' BC' c.2.2.2.2.2.2.2.2.2.2.2.2.2.2.2.2.1 ∧ q_CI L ((c.1, c.2.1, c.2.2.1, c.2.2.2.1, c.2.2.2.2.1, c.2.2.2.2.2.1, c.2.2.2.2.2.2.1, c.2.2.2.2.2.2.2.1, c.2.2.2.2.2.2.2.2.1, c.2.2.2.2.2.2.2.2.2.1, c.2.2.2.2.2.2.2.2.2.2.1, c.2.2.2.2.2.2.2.2.2.2.2.1, c.2.2.2.2.2.2.2.2.2.2.2.2.1, S', BE', BC', c.2.2.2.2.2.2.2.2.2.2.2.2.2.2.2.2.1, c.2.2.2.2.2.2.2.2.2.2.2.2.2.2.2.2.2.1, c.2.2.2.2.2.2.2.2.2.2.2.2.2.2.2.2.2.2.1, c.2.2.2.2.2.2.2.2.2.2.2.2.2.2.2.2.2.2.2.1, c.2.2.2.2.2.2.2.2.2.2.2.2.2.2.2.2.2.2.2.2) : q_CC) ((a.1, q_addB a.2.1 x, a.2.2.1, a.2.2.2.1, a.2.2.2.2.1, a.2.2.2.2.2.1, a.2.2.2.2.2.2.1, a.2.2.2.2.2.2.2.1, a.2.2.2.2.2.2.2.2.1, a.2.2.2.2.2.2.2.2.2.1, a.2.2.2.2.2.2.2.2.2.2) : q_Cs) ∧ BC' = nI (a.2.1.flatten.length + 1) := by
  obtain ⟨h1, h2, h3, h4, h5, h6, h7, h8, h9, h10⟩ := h
  obtain ⟨S', BE', BC', b1, b2, b3⟩ := cb_append h8 hne hl hx c.2.2.2.2.2.2.2.2.2.2.2.2.2.2.2.2.1
  refine ⟨S', BE', BC', b1, ⟨h1, h2, h3, h4, h5, h6, h7, b2, ?_, h10.grow hne rfl rfl rfl rfl rfl rfl⟩, b3⟩
  obtain ⟨n1, n2, n3, n4, n5, n6⟩ := h9
  have e := addB_len hne x
  exact ⟨by rw [n1]; exact e.symm, by rw [n2]; exact e.symm, fun t ht => n3 t (by rw [← e]; exact ht), n4, n5, fun _ => addB_ne _ _⟩
def clP (a : q_Cs) : q_Cs := if a.2.2.2.2.2.2.2.1 = true then (((if a.2.2.2.2.2.2.2.2.1 = true then blm 7 a.2.2.2.2.2.2.2.2.2.2 a else a).1, q_addB a.2.1 10, (if a.2.2.2.2.2.2.2.2.1 = true then blm 7 a.2.2.2.2.2.2.2.2.2.2 a else a).2.2.1, (if a.2.2.2.2.2.2.2.2.1 = true then blm 7 a.2.2.2.2.2.2.2.2.2.2 a else a).2.2.2.1, (if a.2.2.2.2.2.2.2.2.1 = true then blm 7 a.2.2.2.2.2.2.2.2.2.2 a else a).2.2.2.2.1, (if a.2.2.2.2.2.2.2.2.1 = true then blm 7 a.2.2.2.2.2.2.2.2.2.2 a else a).2.2.2.2.2.1, (if a.2.2.2.2.2.2.2.2.1 = true then blm 7 a.2.2.2.2.2.2.2.2.2.2 a else a).2.2.2.2.2.2.1, false, false, (if a.2.2.2.2.2.2.2.2.1 = true then blm 7 a.2.2.2.2.2.2.2.2.2.2 a else a).2.2.2.2.2.2.2.2.2.1, (if a.2.2.2.2.2.2.2.2.1 = true then blm 7 a.2.2.2.2.2.2.2.2.2.2 a else a).2.2.2.2.2.2.2.2.2.2) : q_Cs) else a
theorem ci_close {L : List Nat} {c : q_CC} {a : q_Cs} (h : q_CI L c a) (hl : a.2.1.flatten.length < 2550) :
    ∃ F' E' I' M' S' BE' BC', D_Compiler_closeParagraph 2550 c.2.2.2.2.2.1 c.2.2.2.2.2.2.1 c.2.2.2.2.2.2.2.2.1 c.2.2.2.2.2.2.2.2.2.1 c.2.2.2.2.2.2.2.2.2.2.2.1 c.2.2.2.2.2.2.2.2.2.2.2.2.2.1 c.2.2.2.2.2.2.2.2.2.2.2.2.2.2.1 c.2.2.2.2.2.2.2.2.2.2.2.2.2.2.2.1 c.2.2.2.2.2.2.2.2.2.2.2.2.2.2.2.2.1 c.2.2.2.2.2.2.2.2.2.2.2.2.2.2.2.2.2.2.2.2 F' E' I' M' S' BE' BC' c.2.2.2.2.2.2.2.2.2.2.2.2.2.2.2.2.1 ∧ q_CI L ((c.1, c.2.1, c.2.2.1, c.2.2.2.1, c.2.2.2.2.1, F', E', c.2.2.2.2.2.2.2.1, c.2.2.2.2.2.2.2.2.1, I', c.2.2.2.2.2.2.2.2.2.2.1, M', c.2.2.2.2.2.2.2.2.2.2.2.2.1, S', BE', BC', c.2.2.2.2.2.2.2.2.2.2.2.2.2.2.2.2.1, c.2.2.2.2.2.2.2.2.2.2.2.2.2.2.2.2.2.1, c.2.2.2.2.2.2.2.2.2.2.2.2.2.2.2.2.2.2.1, c.2.2.2.2.2.2.2.2.2.2.2.2.2.2.2.2.2.2.2.1, c.2.2.2.2.2.2.2.2.2.2.2.2.2.2.2.2.2.2.2.2) : q_CC) (clP a) := by
  have hI := h.2.2.2.2.1
  have hM := h.2.2.2.2.2.2.1
  have hX := h.2.2.2.1
  have hN := h.2.2.2.2.2.2.2.2.1
  by_cases h1 : a.2.2.2.2.2.2.2.1 = true
  · have hne := hN.2.2.2.2.2 h1
    by_cases h2 : a.2.2.2.2.2.2.2.2.1 = true
    · obtain ⟨F', E', b1, b2⟩ := ci_blame h (k := 7) (l := a.2.2.2.2.2.2.2.2.2.2) (by omega) (by omega)
      obtain ⟨S', BE', BC', d1, d2, _⟩ := ci_add b2 hne hl (x := 10) (by omega)
      refine ⟨F', E', false, false, S', BE', BC', ⟨1, ?_⟩, ?_⟩
      · rw [hI, hM, h1, h2]
        simp (disch := omega) only [T_Compiler_closeParagraph, S_Compiler_closeParagraph, B_Compiler_closeParagraph_25, q_lit, le_T, le_F, lt_T, lt_F, eq_T, eq_F, m1_lt, m1_le, lt_m1, le_m1, eq_m1, m1_eq, nI_add, nI_sub, nI_dec, nI_mul, nI_or, nI_and, nI_div, nI_mod, and_255, and_31, and_1, and_63, nI_shl, nI_shr, bI_F, bI_1, vp_T, cl_T, true_implies, false_implies, not_true_eq_false, not_false_eq_true, true_and, and_true, false_and, and_false, Bool.false_eq_true, Bool.true_eq_false, reduceCtorEq, implies_true, q_lc_eq, q_lc_ge, q_lc_gt, q_lc_le, lN_or, lN_and, lN_shl, lN_shr, nI_L, lN_I, l_0]
        refine ⟨F', E', ?_, S', BE', BC', c.2.2.2.2.2.2.2.2.2.2.2.2.2.2.2.2.1, d1, rfl, rfl, rfl, rfl, rfl, rfl⟩
        rw [hX]; exact b1
      · simp only [clP, h1, h2, if_true]
        obtain ⟨z1, z2, z3, z4, z5, z6, z7, z8, z9, z10⟩ := d2
        exact ⟨z1, z2, z3, z4, rfl, z6, rfl, z8, ⟨z9.1, z9.2.1, z9.2.2.1, z9.2.2.2.1, z9.2.2.2.2.1, fun h => by cases h⟩, z10⟩
    · obtain ⟨S', BE', BC', d1, d2, _⟩ := ci_add h hne hl (x := 10) (by omega)
      refine ⟨c.2.2.2.2.2.1, c.2.2.2.2.2.2.1, false, false, S', BE', BC', ⟨1, ?_⟩, ?_⟩
      · rw [hI, hM, h1, Bool.eq_false_iff.mpr h2]
        simp (disch := omega) only [T_Compiler_closeParagraph, S_Compiler_closeParagraph, B_Compiler_closeParagraph_25, q_lit, le_T, le_F, lt_T, lt_F, eq_T, eq_F, m1_lt, m1_le, lt_m1, le_m1, eq_m1, m1_eq, nI_add, nI_sub, nI_dec, nI_mul, nI_or, nI_and, nI_div, nI_mod, and_255, and_31, and_1, and_63, nI_shl, nI_shr, bI_F, bI_1, vp_T, cl_T, true_implies, false_implies, not_true_eq_false, not_false_eq_true, true_and, and_true, false_and, and_false, Bool.false_eq_true, Bool.true_eq_false, reduceCtorEq, implies_true, q_lc_eq, q_lc_ge, q_lc_gt, q_lc_le, lN_or, lN_and, lN_shl, lN_shr, nI_L, lN_I, l_0]
        exact ⟨S', BE', BC', c.2.2.2.2.2.2.2.2.2.2.2.2.2.2.2.2.1, d1, rfl, rfl, rfl, rfl⟩
      · simp only [clP, h1, h2, if_true, if_false]
        obtain ⟨z1, z2, z3, z4, z5, z6, z7, z8, z9, z10⟩ := d2
        exact ⟨z1, z2, z3, z4, rfl, z6, rfl, z8, ⟨z9.1, z9.2.1, z9.2.2.1, z9.2.2.2.1, z9.2.2.2.2.1, fun h => by cases h⟩, z10⟩
  · refine ⟨c.2.2.2.2.2.1, c.2.2.2.2.2.2.1, c.2.2.2.2.2.2.2.2.2.1, c.2.2.2.2.2.2.2.2.2.2.2.1, c.2.2.2.2.2.2.2.2.2.2.2.2.2.1, c.2.2.2.2.2.2.2.2.2.2.2.2.2.2.1, c.2.2.2.2.2.2.2.2.2.2.2.2.2.2.2.1, ⟨0, ?_⟩, ?_⟩
    · rw [hI, Bool.eq_false_iff.mpr h1]
      simp (disch := omega) only [q_lit, le_T, le_F, lt_T, lt_F, eq_T, eq_F, m1_lt, m1_le, lt_m1, le_m1, eq_m1, m1_eq, nI_add, nI_sub, nI_dec, nI_mul, nI_or, nI_and, nI_div, nI_mod, and_255, and_31, and_1, and_63, nI_shl, nI_shr, bI_F, bI_1, vp_T, cl_T, true_implies, false_implies, not_true_eq_false, not_false_eq_true, true_and, and_true, false_and, and_false, Bool.false_eq_true, Bool.true_eq_false, reduceCtorEq, implies_true]
    · simp only [clP, h1, if_false]
      exact h
def dueB (a : q_Cs) : q_Cs := ((a.1, if a.2.2.2.2.2.2.2.2.2.1 = true then q_addB a.2.1 32 else a.2.1, a.2.2.1, a.2.2.2.1, a.2.2.2.2.1, a.2.2.2.2.2.1, a.2.2.2.2.2.2.1, true, a.2.2.2.2.2.2.2.2.1, false, a.2.2.2.2.2.2.2.2.2.2) : q_Cs)
theorem ci_due {L : List Nat} {c : q_CC} {a : q_Cs} (h : q_CI L c a) (hne : a.2.1 ≠ []) (hl : a.2.1.flatten.length < 2550) :
    ∃ S' BE' BC', D_Compiler_appendDueBlank 2550 c.2.2.2.2.2.2.2.2.2.1 c.2.2.2.2.2.2.2.2.2.2.1 c.2.2.2.2.2.2.2.2.2.2.2.2.2.1 c.2.2.2.2.2.2.2.2.2.2.2.2.2.2.1 c.2.2.2.2.2.2.2.2.2.2.2.2.2.2.2.1 c.2.2.2.2.2.2.2.2.2.2.2.2.2.2.2.2.1 c.2.2.2.2.2.2.2.2.2.2.2.2.2.2.2.2.2.2.2.2 true false S' BE' BC' c.2.2.2.2.2.2.2.2.2.2.2.2.2.2.2.2.1 ∧ q_CI L ((c.1, c.2.1, c.2.2.1, c.2.2.2.1, c.2.2.2.2.1, c.2.2.2.2.2.1, c.2.2.2.2.2.2.1, c.2.2.2.2.2.2.2.1, c.2.2.2.2.2.2.2.2.1, true, false, c.2.2.2.2.2.2.2.2.2.2.2.1, c.2.2.2.2.2.2.2.2.2.2.2.2.1, S', BE', BC', c.2.2.2.2.2.2.2.2.2.2.2.2.2.2.2.2.1, c.2.2.2.2.2.2.2.2.2.2.2.2.2.2.2.2.2.1, c.2.2.2.2.2.2.2.2.2.2.2.2.2.2.2.2.2.2.1, c.2.2.2.2.2.2.2.2.2.2.2.2.2.2.2.2.2.2.2.1, c.2.2.2.2.2.2.2.2.2.2.2.2.2.2.2.2.2.2.2.2) : q_CC) (dueB a) := by
  have hD := h.2.2.2.2.2.1
  by_cases h1 : a.2.2.2.2.2.2.2.2.2.1 = true
  · obtain ⟨S', BE', BC', d1, d2, _⟩ := ci_add h hne hl (x := 32) (by omega)
    refine ⟨S', BE', BC', ⟨1, ?_⟩, ?_⟩
    · rw [hD, h1]
      simp (disch := omega) only [T_Compiler_appendDueBlank, S_Compiler_appendDueBlank, B_Compiler_appendDueBlank_16, q_lit, le_T, le_F, lt_T, lt_F, eq_T, eq_F, m1_lt, m1_le, lt_m1, le_m1, eq_m1, m1_eq, nI_add, nI_sub, nI_dec, nI_mul, nI_or, nI_and, nI_div, nI_mod, and_255, and_31, and_1, and_63, nI_shl, nI_shr, bI_F, bI_1, vp_T, cl_T, true_implies, false_implies, not_true_eq_false, not_false_eq_true, true_and, and_true, false_and, and_false, Bool.false_eq_true, Bool.true_eq_false, reduceCtorEq, implies_true, q_lc_eq, q_lc_ge, q_lc_gt, q_lc_le, lN_or, lN_and, lN_shl, lN_shr, nI_L, lN_I, l_0]
      exact ⟨S', BE', BC', c.2.2.2.2.2.2.2.2.2.2.2.2.2.2.2.2.1, d1, rfl, rfl, rfl, rfl⟩
    · simp only [dueB, h1, if_true]
      obtain ⟨z1, z2, z3, z4, z5, z6, z7, z8, z9, z10⟩ := d2
      exact ⟨z1, z2, z3, z4, rfl, rfl, z7, z8, ⟨z9.1, z9.2.1, z9.2.2.1, z9.2.2.2.1, z9.2.2.2.2.1, fun _ => addB_ne _ _⟩, z10⟩
  · refine ⟨c.2.2.2.2.2.2.2.2.2.2.2.2.2.1, c.2.2.2.2.2.2.2.2.2.2.2.2.2.2.1, c.2.2.2.2.2.2.2.2.2.2.2.2.2.2.2.1, ⟨1, ?_⟩, ?_⟩
    · rw [hD, Bool.eq_false_iff.mpr h1]
      simp (disch := omega) only [T_Compiler_appendDueBlank, S_Compiler_appendDueBlank, B_Compiler_appendDueBlank_16, q_lit, le_T, le_F, lt_T, lt_F, eq_T, eq_F, m1_lt, m1_le, lt_m1, le_m1, eq_m1, m1_eq, nI_add, nI_sub, nI_dec, nI_mul, nI_or, nI_and, nI_div, nI_mod, and_255, and_31, and_1, and_63, nI_shl, nI_shr, bI_F, bI_1, vp_T, cl_T, true_implies, false_implies, not_true_eq_false, not_false_eq_true, true_and, and_true, false_and, and_false, Bool.false_eq_true, Bool.true_eq_false, reduceCtorEq, implies_true, q_lc_eq, q_lc_ge, q_lc_gt, q_lc_le, lN_or, lN_and, lN_shl, lN_shr, nI_L, lN_I, l_0]
    · simp only [dueB, h1, if_false]
      obtain ⟨z1, z2, z3, z4, z5, z6, z7, z8, z9, z10⟩ := h
      exact ⟨z1, z2, z3, z4, rfl, rfl, z7, z8, ⟨z9.1, z9.2.1, z9.2.2.1, z9.2.2.2.1, z9.2.2.2.2.1, fun _ => hne⟩, z10⟩
def q_sgn (x ln : Nat) (a : q_Cs) : q_Cs := if x = 93 then blm 6 ln a else if x = 42 then ((a.1, q_addB a.2.1 1, a.2.2.1, a.2.2.2.1, a.2.2.2.2.1, a.2.2.2.2.2.1, a.2.2.2.2.2.2.1, a.2.2.2.2.2.2.2.1, !a.2.2.2.2.2.2.2.2.1, a.2.2.2.2.2.2.2.2.2.1, a.2.2.2.2.2.2.2.2.2.2) : q_Cs) else ((a.1, q_addB a.2.1 x, a.2.2.1, a.2.2.2.1, a.2.2.2.2.1, a.2.2.2.2.2.1, a.2.2.2.2.2.2.1, a.2.2.2.2.2.2.2.1, a.2.2.2.2.2.2.2.2.1, a.2.2.2.2.2.2.2.2.2.1, a.2.2.2.2.2.2.2.2.2.2) : q_Cs)
theorem ci_sign {L : List Nat} {c : q_CC} {a : q_Cs} (h : q_CI L c a) (hne : a.2.1 ≠ []) (hl : a.2.1.flatten.length < 2550) {x ln : Nat} (hx : x < 2147483648) (hW : c.2.2.2.2.2.2.2.1 = nI ln) :
    ∃ F' E' M' S' BE' BC', D_Compiler_readSign 2550 (nI x) c.2.2.2.2.2.1 c.2.2.2.2.2.2.1 c.2.2.2.2.2.2.2.1 c.2.2.2.2.2.2.2.2.2.2.2.1 c.2.2.2.2.2.2.2.2.2.2.2.2.2.1 c.2.2.2.2.2.2.2.2.2.2.2.2.2.2.1 c.2.2.2.2.2.2.2.2.2.2.2.2.2.2.2.1 c.2.2.2.2.2.2.2.2.2.2.2.2.2.2.2.2.1 c.2.2.2.2.2.2.2.2.2.2.2.2.2.2.2.2.2.2.2.2 F' E' M' S' BE' BC' c.2.2.2.2.2.2.2.2.2.2.2.2.2.2.2.2.1 ∧ q_CI L ((c.1, c.2.1, c.2.2.1, c.2.2.2.1, c.2.2.2.2.1, F', E', c.2.2.2.2.2.2.2.1, c.2.2.2.2.2.2.2.2.1, c.2.2.2.2.2.2.2.2.2.1, c.2.2.2.2.2.2.2.2.2.2.1, M', c.2.2.2.2.2.2.2.2.2.2.2.2.1, S', BE', BC', c.2.2.2.2.2.2.2.2.2.2.2.2.2.2.2.2.1, c.2.2.2.2.2.2.2.2.2.2.2.2.2.2.2.2.2.1, c.2.2.2.2.2.2.2.2.2.2.2.2.2.2.2.2.2.2.1, c.2.2.2.2.2.2.2.2.2.2.2.2.2.2.2.2.2.2.2.1, c.2.2.2.2.2.2.2.2.2.2.2.2.2.2.2.2.2.2.2.2) : q_CC) (q_sgn x ln a) := by
  have hM := h.2.2.2.2.2.2.1
  by_cases h93 : x = 93
  · obtain ⟨F', E', b1, b2⟩ := ci_blame h (k := 6) (l := ln) (by omega) (by omega)
    refine ⟨F', E', c.2.2.2.2.2.2.2.2.2.2.2.1, c.2.2.2.2.2.2.2.2.2.2.2.2.2.1, c.2.2.2.2.2.2.2.2.2.2.2.2.2.2.1, c.2.2.2.2.2.2.2.2.2.2.2.2.2.2.2.1, ⟨0, ?_⟩, by simp only [q_sgn, h93, if_true]; exact b2⟩
    rw [hW, h93]
    simp (disch := omega) only [q_lit, le_T, le_F, lt_T, lt_F, eq_T, eq_F, m1_lt, m1_le, lt_m1, le_m1, eq_m1, m1_eq, nI_add, nI_sub, nI_dec, nI_mul, nI_or, nI_and, nI_div, nI_mod, and_255, and_31, and_1, and_63, nI_shl, nI_shr, bI_F, bI_1, vp_T, cl_T, true_implies, false_implies, not_true_eq_false, not_false_eq_true, true_and, and_true, false_and, and_false, Bool.false_eq_true, Bool.true_eq_false, reduceCtorEq, implies_true]
    exact ⟨F', E', b1, rfl, rfl⟩
  · by_cases h42 : x = 42
    · obtain ⟨S', BE', BC', d1, d2, _⟩ := ci_add h hne hl (x := 1) (by omega)
      refine ⟨c.2.2.2.2.2.1, c.2.2.2.2.2.2.1, !a.2.2.2.2.2.2.2.2.1, S', BE', BC', ⟨1, ?_⟩, ?_⟩
      · rw [hM, h42]
        cases a.2.2.2.2.2.2.2.2.1 with
        | true =>
          simp (disch := omega) only [T_Compiler_readSign, S_Compiler_readSign, B_Compiler_readSign_41, Bool.not_true, q_lit, le_T, le_F, lt_T, lt_F, eq_T, eq_F, m1_lt, m1_le, lt_m1, le_m1, eq_m1, m1_eq, nI_add, nI_sub, nI_dec, nI_mul, nI_or, nI_and, nI_div, nI_mod, and_255, and_31, and_1, and_63, nI_shl, nI_shr, bI_F, bI_1, vp_T, cl_T, true_implies, false_implies, not_true_eq_false, not_false_eq_true, true_and, and_true, false_and, and_false, Bool.false_eq_true, Bool.true_eq_false, reduceCtorEq, implies_true, q_lc_eq, q_lc_ge, q_lc_gt, q_lc_le, lN_or, lN_and, lN_shl, lN_shr, nI_L, lN_I, l_0]
          exact ⟨S', BE', BC', c.2.2.2.2.2.2.2.2.2.2.2.2.2.2.2.2.1, d1, rfl, rfl, rfl, rfl⟩
        | false =>
          simp (disch := omega) only [T_Compiler_readSign, S_Compiler_readSign, B_Compiler_readSign_41, Bool.not_false, q_lit, le_T, le_F, lt_T, lt_F, eq_T, eq_F, m1_lt, m1_le, lt_m1, le_m1, eq_m1, m1_eq, nI_add, nI_sub, nI_dec, nI_mul, nI_or, nI_and, nI_div, nI_mod, and_255, and_31, and_1, and_63, nI_shl, nI_shr, bI_F, bI_1, vp_T, cl_T, true_implies, false_implies, not_true_eq_false, not_false_eq_true, true_and, and_true, false_and, and_false, Bool.false_eq_true, Bool.true_eq_false, reduceCtorEq, implies_true, q_lc_eq, q_lc_ge, q_lc_gt, q_lc_le, lN_or, lN_and, lN_shl, lN_shr, nI_L, lN_I, l_0]
          exact ⟨S', BE', BC', c.2.2.2.2.2.2.2.2.2.2.2.2.2.2.2.2.1, d1, rfl, rfl, rfl, rfl⟩
      · simp only [q_sgn, h42, show ¬ (42 = 93) by omega, if_true, if_false]
        obtain ⟨z1, z2, z3, z4, z5, z6, z7, z8, z9, z10⟩ := d2
        exact ⟨z1, z2, z3, z4, z5, z6, rfl, z8, z9, z10⟩
    · obtain ⟨S', BE', BC', d1, d2, _⟩ := ci_add h hne hl hx
      refine ⟨c.2.2.2.2.2.1, c.2.2.2.2.2.2.1, c.2.2.2.2.2.2.2.2.2.2.2.1, S', BE', BC', ⟨0, ?_⟩, by simp only [q_sgn, h93, h42, if_false]; exact d2⟩
      simp (disch := omega) only [q_lit, le_T, le_F, lt_T, lt_F, eq_T, eq_F, m1_lt, m1_le, lt_m1, le_m1, eq_m1, m1_eq, nI_add, nI_sub, nI_dec, nI_mul, nI_or, nI_and, nI_div, nI_mod, and_255, and_31, and_1, and_63, nI_shl, nI_shr, bI_F, bI_1, vp_T, cl_T, true_implies, false_implies, not_true_eq_false, not_false_eq_true, true_and, and_true, false_and, and_false, Bool.false_eq_true, Bool.true_eq_false, reduceCtorEq, implies_true]
      exact ⟨S', BE', BC', c.2.2.2.2.2.2.2.2.2.2.2.2.2.2.2.2.1, d1, rfl, rfl, rfl, rfl⟩
