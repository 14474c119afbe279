/-! Pure: search, step by step on both sides. -/
theorem nar0 : vp_nar .boolean (nI 0) = bI false := by decide +kernel
theorem nar1 : vp_nar .boolean (nI 1) = bI true := by decide +kernel
def q_QR (F J N : Nat → Int32) : List (Int32 × Int32 × Bool) → Prop
  | [] => True
  | (f, j, n) :: r => F r.length = f ∧ J r.length = j ∧ N r.length = bI n ∧ q_QR F J N r
theorem q_QR.ext {F J N F' J' N' : Nat → Int32} {ls : List (Int32 × Int32 × Bool)} (h : q_QR F J N ls) (hF : ∀ i, i < ls.length → F' i = F i) (hJ : ∀ i, i < ls.length → J' i = J i) (hN : ∀ i, i < ls.length → N' i = N i) : q_QR F' J' N' ls := by
  induction ls with
  | nil => trivial
  | cons e r ih =>
    simp only [List.length_cons] at hF hJ hN
    obtain ⟨a, b, c, d⟩ := h
    exact ⟨by rw [hF _ (by omega)]; exact a, by rw [hJ _ (by omega)]; exact b, by rw [hN _ (by omega)]; exact c, ih d (fun i hi => hF i (by omega)) (fun i hi => hJ i (by omega)) (fun i hi => hN i (by omega))⟩
theorem upd_ne {A : Nat → Int32} {k i : Nat} (h : i < k) (x : Int32) : upd A k x i = A i := by simp only [upd]; rw [if_neg (by omega)]
theorem upd_eq (A : Nat → Int32) (k : Nat) (x : Int32) : upd A k x k = x := by simp [upd]
theorem qu_close {F J N : Nat → Int32} {f j : Int32} {n : Bool} {r : List (Int32 × Int32 × Bool)} (h : q_QR F J N ((f, j, n) :: r)) (hr : r.length ≤ 40) (c E : Int32) (D : Bool) :
    ∃ J' N', D_Query_closeCondition c J N E (nI r.length) D J' N' false ∧ q_QR F J' N' ((f, j &&& (if n = true then cmp1 E c else c), false) :: r) := by
  obtain ⟨h1, h2, h3, h4⟩ := h
  refine ⟨upd J r.length (j &&& (if n = true then cmp1 E c else c)), upd N r.length (bI false), ⟨1, ?_⟩, h1, upd_eq _ _ _, upd_eq _ _ _, h4.ext (fun _ _ => rfl) (fun i hi => upd_ne hi _) (fun i hi => upd_ne hi _)⟩
  cases n with
  | false => simp (disch := omega) only [T_Query_closeCondition, S_Query_closeCondition, B_Query_closeCondition_36, h2, h3, nar0, if_false, q_lit, le_T, le_F, lt_T, lt_F, eq_T, eq_F, m1_lt, m1_le, lt_m1, le_m1, eq_m1, m1_eq, nI_add, nI_sub, nI_dec, nI_mul, nI_or, nI_and, nI_div, nI_mod, and_255, and_31, and_1, and_63, nI_shl, nI_shr, bI_F, bI_1, vp_T, cl_T, true_implies, false_implies, not_true_eq_false, not_false_eq_true, true_and, and_true, false_and, and_false, Bool.false_eq_true, Bool.true_eq_false, reduceCtorEq, implies_true, q_lc_eq, q_lc_ge, q_lc_gt, q_lc_le, lN_or, lN_and, lN_shl, lN_shr, nI_L, lN_I, l_0]
  | true => simp (disch := omega) only [T_Query_closeCondition, S_Query_closeCondition, B_Query_closeCondition_36, h2, h3, nar0, if_true, q_lit, le_T, le_F, lt_T, lt_F, eq_T, eq_F, m1_lt, m1_le, lt_m1, le_m1, eq_m1, m1_eq, nI_add, nI_sub, nI_dec, nI_mul, nI_or, nI_and, nI_div, nI_mod, and_255, and_31, and_1, and_63, nI_shl, nI_shr, bI_F, bI_1, vp_T, cl_T, true_implies, false_implies, not_true_eq_false, not_false_eq_true, true_and, and_true, false_and, and_false, Bool.false_eq_true, Bool.true_eq_false, reduceCtorEq, implies_true, q_lc_eq, q_lc_ge, q_lc_gt, q_lc_le, lN_or, lN_and, lN_shl, lN_shr, nI_L, lN_I, l_0]
theorem qu_begin {F J N : Nat → Int32} {r : List (Int32 × Int32 × Bool)} (h : q_QR F J N r) (hr : r.length ≤ 40) (E : Int32) (D : Bool) :
    ∃ F' J' N', D_Query_beginLevel F J N E (nI r.length) D F' J' N' true ∧ q_QR F' J' N' ((nI 0, E, false) :: r) := by
  refine ⟨upd F r.length (nI 0), upd J r.length E, upd N r.length (bI false), ?_, upd_eq _ _ _, upd_eq _ _ _, upd_eq _ _ _, h.ext (fun i hi => upd_ne hi _) (fun i hi => upd_ne hi _) (fun i hi => upd_ne hi _)⟩
  simp (disch := omega) only [D_Query_beginLevel, nar0, q_lit, le_T, le_F, lt_T, lt_F, eq_T, eq_F, m1_lt, m1_le, lt_m1, le_m1, eq_m1, m1_eq, nI_add, nI_sub, nI_dec, nI_mul, nI_or, nI_and, nI_div, nI_mod, and_255, and_31, and_1, and_63, nI_shl, nI_shr, bI_F, bI_1, vp_T, cl_T, true_implies, false_implies, not_true_eq_false, not_false_eq_true, true_and, and_true, false_and, and_false, Bool.false_eq_true, Bool.true_eq_false, reduceCtorEq, implies_true]
theorem qu_not {F J N : Nat → Int32} {f j : Int32} {n : Bool} {r : List (Int32 × Int32 × Bool)} (h : q_QR F J N ((f, j, n) :: r)) (hr : r.length ≤ 40) (E : Int32) (D : Bool) :
    ∃ N', D_Query_opens (nI 33) F J N E (nI r.length) D true F J N' (nI r.length) D ∧ q_QR F J N' ((f, j, !n) :: r) := by
  obtain ⟨h1, h2, h3, h4⟩ := h
  refine ⟨upd N r.length (bI (!n)), ?_, h1, h2, upd_eq _ _ _, h4.ext (fun _ _ => rfl) (fun _ _ => rfl) (fun i hi => upd_ne hi _)⟩
  cases n with
  | false => simp (disch := omega) only [D_Query_opens, h3, nar1, Bool.not_false, q_lit, le_T, le_F, lt_T, lt_F, eq_T, eq_F, m1_lt, m1_le, lt_m1, le_m1, eq_m1, m1_eq, nI_add, nI_sub, nI_dec, nI_mul, nI_or, nI_and, nI_div, nI_mod, and_255, and_31, and_1, and_63, nI_shl, nI_shr, bI_F, bI_1, vp_T, cl_T, true_implies, false_implies, not_true_eq_false, not_false_eq_true, true_and, and_true, false_and, and_false, Bool.false_eq_true, Bool.true_eq_false, reduceCtorEq, implies_true]
  | true => simp (disch := omega) only [D_Query_opens, h3, nar0, Bool.not_true, q_lit, le_T, le_F, lt_T, lt_F, eq_T, eq_F, m1_lt, m1_le, lt_m1, le_m1, eq_m1, m1_eq, nI_add, nI_sub, nI_dec, nI_mul, nI_or, nI_and, nI_div, nI_mod, and_255, and_31, and_1, and_63, nI_shl, nI_shr, bI_F, bI_1, vp_T, cl_T, true_implies, false_implies, not_true_eq_false, not_false_eq_true, true_and, and_true, false_and, and_false, Bool.false_eq_true, Bool.true_eq_false, reduceCtorEq, implies_true]
theorem qu_open {F J N : Nat → Int32} {f j : Int32} {n : Bool} {r : List (Int32 × Int32 × Bool)} (h : q_QR F J N ((f, j, n) :: r)) (hr : r.length < 40) (E : Int32) (D : Bool) :
    ∃ F' J' N', D_Query_opens (nI 40) F J N E (nI r.length) D true F' J' N' (nI (r.length + 1)) true ∧ q_QR F' J' N' ((nI 0, E, false) :: (f, j, n) :: r) := by
  obtain ⟨F', J', N', h1, h2⟩ := qu_begin h (by simp; omega) E D
  refine ⟨F', J', N', ?_, h2⟩
  simp (disch := omega) only [D_Query_opens, q_lit, le_T, le_F, lt_T, lt_F, eq_T, eq_F, m1_lt, m1_le, lt_m1, le_m1, eq_m1, m1_eq, nI_add, nI_sub, nI_dec, nI_mul, nI_or, nI_and, nI_div, nI_mod, and_255, and_31, and_1, and_63, nI_shl, nI_shr, bI_F, bI_1, vp_T, cl_T, true_implies, false_implies, not_true_eq_false, not_false_eq_true, true_and, and_true, false_and, and_false, Bool.false_eq_true, Bool.true_eq_false, reduceCtorEq, implies_true]
  exact ⟨F', J', N', true, by simpa using h1, rfl, rfl, rfl, rfl⟩
theorem qu_noOpen {x : Nat} (hx : x < 2147483648) (h1 : ¬ x = 33) (h2 : ¬ x = 40) (F J N : Nat → Int32) (E L : Int32) (D : Bool) : D_Query_opens (nI x) F J N E L D false F J N L D := by
  simp (disch := omega) only [D_Query_opens, q_lit, le_T, le_F, lt_T, lt_F, eq_T, eq_F, m1_lt, m1_le, lt_m1, le_m1, eq_m1, m1_eq, nI_add, nI_sub, nI_dec, nI_mul, nI_or, nI_and, nI_div, nI_mod, and_255, and_31, and_1, and_63, nI_shl, nI_shr, bI_F, bI_1, vp_T, cl_T, true_implies, false_implies, not_true_eq_false, not_false_eq_true, true_and, and_true, false_and, and_false, Bool.false_eq_true, Bool.true_eq_false, reduceCtorEq, implies_true]
theorem qu_and (F J N : Nat → Int32) (E L : Int32) (D : Bool) : D_Query_goesOn (nI 38) F J N E L D true F J N L true := by
  simp (disch := omega) only [D_Query_goesOn, q_lit, le_T, le_F, lt_T, lt_F, eq_T, eq_F, m1_lt, m1_le, lt_m1, le_m1, eq_m1, m1_eq, nI_add, nI_sub, nI_dec, nI_mul, nI_or, nI_and, nI_div, nI_mod, and_255, and_31, and_1, and_63, nI_shl, nI_shr, bI_F, bI_1, vp_T, cl_T, true_implies, false_implies, not_true_eq_false, not_false_eq_true, true_and, and_true, false_and, and_false, Bool.false_eq_true, Bool.true_eq_false, reduceCtorEq, implies_true]
theorem qu_or {F J N : Nat → Int32} {f j : Int32} {n : Bool} {r : List (Int32 × Int32 × Bool)} (h : q_QR F J N ((f, j, n) :: r)) (hr : r.length ≤ 40) (E : Int32) (D : Bool) :
    ∃ F' J', D_Query_goesOn (nI 124) F J N E (nI r.length) D true F' J' N (nI r.length) true ∧ q_QR F' J' N ((f ||| j, E, n) :: r) := by
  obtain ⟨h1, h2, h3, h4⟩ := h
  refine ⟨upd F r.length (f ||| j), upd J r.length E, ?_, upd_eq _ _ _, upd_eq _ _ _, h3, h4.ext (fun i hi => upd_ne hi _) (fun i hi => upd_ne hi _) (fun _ _ => rfl)⟩
  simp (disch := omega) only [D_Query_goesOn, h1, h2, q_lit, le_T, le_F, lt_T, lt_F, eq_T, eq_F, m1_lt, m1_le, lt_m1, le_m1, eq_m1, m1_eq, nI_add, nI_sub, nI_dec, nI_mul, nI_or, nI_and, nI_div, nI_mod, and_255, and_31, and_1, and_63, nI_shl, nI_shr, bI_F, bI_1, vp_T, cl_T, true_implies, false_implies, not_true_eq_false, not_false_eq_true, true_and, and_true, false_and, and_false, Bool.false_eq_true, Bool.true_eq_false, reduceCtorEq, implies_true]
theorem qu_end {F J N : Nat → Int32} {f j f2 j2 : Int32} {n n2 : Bool} {r : List (Int32 × Int32 × Bool)} (h : q_QR F J N ((f, j, n) :: (f2, j2, n2) :: r)) (hr : r.length < 40) (E : Int32) (D : Bool) :
    ∃ J' N', D_Query_goesOn (nI 41) F J N E (nI (r.length + 1)) D true F J' N' (nI r.length) false ∧ q_QR F J' N' ((f2, j2 &&& (if n2 = true then cmp1 E (f ||| j) else (f ||| j)), false) :: r) := by
  obtain ⟨h1, h2, h3, h4⟩ := h
  simp only [List.length_cons] at h1 h2 h3
  obtain ⟨J', N', h5, h6⟩ := qu_close h4 (by omega) (f ||| j) E D
  refine ⟨J', N', ?_, h6⟩
  simp (disch := omega) only [D_Query_goesOn, h1, h2, Nat.add_sub_cancel, q_lit, le_T, le_F, lt_T, lt_F, eq_T, eq_F, m1_lt, m1_le, lt_m1, le_m1, eq_m1, m1_eq, nI_add, nI_sub, nI_dec, nI_mul, nI_or, nI_and, nI_div, nI_mod, and_255, and_31, and_1, and_63, nI_shl, nI_shr, bI_F, bI_1, vp_T, cl_T, true_implies, false_implies, not_true_eq_false, not_false_eq_true, true_and, and_true, false_and, and_false, Bool.false_eq_true, Bool.true_eq_false, reduceCtorEq, implies_true]
  exact ⟨J', N', false, h5, rfl, rfl, rfl⟩
theorem qu_noEnd (F J N : Nat → Int32) (E : Int32) (D : Bool) : D_Query_goesOn (nI 41) F J N E (nI 0) D false F J N (nI 0) D := by
  simp (disch := omega) only [D_Query_goesOn, q_lit, le_T, le_F, lt_T, lt_F, eq_T, eq_F, m1_lt, m1_le, lt_m1, le_m1, eq_m1, m1_eq, nI_add, nI_sub, nI_dec, nI_mul, nI_or, nI_and, nI_div, nI_mod, and_255, and_31, and_1, and_63, nI_shl, nI_shr, bI_F, bI_1, vp_T, cl_T, true_implies, false_implies, not_true_eq_false, not_false_eq_true, true_and, and_true, false_and, and_false, Bool.false_eq_true, Bool.true_eq_false, reduceCtorEq, implies_true]
theorem qu_noOn {x : Nat} (hx : x < 2147483648) (h1 : ¬ x = 38) (h2 : ¬ x = 124) (h3 : ¬ x = 41) (F J N : Nat → Int32) (E L : Int32) (D : Bool) : D_Query_goesOn (nI x) F J N E L D false F J N L D := by
  simp (disch := omega) only [D_Query_goesOn, q_lit, le_T, le_F, lt_T, lt_F, eq_T, eq_F, m1_lt, m1_le, lt_m1, le_m1, eq_m1, m1_eq, nI_add, nI_sub, nI_dec, nI_mul, nI_or, nI_and, nI_div, nI_mod, and_255, and_31, and_1, and_63, nI_shl, nI_shr, bI_F, bI_1, vp_T, cl_T, true_implies, false_implies, not_true_eq_false, not_false_eq_true, true_and, and_true, false_and, and_false, Bool.false_eq_true, Bool.true_eq_false, reduceCtorEq, implies_true]
/-- what a search reads on the side of the class -/
def CX (E0 : Nat → Int32) (C0 : Int32) (L : List Nat) (VW : Nat → Int64) (VT : Nat → Int32) (VC : Int32) (l : List (Nat × Nat)) : Prop := Rw 40 E0 C0 L ∧ (∀ i, L.getD i 0 < 2147483648) ∧ CW 1275 VW VT VC l ∧ Srt l ∧ Sml l
def CF (E0 : Nat → Int32) (C0 : Int32) (VW : Nat → Int64) (VT : Nat → Int32) (VC bT E res : Int32) (p : Nat) (F J N : Nat → Int32) (lv : Nat) (due : Bool) : Prop := ∃ F' J' N' E' L' D' m, T_Query_find 40 1275 E0 C0 VW VT VC bT res F' J' N' E' L' D' m 0 (nI 0) (nI p) (nI 0) F J N E (nI lv) due
theorem cf_word {E0 : Nat → Int32} {C0 : Int32} {L : List Nat} {VW : Nat → Int64} {VT : Nat → Int32} {VC : Int32} {l : List (Nat × Nat)} (hx : CX E0 C0 L VW VT VC l) {bT E : Int32} {p : Nat} (hp : p < L.length) (hlet : isLet (L.getD p 0) = true) {F J N : Nat → Int32} {f j : Int32} {n : Bool} {r : List (Int32 × Int32 × Bool)} (h : q_QR F J N ((f, j, n) :: r)) (hr : r.length ≤ 40) :
    ∃ J' N', q_QR F J' N' ((f, j &&& (if n = true then cmp1 E (nI (q_bitsOf (enc (letRun L p L.length)) l)) else nI (q_bitsOf (enc (letRun L p L.length)) l)), false) :: r) ∧ ∀ res, CF E0 C0 VW VT VC bT E res (letEnd L p L.length) F J' N' r.length false → CF E0 C0 VW VT VC bT E res p F J N r.length true := by
  obtain ⟨h1, hv, h2, h3, h4⟩ := hx
  obtain ⟨J', N', a1, a2⟩ := qu_close h hr (nI (q_bitsOf (enc (letRun L p L.length)) l)) E true
  refine ⟨J', N', a2, ?_⟩
  rintro res ⟨F9, J9, N9, E9, L9, D9, m, hm⟩
  have h0 := h1
  obtain ⟨rfl, hl, hn, he⟩ := h1
  have hle : letEnd L p L.length ≤ L.length := by
    have : (letRun L p L.length).length ≤ L.length - p := by
      unfold letRun
      exact Nat.le_trans (List.takeWhile_sublist _).length_le (by simp)
    unfold letEnd; omega
  have hrun : letRun L p (letEnd L p L.length) = letRun L p L.length := by
    unfold letEnd
    have : ∀ (d k : Nat), L.length - k = d → letRun L k (k + (letRun L k L.length).length) = letRun L k L.length := by
      intro d
      induction d with
      | zero =>
        intro k hk
        have : letRun L k L.length = [] := letRun_stop (Or.inl (by omega))
        rw [this]
        exact letRun_stop (Or.inl (by simp))
      | succ d ih =>
        intro k hk
        cases h2 : isLet (L.getD k 0) with
        | false =>
          have : letRun L k L.length = [] := letRun_stop (Or.inr h2)
          rw [this]
          exact letRun_stop (Or.inl (by simp))
        | true =>
          have e := letRun_step (L := L) (k := k) (f := L.length) (by omega) h2
          have := ih (k + 1) (by omega)
          rw [e, List.length_cons, letRun_step (by omega) h2]
          congr 1
          rw [← this]
          congr 1
          rw [this]; omega
    exact this _ p rfl
  refine ⟨F9, J9, N9, E9, L9, D9, m + 1, ?_⟩
  simp (disch := omega) only [T_Query_find, S_Query_find, B_Query_find_22, q_lit, le_T, le_F, lt_T, lt_F, eq_T, eq_F, m1_lt, m1_le, lt_m1, le_m1, eq_m1, m1_eq, nI_add, nI_sub, nI_dec, nI_mul, nI_or, nI_and, nI_div, nI_mod, and_255, and_31, and_1, and_63, nI_shl, nI_shr, bI_F, bI_1, vp_T, cl_T, true_implies, false_implies, not_true_eq_false, not_false_eq_true, true_and, and_true, false_and, and_false, Bool.false_eq_true, Bool.true_eq_false, reduceCtorEq, implies_true, q_lc_eq, q_lc_ge, q_lc_gt, q_lc_le, lN_or, lN_and, lN_shl, lN_shr, nI_L, lN_I, l_0]
  refine ⟨_, row_el h0 (by omega), ?_⟩
  refine ⟨_, let_isLetter (hv p), ?_⟩
  simp (disch := omega) only [hlet, q_lit, le_T, le_F, lt_T, lt_F, eq_T, eq_F, m1_lt, m1_le, lt_m1, le_m1, eq_m1, m1_eq, nI_add, nI_sub, nI_dec, nI_mul, nI_or, nI_and, nI_div, nI_mod, and_255, and_31, and_1, and_63, nI_shl, nI_shr, bI_F, bI_1, vp_T, cl_T, true_implies, false_implies, not_true_eq_false, not_false_eq_true, true_and, and_true, false_and, and_false, Bool.false_eq_true, Bool.true_eq_false, reduceCtorEq, implies_true]
  refine ⟨_, let_lettersEnd h0 hv (by omega) (by omega), _, let_word h0 hv (by omega) (by omega), _, wl_topicsOf h2 h3 h4 (enc_lt _), J', N', false, ?_, hm⟩
  rw [hrun]; exact a1
theorem cf_blank {E0 : Nat → Int32} {C0 : Int32} {L : List Nat} {VW : Nat → Int64} {VT : Nat → Int32} {VC : Int32} {l : List (Nat × Nat)} (hx : CX E0 C0 L VW VT VC l) {bT E : Int32} {p : Nat} (hp : p < L.length) (hb : L.getD p 0 = 32) {F J N : Nat → Int32} {lv : Nat} {due : Bool} {res : Int32}
    (hk : CF E0 C0 VW VT VC bT E res (p + 1) F J N lv due) : CF E0 C0 VW VT VC bT E res p F J N lv due := by
  obtain ⟨h1, hv, h2, h3, h4⟩ := hx
  obtain ⟨F9, J9, N9, E9, L9, D9, m, hm⟩ := hk
  have h0 := h1
  obtain ⟨rfl, hl, hn, he⟩ := h1
  refine ⟨F9, J9, N9, E9, L9, D9, m + 2, ?_⟩
  have hlet : isLet (L.getD p 0) = false := by rw [hb]; decide
  cases due with
  | false =>
    simp (disch := omega) only [T_Query_find, S_Query_find, B_Query_find_22, B_Query_find_91, q_lit, le_T, le_F, lt_T, lt_F, eq_T, eq_F, m1_lt, m1_le, lt_m1, le_m1, eq_m1, m1_eq, nI_add, nI_sub, nI_dec, nI_mul, nI_or, nI_and, nI_div, nI_mod, and_255, and_31, and_1, and_63, nI_shl, nI_shr, bI_F, bI_1, vp_T, cl_T, true_implies, false_implies, not_true_eq_false, not_false_eq_true, true_and, and_true, false_and, and_false, Bool.false_eq_true, Bool.true_eq_false, reduceCtorEq, implies_true, q_lc_eq, q_lc_ge, q_lc_gt, q_lc_le, lN_or, lN_and, lN_shl, lN_shr, nI_L, lN_I, l_0]
    refine ⟨_, row_el h0 (by omega), ?_⟩
    simp (disch := omega) only [hb, q_lit, le_T, le_F, lt_T, lt_F, eq_T, eq_F, m1_lt, m1_le, lt_m1, le_m1, eq_m1, m1_eq, nI_add, nI_sub, nI_dec, nI_mul, nI_or, nI_and, nI_div, nI_mod, and_255, and_31, and_1, and_63, nI_shl, nI_shr, bI_F, bI_1, vp_T, cl_T, true_implies, false_implies, not_true_eq_false, not_false_eq_true, true_and, and_true, false_and, and_false, Bool.false_eq_true, Bool.true_eq_false, reduceCtorEq, implies_true]
    exact hm
  | true =>
    simp (disch := omega) only [T_Query_find, S_Query_find, B_Query_find_22, B_Query_find_91, q_lit, le_T, le_F, lt_T, lt_F, eq_T, eq_F, m1_lt, m1_le, lt_m1, le_m1, eq_m1, m1_eq, nI_add, nI_sub, nI_dec, nI_mul, nI_or, nI_and, nI_div, nI_mod, and_255, and_31, and_1, and_63, nI_shl, nI_shr, bI_F, bI_1, vp_T, cl_T, true_implies, false_implies, not_true_eq_false, not_false_eq_true, true_and, and_true, false_and, and_false, Bool.false_eq_true, Bool.true_eq_false, reduceCtorEq, implies_true, q_lc_eq, q_lc_ge, q_lc_gt, q_lc_le, lN_or, lN_and, lN_shl, lN_shr, nI_L, lN_I, l_0]
    refine ⟨_, row_el h0 (by omega), _, let_isLetter (hv p), ?_⟩
    simp (disch := omega) only [hb, show isLet 32 = false from by decide, q_lit, le_T, le_F, lt_T, lt_F, eq_T, eq_F, m1_lt, m1_le, lt_m1, le_m1, eq_m1, m1_eq, nI_add, nI_sub, nI_dec, nI_mul, nI_or, nI_and, nI_div, nI_mod, and_255, and_31, and_1, and_63, nI_shl, nI_shr, bI_F, bI_1, vp_T, cl_T, true_implies, false_implies, not_true_eq_false, not_false_eq_true, true_and, and_true, false_and, and_false, Bool.false_eq_true, Bool.true_eq_false, reduceCtorEq, implies_true]
    exact hm
theorem cf_open {E0 : Nat → Int32} {C0 : Int32} {L : List Nat} {VW : Nat → Int64} {VT : Nat → Int32} {VC : Int32} {l : List (Nat × Nat)} (hx : CX E0 C0 L VW VT VC l) {bT E : Int32} {p : Nat} (hp : p < L.length) (hlet : isLet (L.getD p 0) = false) (hb : ¬ L.getD p 0 = 32) {F J N F1 J1 N1 : Nat → Int32} {lv lv1 : Nat} {b1 D1 : Bool} (ho : D_Query_opens (nI (L.getD p 0)) F J N E (nI lv) true b1 F1 J1 N1 (nI lv1) D1) {res : Int32}
    (hk : (b1 = true ∧ CF E0 C0 VW VT VC bT E res (p + 1) F1 J1 N1 lv1 D1) ∨ (b1 = false ∧ res = -nI 1 - nI p)) : CF E0 C0 VW VT VC bT E res p F J N lv true := by
  obtain ⟨h1, hv, h2, h3, h4⟩ := hx
  have h0 := h1
  obtain ⟨rfl, hl, hn, he⟩ := h1
  have hv' := hv p
  rcases hk with ⟨rfl, F9, J9, N9, E9, L9, D9, m, hm⟩ | ⟨rfl, rfl⟩
  · refine ⟨F9, J9, N9, E9, L9, D9, m + 2, ?_⟩
    simp (disch := omega) only [T_Query_find, S_Query_find, B_Query_find_22, B_Query_find_91, q_lit, le_T, le_F, lt_T, lt_F, eq_T, eq_F, m1_lt, m1_le, lt_m1, le_m1, eq_m1, m1_eq, nI_add, nI_sub, nI_dec, nI_mul, nI_or, nI_and, nI_div, nI_mod, and_255, and_31, and_1, and_63, nI_shl, nI_shr, bI_F, bI_1, vp_T, cl_T, true_implies, false_implies, not_true_eq_false, not_false_eq_true, true_and, and_true, false_and, and_false, Bool.false_eq_true, Bool.true_eq_false, reduceCtorEq, implies_true, q_lc_eq, q_lc_ge, q_lc_gt, q_lc_le, lN_or, lN_and, lN_shl, lN_shr, nI_L, lN_I, l_0]
    refine ⟨_, row_el h0 (by omega), _, let_isLetter (hv p), ?_⟩
    simp (disch := omega) only [hlet, q_lit, le_T, le_F, lt_T, lt_F, eq_T, eq_F, m1_lt, m1_le, lt_m1, le_m1, eq_m1, m1_eq, nI_add, nI_sub, nI_dec, nI_mul, nI_or, nI_and, nI_div, nI_mod, and_255, and_31, and_1, and_63, nI_shl, nI_shr, bI_F, bI_1, vp_T, cl_T, true_implies, false_implies, not_true_eq_false, not_false_eq_true, true_and, and_true, false_and, and_false, Bool.false_eq_true, Bool.true_eq_false, reduceCtorEq, implies_true]
    exact ⟨_, _, _, _, _, _, ho, by simp (disch := omega) only [q_lit, le_T, le_F, lt_T, lt_F, eq_T, eq_F, m1_lt, m1_le, lt_m1, le_m1, eq_m1, m1_eq, nI_add, nI_sub, nI_dec, nI_mul, nI_or, nI_and, nI_div, nI_mod, and_255, and_31, and_1, and_63, nI_shl, nI_shr, bI_F, bI_1, vp_T, cl_T, true_implies, false_implies, not_true_eq_false, not_false_eq_true, true_and, and_true, false_and, and_false, Bool.false_eq_true, Bool.true_eq_false, reduceCtorEq, implies_true]; exact hm⟩
  · refine ⟨F1, J1, N1, E, nI lv1, D1, 2, ?_⟩
    simp (disch := omega) only [T_Query_find, S_Query_find, B_Query_find_22, B_Query_find_91, q_lit, le_T, le_F, lt_T, lt_F, eq_T, eq_F, m1_lt, m1_le, lt_m1, le_m1, eq_m1, m1_eq, nI_add, nI_sub, nI_dec, nI_mul, nI_or, nI_and, nI_div, nI_mod, and_255, and_31, and_1, and_63, nI_shl, nI_shr, bI_F, bI_1, vp_T, cl_T, true_implies, false_implies, not_true_eq_false, not_false_eq_true, true_and, and_true, false_and, and_false, Bool.false_eq_true, Bool.true_eq_false, reduceCtorEq, implies_true, q_lc_eq, q_lc_ge, q_lc_gt, q_lc_le, lN_or, lN_and, lN_shl, lN_shr, nI_L, lN_I, l_0]
    refine ⟨_, row_el h0 (by omega), _, let_isLetter (hv p), ?_⟩
    simp (disch := omega) only [hlet, q_lit, le_T, le_F, lt_T, lt_F, eq_T, eq_F, m1_lt, m1_le, lt_m1, le_m1, eq_m1, m1_eq, nI_add, nI_sub, nI_dec, nI_mul, nI_or, nI_and, nI_div, nI_mod, and_255, and_31, and_1, and_63, nI_shl, nI_shr, bI_F, bI_1, vp_T, cl_T, true_implies, false_implies, not_true_eq_false, not_false_eq_true, true_and, and_true, false_and, and_false, Bool.false_eq_true, Bool.true_eq_false, reduceCtorEq, implies_true]
    exact ⟨_, _, _, _, _, _, ho, by simp (disch := omega) only [q_lit, le_T, le_F, lt_T, lt_F, eq_T, eq_F, m1_lt, m1_le, lt_m1, le_m1, eq_m1, m1_eq, nI_add, nI_sub, nI_dec, nI_mul, nI_or, nI_and, nI_div, nI_mod, and_255, and_31, and_1, and_63, nI_shl, nI_shr, bI_F, bI_1, vp_T, cl_T, true_implies, false_implies, not_true_eq_false, not_false_eq_true, true_and, and_true, false_and, and_false, Bool.false_eq_true, Bool.true_eq_false, reduceCtorEq, implies_true]⟩
theorem cf_on {E0 : Nat → Int32} {C0 : Int32} {L : List Nat} {VW : Nat → Int64} {VT : Nat → Int32} {VC : Int32} {l : List (Nat × Nat)} (hx : CX E0 C0 L VW VT VC l) {bT E : Int32} {p : Nat} (hp : p < L.length) (hb : ¬ L.getD p 0 = 32) {F J N F1 J1 N1 : Nat → Int32} {lv lv1 : Nat} {b1 D1 : Bool} (ho : D_Query_goesOn (nI (L.getD p 0)) F J N E (nI lv) false b1 F1 J1 N1 (nI lv1) D1) {res : Int32}
    (hk : (b1 = true ∧ CF E0 C0 VW VT VC bT E res (p + 1) F1 J1 N1 lv1 D1) ∨ (b1 = false ∧ res = -nI 1 - nI p)) : CF E0 C0 VW VT VC bT E res p F J N lv false := by
  obtain ⟨h1, hv, h2, h3, h4⟩ := hx
  have h0 := h1
  obtain ⟨rfl, hl, hn, he⟩ := h1
  have hv' := hv p
  rcases hk with ⟨rfl, F9, J9, N9, E9, L9, D9, m, hm⟩ | ⟨rfl, rfl⟩
  · refine ⟨F9, J9, N9, E9, L9, D9, m + 2, ?_⟩
    simp (disch := omega) only [T_Query_find, S_Query_find, B_Query_find_22, B_Query_find_91, q_lit, le_T, le_F, lt_T, lt_F, eq_T, eq_F, m1_lt, m1_le, lt_m1, le_m1, eq_m1, m1_eq, nI_add, nI_sub, nI_dec, nI_mul, nI_or, nI_and, nI_div, nI_mod, and_255, and_31, and_1, and_63, nI_shl, nI_shr, bI_F, bI_1, vp_T, cl_T, true_implies, false_implies, not_true_eq_false, not_false_eq_true, true_and, and_true, false_and, and_false, Bool.false_eq_true, Bool.true_eq_false, reduceCtorEq, implies_true, q_lc_eq, q_lc_ge, q_lc_gt, q_lc_le, lN_or, lN_and, lN_shl, lN_shr, nI_L, lN_I, l_0]
    refine ⟨_, row_el h0 (by omega), ?_⟩
    simp (disch := omega) only [q_lit, le_T, le_F, lt_T, lt_F, eq_T, eq_F, m1_lt, m1_le, lt_m1, le_m1, eq_m1, m1_eq, nI_add, nI_sub, nI_dec, nI_mul, nI_or, nI_and, nI_div, nI_mod, and_255, and_31, and_1, and_63, nI_shl, nI_shr, bI_F, bI_1, vp_T, cl_T, true_implies, false_implies, not_true_eq_false, not_false_eq_true, true_and, and_true, false_and, and_false, Bool.false_eq_true, Bool.true_eq_false, reduceCtorEq, implies_true]
    exact ⟨_, _, _, _, _, _, ho, by simp (disch := omega) only [q_lit, le_T, le_F, lt_T, lt_F, eq_T, eq_F, m1_lt, m1_le, lt_m1, le_m1, eq_m1, m1_eq, nI_add, nI_sub, nI_dec, nI_mul, nI_or, nI_and, nI_div, nI_mod, and_255, and_31, and_1, and_63, nI_shl, nI_shr, bI_F, bI_1, vp_T, cl_T, true_implies, false_implies, not_true_eq_false, not_false_eq_true, true_and, and_true, false_and, and_false, Bool.false_eq_true, Bool.true_eq_false, reduceCtorEq, implies_true]; exact hm⟩
  · refine ⟨F1, J1, N1, E, nI lv1, D1, 2, ?_⟩
    simp (disch := omega) only [T_Query_find, S_Query_find, B_Query_find_22, B_Query_find_91, q_lit, le_T, le_F, lt_T, lt_F, eq_T, eq_F, m1_lt, m1_le, lt_m1, le_m1, eq_m1, m1_eq, nI_add, nI_sub, nI_dec, nI_mul, nI_or, nI_and, nI_div, nI_mod, and_255, and_31, and_1, and_63, nI_shl, nI_shr, bI_F, bI_1, vp_T, cl_T, true_implies, false_implies, not_true_eq_false, not_false_eq_true, true_and, and_true, false_and, and_false, Bool.false_eq_true, Bool.true_eq_false, reduceCtorEq, implies_true, q_lc_eq, q_lc_ge, q_lc_gt, q_lc_le, lN_or, lN_and, lN_shl, lN_shr, nI_L, lN_I, l_0]
    refine ⟨_, row_el h0 (by omega), ?_⟩
    simp (disch := omega) only [q_lit, le_T, le_F, lt_T, lt_F, eq_T, eq_F, m1_lt, m1_le, lt_m1, le_m1, eq_m1, m1_eq, nI_add, nI_sub, nI_dec, nI_mul, nI_or, nI_and, nI_div, nI_mod, and_255, and_31, and_1, and_63, nI_shl, nI_shr, bI_F, bI_1, vp_T, cl_T, true_implies, false_implies, not_true_eq_false, not_false_eq_true, true_and, and_true, false_and, and_false, Bool.false_eq_true, Bool.true_eq_false, reduceCtorEq, implies_true]
    exact ⟨_, _, _, _, _, _, ho, by simp (disch := omega) only [q_lit, le_T, le_F, lt_T, lt_F, eq_T, eq_F, m1_lt, m1_le, lt_m1, le_m1, eq_m1, m1_eq, nI_add, nI_sub, nI_dec, nI_mul, nI_or, nI_and, nI_div, nI_mod, and_255, and_31, and_1, and_63, nI_shl, nI_shr, bI_F, bI_1, vp_T, cl_T, true_implies, false_implies, not_true_eq_false, not_false_eq_true, true_and, and_true, false_and, and_false, Bool.false_eq_true, Bool.true_eq_false, reduceCtorEq, implies_true]⟩
theorem cf_end {E0 : Nat → Int32} {C0 : Int32} {L : List Nat} {VW : Nat → Int64} {VT : Nat → Int32} {VC : Int32} {l : List (Nat × Nat)} (hx : CX E0 C0 L VW VT VC l) {bT E : Int32} {F J N : Nat → Int32} {lv : Nat} (hlv : lv ≤ 40) {due : Bool} :
    CF E0 C0 VW VT VC bT E (if due = false ∧ lv = 0 then F 0 ||| J 0 else -nI 1 - nI L.length) L.length F J N lv due := by
  obtain ⟨h1, hv, h2, h3, h4⟩ := hx
  obtain ⟨rfl, hl, hn, he⟩ := h1
  refine ⟨F, J, N, E, nI lv, due, 2, ?_⟩
  cases due with
  | true =>
    rw [if_neg (by simp)]
    simp (disch := omega) only [T_Query_find, S_Query_find, B_Query_find_22, B_Query_find_151, q_lit, le_T, le_F, lt_T, lt_F, eq_T, eq_F, m1_lt, m1_le, lt_m1, le_m1, eq_m1, m1_eq, nI_add, nI_sub, nI_dec, nI_mul, nI_or, nI_and, nI_div, nI_mod, and_255, and_31, and_1, and_63, nI_shl, nI_shr, bI_F, bI_1, vp_T, cl_T, true_implies, false_implies, not_true_eq_false, not_false_eq_true, true_and, and_true, false_and, and_false, Bool.false_eq_true, Bool.true_eq_false, reduceCtorEq, implies_true, q_lc_eq, q_lc_ge, q_lc_gt, q_lc_le, lN_or, lN_and, lN_shl, lN_shr, nI_L, lN_I, l_0]
  | false =>
    by_cases h5 : lv = 0
    · subst h5
      rw [if_pos ⟨rfl, rfl⟩]
      simp (disch := omega) only [T_Query_find, S_Query_find, B_Query_find_22, B_Query_find_151, q_lit, le_T, le_F, lt_T, lt_F, eq_T, eq_F, m1_lt, m1_le, lt_m1, le_m1, eq_m1, m1_eq, nI_add, nI_sub, nI_dec, nI_mul, nI_or, nI_and, nI_div, nI_mod, and_255, and_31, and_1, and_63, nI_shl, nI_shr, bI_F, bI_1, vp_T, cl_T, true_implies, false_implies, not_true_eq_false, not_false_eq_true, true_and, and_true, false_and, and_false, Bool.false_eq_true, Bool.true_eq_false, reduceCtorEq, implies_true, q_lc_eq, q_lc_ge, q_lc_gt, q_lc_le, lN_or, lN_and, lN_shl, lN_shr, nI_L, lN_I, l_0]
    · rw [if_neg (fun h => h5 h.2)]
      simp (disch := omega) only [T_Query_find, S_Query_find, B_Query_find_22, B_Query_find_151, q_lit, le_T, le_F, lt_T, lt_F, eq_T, eq_F, m1_lt, m1_le, lt_m1, le_m1, eq_m1, m1_eq, nI_add, nI_sub, nI_dec, nI_mul, nI_or, nI_and, nI_div, nI_mod, and_255, and_31, and_1, and_63, nI_shl, nI_shr, bI_F, bI_1, vp_T, cl_T, true_implies, false_implies, not_true_eq_false, not_false_eq_true, true_and, and_true, false_and, and_false, Bool.false_eq_true, Bool.true_eq_false, reduceCtorEq, implies_true, q_lc_eq, q_lc_ge, q_lc_gt, q_lc_le, lN_or, lN_and, lN_shl, lN_shr, nI_L, lN_I, l_0]
