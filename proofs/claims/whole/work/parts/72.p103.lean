/-! Pure: the class writes an image. -/
theorem t_index {W : Nat → Int64} {T : Nat → Int32} {Kc : Int32} {m : List (List Nat × Nat)} (h : CW 1275 W T Kc (codes m)) (hok : KsOk m) (h10 : ∀ i, i < m.length → mb m i < 1024) (k : Nat) (hk : k ≤ m.length) (E : Nat → Int32) (C : Int32) (O : Bool) (L : List Nat) (hR : RO E C O (L ++ q_idx m k)) :
    ∃ E' C' O', (∃ q, T_ImageWriter_writeIndex 1275 3000 W T Kc E' C' O' q (nI k) E C O) ∧ RO E' C' O' (L ++ q_idx m m.length) := by
  have hml : m.length ≤ 1275 := by have := h.2.1; rwa [codes_len] at this
  have hKc : Kc = nI m.length := by rw [h.1, codes_len]
  by_cases h1 : k < m.length
  · obtain ⟨o1, o2, o3⟩ := hok k h1
    obtain ⟨E1, C1, O1, a1, a2⟩ := wr_word o1 o2 hR
    obtain ⟨E2, C2, O2, b1, b2⟩ := wr_topics (h10 k h1) a2
    obtain ⟨E', C', O', ⟨q, hq⟩, c2⟩ := t_index h hok h10 (k + 1) h1 E2 C2 O2 L (by simp only [q_idx]; simpa using b2)
    refine ⟨E', C', O', ⟨q + 1, ?_⟩, c2⟩
    have w1 := wl_wordM h h1
    have w2 := wl_topicsM h h1
    rw [hKc] at hq w1 w2 ⊢
    simp (disch := omega) only [T_ImageWriter_writeIndex, S_ImageWriter_writeIndex, B_ImageWriter_writeIndex_10, q_lit, le_T, le_F, lt_T, lt_F, eq_T, eq_F, m1_lt, m1_le, lt_m1, le_m1, eq_m1, m1_eq, nI_add, nI_sub, nI_dec, nI_mul, nI_or, nI_and, nI_div, nI_mod, and_255, and_31, and_1, and_63, nI_shl, nI_shr, bI_F, bI_1, vp_T, cl_T, true_implies, false_implies, not_true_eq_false, not_false_eq_true, true_and, and_true, false_and, and_false, Bool.false_eq_true, Bool.true_eq_false, reduceCtorEq, implies_true, q_lc_eq, q_lc_ge, q_lc_gt, q_lc_le, lN_or, lN_and, lN_shl, lN_shr, nI_L, lN_I, l_0]
    exact ⟨_, w1, E1, C1, O1, a1, _, w2, E2, C2, O2, b1, hq⟩
  · have hke : k = m.length := by omega
    subst hke
    refine ⟨E, C, O, ⟨1, ?_⟩, hR⟩
    rw [hKc]
    simp (disch := omega) only [T_ImageWriter_writeIndex, S_ImageWriter_writeIndex, B_ImageWriter_writeIndex_10, q_lit, le_T, le_F, lt_T, lt_F, eq_T, eq_F, m1_lt, m1_le, lt_m1, le_m1, eq_m1, m1_eq, nI_add, nI_sub, nI_dec, nI_mul, nI_or, nI_and, nI_div, nI_mod, and_255, and_31, and_1, and_63, nI_shl, nI_shr, bI_F, bI_1, vp_T, cl_T, true_implies, false_implies, not_true_eq_false, not_false_eq_true, true_and, and_true, false_and, and_false, Bool.false_eq_true, Bool.true_eq_false, reduceCtorEq, implies_true, q_lc_eq, q_lc_ge, q_lc_gt, q_lc_le, lN_or, lN_and, lN_shl, lN_shr, nI_L, lN_I, l_0]
termination_by m.length - k
decreasing_by all_goals omega
theorem wr_index {W : Nat → Int64} {T : Nat → Int32} {Kc : Int32} {m : List (List Nat × Nat)} (h : CW 1275 W T Kc (codes m)) (hok : KsOk m) (h10 : ∀ i, i < m.length → mb m i < 1024) {E : Nat → Int32} {C : Int32} {O : Bool} {L : List Nat} (hR : RO E C O L) :
    ∃ E' C' O', D_ImageWriter_writeIndex 1275 3000 W T Kc E C O E' C' O' ∧ RO E' C' O' (L ++ (pr2 m.length ++ q_idx m m.length)) := by
  have hml : m.length ≤ 1275 := by have := h.2.1; rwa [codes_len] at this
  have hKc : Kc = nI m.length := by rw [h.1, codes_len]
  obtain ⟨E1, C1, O1, a1, a2⟩ := ro_pair hR (n := m.length) (by omega)
  obtain ⟨E', C', O', ⟨q, hq⟩, c2⟩ := t_index h hok h10 0 (by omega) E1 C1 O1 _ (by simpa [q_idx] using a2)
  exact ⟨E', C', O', ⟨q, E1, C1, O1, by rw [hKc]; exact a1, by simpa [q_lit] using hq⟩, by simpa using c2⟩
theorem hdr_len (ns bs : List (List Nat)) (j t : Nat) : (hdr ns bs j t).length = 10 * t := by
  induction t with
  | zero => rfl
  | succ t ih => simp only [hdr, List.length_append, ih, nm6, pr2, List.length_cons, List.length_nil]; omega
theorem hdr_ge {ns bs : List (List Nat)} {j j' t : Nat} (h : t ≤ j) (h' : t ≤ j') : hdr ns bs j t = hdr ns bs j' t := by
  induction t with
  | zero => rfl
  | succ t ih => simp only [hdr]; rw [ih (by omega) (by omega), if_pos (by omega), if_pos (by omega)]
/-- two bytes told at last -/
theorem set2 {A B : List Nat} {a b x y : Nat} {k : Nat} (hk : k = A.length) : ((A ++ (a :: b :: B)).set k x).set (k + 1) y = A ++ (x :: y :: B) := by
  subst hk
  simp
theorem hdr_set {ns bs : List (List Nat)} {j : Nat} (hj : j < bs.length) (R : List Nat) (t : Nat) (ht : j < t) : ((([72, bs.length] ++ hdr ns bs j t ++ R).set (2 + 10 * j + 8) ((pk (bd bs j)).length % 256)).set (2 + 10 * j + 8 + 1) ((pk (bd bs j)).length / 256 % 256)) = [72, bs.length] ++ hdr ns bs (j + 1) t ++ R := by
  -- the heads before, this one, and those behind
  have key : ∀ t, j < t → ∃ B0 B, hdr ns bs j t = hdr ns bs j j ++ (nm6 (bd ns j) ++ pr2 (bd bs j).length) ++ (0 :: 0 :: B) ∧ hdr ns bs (j + 1) t = hdr ns bs j j ++ (nm6 (bd ns j) ++ pr2 (bd bs j).length) ++ ((pk (bd bs j)).length % 256 :: (pk (bd bs j)).length / 256 % 256 :: B) ∧ B0 = B := by
    intro t
    induction t with
    | zero => intro h; omega
    | succ t ih =>
      intro h
      by_cases h1 : j = t
      · subst h1
        refine ⟨[], [], ?_, ?_, rfl⟩
        · simp only [hdr]; rw [if_neg (by omega)]; simp [pr2]
        · simp only [hdr]; rw [if_pos (by omega), hdr_ge (j' := j) (by omega) (by omega)]; simp [pr2]
      · obtain ⟨B0, B, e1, e2, _⟩ := ih (by omega)
        refine ⟨B ++ (nm6 (bd ns t) ++ pr2 (bd bs t).length ++ pr2 0), B ++ (nm6 (bd ns t) ++ pr2 (bd bs t).length ++ pr2 0), ?_, ?_, rfl⟩
        · simp only [hdr]; rw [if_neg (by omega), e1]; simp
        · simp only [hdr]; rw [if_neg (by omega), e2]; simp
  obtain ⟨_, B, e1, e2, _⟩ := key t ht
  rw [e1, e2]
  have := set2 (A := [72, bs.length] ++ (hdr ns bs j j ++ (nm6 (bd ns j) ++ pr2 (bd bs j).length))) (B := B ++ R) (a := 0) (b := 0) (x := (pk (bd bs j)).length % 256) (y := (pk (bd bs j)).length / 256 % 256) (k := 2 + 10 * j + 8) (by simp only [List.length_append, hdr_len, nm6, pr2, List.length_cons, List.length_nil]; omega)
  simpa using this
/-- a book that may be written -/
def WrOk (N : Nat → Int64) (ns bs : List (List Nat)) (ks ws : List (List Nat × Nat)) : Prop := ns.length = bs.length ∧ (∀ t, t < bs.length → N t = lN (enc (bd ns t)) ∧ q_Wd (bd ns t)) ∧ KsOk ks ∧ KsOk ws ∧ ∀ i, i < ws.length → mb ws i < 1024
theorem t_write0 {N : Nat → Int64} {S BE : Nat → Int32} {BC T : Int32} {bs : List (List Nat)} (h : CB S BE BC T bs) {KW : Nat → Int64} {KT : Nat → Int32} {KC : Int32} {VW : Nat → Int64} {VT : Nat → Int32} {VC : Int32} {ns : List (List Nat)} {ks ws : List (List Nat × Nat)} (hw : WrOk N ns bs ks ws) (t : Nat) (ht : t ≤ bs.length) (E : Nat → Int32) (C : Int32) (O : Bool) (hR : RO E C O ([72, bs.length] ++ hdr ns bs 0 t)) :
    ∃ E2 C2 O2, RO E2 C2 O2 ([72, bs.length] ++ hdr ns bs 0 bs.length) ∧ ∀ E' C' O', (∃ q, T_ImageWriter_write 2550 252 1275 3000 N S BE BC KW KT KC VW VT VC T E' C' O' q 1 (nI 0) E2 C2 O2) → ∃ q, T_ImageWriter_write 2550 252 1275 3000 N S BE BC KW KT KC VW VT VC T E' C' O' q 0 (nI t) E C O := by
  have h10 := h.2.1
  have hT := h.1
  by_cases h1 : t < bs.length
  · have hl := h.len h1
    obtain ⟨n1, n2⟩ := hw.2.1 t h1
    obtain ⟨E1, C1, O1, a1, a2⟩ := wr_name n2 hR
    obtain ⟨E2, C2, O2, b1, b2⟩ := ro_pair a2 (n := (bd bs t).length) (by omega)
    obtain ⟨E3, C3, O3, c1, c2⟩ := ro_pair b2 (n := 0) (by omega)
    obtain ⟨E4, C4, O4, d1, d2⟩ := t_write0 h hw (KW := KW) (KT := KT) (KC := KC) (VW := VW) (VT := VT) (VC := VC) (t + 1) h1 E3 C3 O3 (by simp only [hdr]; rw [if_neg (by omega)]; simpa using c2)
    refine ⟨E4, C4, O4, d1, fun E' C' O' h9 => ?_⟩
    obtain ⟨q, hq⟩ := d2 E' C' O' h9
    refine ⟨q + 1, ?_⟩
    have hnm : D_Book_name (nI t) N T (lN (enc (bd ns t))) := by
      refine ⟨_, cb_has h.1 h.2.1 (by omega), ?_⟩
      rw [decide_eq_true h1]
      simp (disch := omega) only [n1, q_lit, le_T, le_F, lt_T, lt_F, eq_T, eq_F, m1_lt, m1_le, lt_m1, le_m1, eq_m1, m1_eq, nI_add, nI_sub, nI_dec, nI_mul, nI_or, nI_and, nI_div, nI_mod, and_255, and_31, and_1, and_63, nI_shl, nI_shr, bI_F, bI_1, vp_T, cl_T, true_implies, false_implies, not_true_eq_false, not_false_eq_true, true_and, and_true, false_and, and_false, Bool.false_eq_true, Bool.true_eq_false, reduceCtorEq, implies_true]
    have hbl := cb_len h h1
    rw [hT] at hnm hbl hq ⊢
    simp (disch := omega) only [T_ImageWriter_write, S_ImageWriter_write, B_ImageWriter_write_21, q_lit, le_T, le_F, lt_T, lt_F, eq_T, eq_F, m1_lt, m1_le, lt_m1, le_m1, eq_m1, m1_eq, nI_add, nI_sub, nI_dec, nI_mul, nI_or, nI_and, nI_div, nI_mod, and_255, and_31, and_1, and_63, nI_shl, nI_shr, bI_F, bI_1, vp_T, cl_T, true_implies, false_implies, not_true_eq_false, not_false_eq_true, true_and, and_true, false_and, and_false, Bool.false_eq_true, Bool.true_eq_false, reduceCtorEq, implies_true, q_lc_eq, q_lc_ge, q_lc_gt, q_lc_le, lN_or, lN_and, lN_shl, lN_shr, nI_L, lN_I, l_0]
    exact ⟨_, hnm, E1, C1, O1, a1, _, hbl, E2, C2, O2, b1, E3, C3, O3, c1, hq⟩
  · have hte : t = bs.length := by omega
    subst hte
    refine ⟨E, C, O, hR, fun E' C' O' h9 => ?_⟩
    obtain ⟨q, hq⟩ := h9
    refine ⟨q + 1, ?_⟩
    rw [hT] at hq ⊢
    simp (disch := omega) only [T_ImageWriter_write, S_ImageWriter_write, B_ImageWriter_write_21, q_lit, le_T, le_F, lt_T, lt_F, eq_T, eq_F, m1_lt, m1_le, lt_m1, le_m1, eq_m1, m1_eq, nI_add, nI_sub, nI_dec, nI_mul, nI_or, nI_and, nI_div, nI_mod, and_255, and_31, and_1, and_63, nI_shl, nI_shr, bI_F, bI_1, vp_T, cl_T, true_implies, false_implies, not_true_eq_false, not_false_eq_true, true_and, and_true, false_and, and_false, Bool.false_eq_true, Bool.true_eq_false, reduceCtorEq, implies_true, q_lc_eq, q_lc_ge, q_lc_gt, q_lc_le, lN_or, lN_and, lN_shl, lN_shr, nI_L, lN_I, l_0]
    exact hq
termination_by bs.length - t
decreasing_by all_goals omega
theorem ro_cnt {E : Nat → Int32} {C : Int32} {O : Bool} {L : List Nat} (h : RO E C O L) : ∃ c, c ≤ 3000 ∧ C = nI c ∧ (O = false → c = L.length) := by
  rcases h with ⟨rfl, h⟩ | ⟨rfl, _, h⟩
  · exact ⟨L.length, h.2.1, h.1, fun _ => rfl⟩
  · exact ⟨3000, Nat.le_refl _, h, fun h9 => by cases h9⟩
theorem sum_tot {c : Nat} (hc : c ≤ 3000) (E : Nat → Int32) (x : Int32) (k : Nat) (hk : k ≤ c) : ∃ r q, T_Row_sum 3000 E (nI c) r q x (nI k) := by
  by_cases h : k < c
  · obtain ⟨r, q, hq⟩ := sum_tot hc E (x + E k) (k + 1) h
    refine ⟨r, q + 1, ?_⟩
    simp (disch := omega) only [T_Row_sum, S_Row_sum, B_Row_sum_4, q_lit, le_T, le_F, lt_T, lt_F, eq_T, eq_F, m1_lt, m1_le, lt_m1, le_m1, eq_m1, m1_eq, nI_add, nI_sub, nI_dec, nI_mul, nI_or, nI_and, nI_div, nI_mod, and_255, and_31, and_1, and_63, nI_shl, nI_shr, bI_F, bI_1, vp_T, cl_T, true_implies, false_implies, not_true_eq_false, not_false_eq_true, true_and, and_true, false_and, and_false, Bool.false_eq_true, Bool.true_eq_false, reduceCtorEq, implies_true, q_lc_eq, q_lc_ge, q_lc_gt, q_lc_le, lN_or, lN_and, lN_shl, lN_shr, nI_L, lN_I, l_0]
    exact hq
  · refine ⟨x, 1, ?_⟩
    simp (disch := omega) only [T_Row_sum, S_Row_sum, B_Row_sum_4, q_lit, le_T, le_F, lt_T, lt_F, eq_T, eq_F, m1_lt, m1_le, lt_m1, le_m1, eq_m1, m1_eq, nI_add, nI_sub, nI_dec, nI_mul, nI_or, nI_and, nI_div, nI_mod, and_255, and_31, and_1, and_63, nI_shl, nI_shr, bI_F, bI_1, vp_T, cl_T, true_implies, false_implies, not_true_eq_false, not_false_eq_true, true_and, and_true, false_and, and_false, Bool.false_eq_true, Bool.true_eq_false, reduceCtorEq, implies_true, q_lc_eq, q_lc_ge, q_lc_gt, q_lc_le, lN_or, lN_and, lN_shl, lN_shr, nI_L, lN_I, l_0]
termination_by c - k
decreasing_by all_goals omega
theorem t_write1 {N : Nat → Int64} {S BE : Nat → Int32} {BC T : Int32} {bs : List (List Nat)} (h : CB S BE BC T bs) {KW : Nat → Int64} {KT : Nat → Int32} {KC : Int32} {VW : Nat → Int64} {VT : Nat → Int32} {VC : Int32} {ns : List (List Nat)} {ks ws : List (List Nat × Nat)} (hw : WrOk N ns bs ks ws) (hk : CW 252 KW KT KC (codes ks)) (hv : CW 1275 VW VT VC (codes ws)) (hsum : (img0 ns bs ks ws).sum < 2147483648) (t : Nat) (ht : t ≤ bs.length) (E : Nat → Int32) (C : Int32) (O : Bool) (hR : RO E C O ([72, bs.length] ++ hdr ns bs t bs.length ++ pks bs t)) :
    ∃ E' C' O', (∃ q, T_ImageWriter_write 2550 252 1275 3000 N S BE BC KW KT KC VW VT VC T E' C' O' q 1 (nI t) E C O) ∧ RO E' C' O' (img ns bs ks ws) := by
  have h10 := h.2.1
  have hT := h.1
  by_cases h1 : t < bs.length
  · obtain ⟨c0, q1, q2, q3⟩ := ro_cnt hR
    obtain ⟨E1, C1, O1, a1, a2⟩ := wr_pack h h1 hR
    obtain ⟨c1, q4, q5, q6⟩ := ro_cnt a2
    have hlast : (hdr ns bs t bs.length).length = 10 * bs.length := hdr_len _ _ _ _
    -- the packed length goes to its place
    have hrep : ∃ E2, D_Row_replacePair 3000 ((2 + (10 * nI t)) + 8) (C1 - C) E1 C1 E2 ∧ RO E2 C1 O1 ([72, bs.length] ++ hdr ns bs (t + 1) bs.length ++ pks bs (t + 1)) := by
      have epl : ((2 + (10 * nI t)) + 8 : Int32) = nI (2 + 10 * t + 8) := by simp (disch := omega) only [q_lit, le_T, le_F, lt_T, lt_F, eq_T, eq_F, m1_lt, m1_le, lt_m1, le_m1, eq_m1, m1_eq, nI_add, nI_sub, nI_dec, nI_mul, nI_or, nI_and, nI_div, nI_mod, and_255, and_31, and_1, and_63, nI_shl, nI_shr, bI_F, bI_1, vp_T, cl_T, true_implies, false_implies, not_true_eq_false, not_false_eq_true, true_and, and_true, false_and, and_false, Bool.false_eq_true, Bool.true_eq_false, reduceCtorEq, implies_true]
      rw [epl]
      cases hO : O1 with
      | false =>
        rw [hO] at a2 q6
        rcases a2 with ⟨_, a3⟩ | ⟨h9, _⟩
        · have hO0 : O = false := by
            rcases hR with ⟨h9, _⟩ | ⟨_, h9, _⟩
            · exact h9
            · exfalso
              have := a3.2.1
              rw [List.length_append] at this
              omega
          have e0 := q3 hO0
          have e1 := q6 rfl
          have hlen3 := a3.2.1
          simp only [List.length_append, List.length_cons, List.length_nil, hlast] at hlen3 e0 e1
          have esub : C1 - C = nI (pk (bd bs t)).length := by
            rw [q5, q2, nI_sub (by omega)]; congr 1; omega
          rw [esub]
          have s1 := rw_set a3 (k := 2 + 10 * t + 8) (by simp only [List.length_append, List.length_cons, List.length_nil, hlast]; omega) ((pk (bd bs t)).length % 256)
          have s2 := rw_set s1 (k := 2 + 10 * t + 8 + 1) (by simp only [List.length_set, List.length_append, List.length_cons, List.length_nil, hlast]; omega) ((pk (bd bs t)).length / 256 % 256)
          rw [List.append_assoc, hdr_set h1 _ _ h1] at s2
          have hpk : (pk (bd bs t)).length < 2147483648 := by omega
          have rep : ∀ (E9 : Nat → Int32) (k x : Nat), k < c1 → D_Row_replace 3000 (nI k) (nI x) E9 C1 (upd E9 k (nI x)) := by
            intro E9 k x hk9
            refine ⟨true, ?_, ?_⟩
            · rw [q5]; simp (disch := omega) only [D_Row_has, q_lit, le_T, le_F, lt_T, lt_F, eq_T, eq_F, m1_lt, m1_le, lt_m1, le_m1, eq_m1, m1_eq, nI_add, nI_sub, nI_dec, nI_mul, nI_or, nI_and, nI_div, nI_mod, and_255, and_31, and_1, and_63, nI_shl, nI_shr, bI_F, bI_1, vp_T, cl_T, true_implies, false_implies, not_true_eq_false, not_false_eq_true, true_and, and_true, false_and, and_false, Bool.false_eq_true, Bool.true_eq_false, reduceCtorEq, implies_true]
            · simp (disch := omega) only [q_lit, le_T, le_F, lt_T, lt_F, eq_T, eq_F, m1_lt, m1_le, lt_m1, le_m1, eq_m1, m1_eq, nI_add, nI_sub, nI_dec, nI_mul, nI_or, nI_and, nI_div, nI_mod, and_255, and_31, and_1, and_63, nI_shl, nI_shr, bI_F, bI_1, vp_T, cl_T, true_implies, false_implies, not_true_eq_false, not_false_eq_true, true_and, and_true, false_and, and_false, Bool.false_eq_true, Bool.true_eq_false, reduceCtorEq, implies_true]
          refine ⟨upd (upd E1 (2 + 10 * t + 8) (nI ((pk (bd bs t)).length % 256))) (2 + 10 * t + 8 + 1) (nI ((pk (bd bs t)).length / 256 % 256)), ⟨upd E1 (2 + 10 * t + 8) (nI ((pk (bd bs t)).length % 256)), ?_, upd (upd E1 (2 + 10 * t + 8) (nI ((pk (bd bs t)).length % 256))) (2 + 10 * t + 8 + 1) (nI ((pk (bd bs t)).length / 256 % 256)), ?_, rfl⟩, Or.inl ⟨rfl, by simp only [pks]; exact s2⟩⟩
          · have : (nI (pk (bd bs t)).length &&& 255 : Int32) = nI ((pk (bd bs t)).length % 256) := by simp (disch := omega) only [q_lit, le_T, le_F, lt_T, lt_F, eq_T, eq_F, m1_lt, m1_le, lt_m1, le_m1, eq_m1, m1_eq, nI_add, nI_sub, nI_dec, nI_mul, nI_or, nI_and, nI_div, nI_mod, and_255, and_31, and_1, and_63, nI_shl, nI_shr, bI_F, bI_1, vp_T, cl_T, true_implies, false_implies, not_true_eq_false, not_false_eq_true, true_and, and_true, false_and, and_false, Bool.false_eq_true, Bool.true_eq_false, reduceCtorEq, implies_true]
            rw [this]
            exact rep _ _ _ (by omega)
          · have : ((nI (pk (bd bs t)).length >>> (8 &&& 31)) &&& 255 : Int32) = nI ((pk (bd bs t)).length / 256 % 256) := by
              simp (disch := omega) only [q_lit, le_T, le_F, lt_T, lt_F, eq_T, eq_F, m1_lt, m1_le, lt_m1, le_m1, eq_m1, m1_eq, nI_add, nI_sub, nI_dec, nI_mul, nI_or, nI_and, nI_div, nI_mod, and_255, and_31, and_1, and_63, nI_shl, nI_shr, bI_F, bI_1, vp_T, cl_T, true_implies, false_implies, not_true_eq_false, not_false_eq_true, true_and, and_true, false_and, and_false, Bool.false_eq_true, Bool.true_eq_false, reduceCtorEq, implies_true]
              rw [Nat.shiftRight_eq_div_pow]
            rw [this, nI_1]
            exact rep _ _ _ (by omega)
        · cases h9
      | true =>
        rw [hO] at a2
        rcases a2 with ⟨h9, _⟩ | ⟨_, a3, a4⟩
        · cases h9
        · obtain ⟨E2, r1⟩ := rep_tot (n := 3000) (c := c1) q4 (by omega) (nI (2 + 10 * t + 8)) ((C1 - C) &&& 255) E1
          obtain ⟨E3, r2⟩ := rep_tot (n := 3000) (c := c1) q4 (by omega) (nI (2 + 10 * t + 8) + 1) (((C1 - C) >>> (8 &&& 31)) &&& 255) E2
          rw [← q5] at r1 r2
          refine ⟨E3, ⟨E2, r1, E3, r2, rfl⟩, Or.inr ⟨rfl, ?_, a4⟩⟩
          simp only [pks, List.length_append, List.length_cons, List.length_nil, hdr_len] at a3 ⊢
          omega
    obtain ⟨E2, r1, r2⟩ := hrep
    obtain ⟨E', C', O', ⟨q, hq⟩, c2⟩ := t_write1 h hw hk hv hsum (t + 1) h1 E2 C1 O1 r2
    refine ⟨E', C', O', ⟨q + 1, ?_⟩, c2⟩
    rw [hT] at a1 hq ⊢
    simp only [T_ImageWriter_write, S_ImageWriter_write, B_ImageWriter_write_60]
    refine ⟨fun h9 => ?_, fun _ => ⟨E1, C1, O1, a1, E2, r1, by rw [nI_1]; exact hq⟩⟩
    exfalso; revert h9; simp (disch := omega) only [q_lit, le_T, le_F, lt_T, lt_F, eq_T, eq_F, m1_lt, m1_le, lt_m1, le_m1, eq_m1, m1_eq, nI_add, nI_sub, nI_dec, nI_mul, nI_or, nI_and, nI_div, nI_mod, and_255, and_31, and_1, and_63, nI_shl, nI_shr, bI_F, bI_1, vp_T, cl_T, true_implies, false_implies, not_true_eq_false, not_false_eq_true, true_and, and_true, false_and, and_false, Bool.false_eq_true, Bool.true_eq_false, reduceCtorEq, implies_true]
  · have hte : t = bs.length := by omega
    subst hte
    obtain ⟨E1, C1, O1, a1, a2⟩ := wr_tree hk hw.2.2.1 hR
    obtain ⟨E2, C2, O2, b1, b2⟩ := wr_index hv hw.2.2.2.1 hw.2.2.2.2 a2
    have eimg : [72, bs.length] ++ hdr ns bs bs.length bs.length ++ pks bs bs.length ++ tree ks ++ (pr2 ws.length ++ q_idx ws ws.length) = img0 ns bs ks ws := rfl
    rw [eimg] at b2
    have hsm : ∃ r, D_Row_sum 3000 E2 C2 r ∧ (O2 = false → r = nI (img0 ns bs ks ws).sum) := by
      rcases b2 with ⟨_, b3⟩ | ⟨h9, _, h7⟩
      · exact ⟨_, row_sum b3, fun _ => rfl⟩
      · obtain ⟨r, q, hq⟩ := sum_tot (c := 3000) (Nat.le_refl _) E2 0 0 (by omega)
        exact ⟨r, ⟨q, by rw [h7]; exact hq⟩, fun h8 => by rw [h9] at h8; cases h8⟩
    obtain ⟨r, s1, s2⟩ := hsm
    have hfin : ∃ E' C' O', D_Row_appendPair 3000 r E2 C2 O2 E' C' O' ∧ RO E' C' O' (img ns bs ks ws) := by
      rcases b2 with ⟨b4, b3⟩ | ⟨b4, b5, b6⟩
      · rw [s2 b4]
        exact ro_pair (Or.inl ⟨b4, b3⟩) hsum
      · subst b4
        subst b6
        refine ⟨E2, nI 3000, true, ⟨E2, nI 3000, true, ?_, E2, nI 3000, true, ?_, rfl, rfl, rfl⟩, Or.inr ⟨rfl, ?_, rfl⟩⟩
        · simp (disch := omega) only [D_Row_append, q_lit, le_T, le_F, lt_T, lt_F, eq_T, eq_F, m1_lt, m1_le, lt_m1, le_m1, eq_m1, m1_eq, nI_add, nI_sub, nI_dec, nI_mul, nI_or, nI_and, nI_div, nI_mod, and_255, and_31, and_1, and_63, nI_shl, nI_shr, bI_F, bI_1, vp_T, cl_T, true_implies, false_implies, not_true_eq_false, not_false_eq_true, true_and, and_true, false_and, and_false, Bool.false_eq_true, Bool.true_eq_false, reduceCtorEq, implies_true]
        · simp (disch := omega) only [D_Row_append, q_lit, le_T, le_F, lt_T, lt_F, eq_T, eq_F, m1_lt, m1_le, lt_m1, le_m1, eq_m1, m1_eq, nI_add, nI_sub, nI_dec, nI_mul, nI_or, nI_and, nI_div, nI_mod, and_255, and_31, and_1, and_63, nI_shl, nI_shr, bI_F, bI_1, vp_T, cl_T, true_implies, false_implies, not_true_eq_false, not_false_eq_true, true_and, and_true, false_and, and_false, Bool.false_eq_true, Bool.true_eq_false, reduceCtorEq, implies_true]
        · simp only [img, List.length_append]; omega
    obtain ⟨E', C', O', f1, f2⟩ := hfin
    refine ⟨E', C', O', ⟨1, ?_⟩, f2⟩
    rw [hT]
    simp (disch := omega) only [T_ImageWriter_write, S_ImageWriter_write, B_ImageWriter_write_60, q_lit, le_T, le_F, lt_T, lt_F, eq_T, eq_F, m1_lt, m1_le, lt_m1, le_m1, eq_m1, m1_eq, nI_add, nI_sub, nI_dec, nI_mul, nI_or, nI_and, nI_div, nI_mod, and_255, and_31, and_1, and_63, nI_shl, nI_shr, bI_F, bI_1, vp_T, cl_T, true_implies, false_implies, not_true_eq_false, not_false_eq_true, true_and, and_true, false_and, and_false, Bool.false_eq_true, Bool.true_eq_false, reduceCtorEq, implies_true, q_lc_eq, q_lc_ge, q_lc_gt, q_lc_le, lN_or, lN_and, lN_shl, lN_shr, nI_L, lN_I, l_0]
    exact ⟨E1, C1, O1, a1, E2, C2, O2, b1, r, s1, E', C', O', f1, rfl, rfl, rfl⟩
termination_by bs.length - t
decreasing_by all_goals omega
theorem wr_write {N : Nat → Int64} {S BE : Nat → Int32} {BC T : Int32} {bs : List (List Nat)} (h : CB S BE BC T bs) {KW : Nat → Int64} {KT : Nat → Int32} {KC : Int32} {VW : Nat → Int64} {VT : Nat → Int32} {VC : Int32} {ns : List (List Nat)} {ks ws : List (List Nat × Nat)} (hw : WrOk N ns bs ks ws) (hk : CW 252 KW KT KC (codes ks)) (hv : CW 1275 VW VT VC (codes ws)) (hsum : (img0 ns bs ks ws).sum < 2147483648) {E : Nat → Int32} {C : Int32} {O : Bool} {c : Nat} (hc : C = nI c) (hc2 : c ≤ 3000) :
    ∃ E' C' O', D_ImageWriter_write 2550 252 1275 3000 N S BE BC KW KT KC VW VT VC T E C O E' C' O' ∧ RO E' C' O' (img ns bs ks ws) := by
  have h10 := h.2.1
  have hcut : D_Row_shorten 0 C O (nI 0) false := by
    rw [hc]
    simp (disch := omega) only [D_Row_shorten, q_lit, le_T, le_F, lt_T, lt_F, eq_T, eq_F, m1_lt, m1_le, lt_m1, le_m1, eq_m1, m1_eq, nI_add, nI_sub, nI_dec, nI_mul, nI_or, nI_and, nI_div, nI_mod, and_255, and_31, and_1, and_63, nI_shl, nI_shr, bI_F, bI_1, vp_T, cl_T, true_implies, false_implies, not_true_eq_false, not_false_eq_true, true_and, and_true, false_and, and_false, Bool.false_eq_true, Bool.true_eq_false, reduceCtorEq, implies_true]
  have h0 : RO E (nI 0) false [] := Or.inl ⟨rfl, rw_nil (by omega) E⟩
  obtain ⟨E1, C1, O1, a1, a2⟩ := ro_app h0 72
  obtain ⟨E2, C2, O2, b1, b2⟩ := ro_app a2 bs.length
  obtain ⟨E3, C3, O3, c1, c2⟩ := t_write0 h hw (KW := KW) (KT := KT) (KC := KC) (VW := VW) (VT := VT) (VC := VC) 0 (by omega) E2 C2 O2 (by simpa [hdr] using b2)
  obtain ⟨E', C', O', d1, d2⟩ := t_write1 h hw hk hv hsum 0 (by omega) E3 C3 O3 (by simpa [pks] using c1)
  obtain ⟨q, hq⟩ := c2 E' C' O' d1
  exact ⟨E', C', O', ⟨q, _, _, hcut, E1, C1, O1, a1, E2, C2, O2, by rw [h.1]; exact b1, by simpa [q_lit] using hq⟩, d2⟩
