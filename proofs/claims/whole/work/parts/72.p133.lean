/-! Pure: show, sign. -/
def ScI (SE : Nat → Int32) (SN : Int32) (PE : Nat → Int32) (PC : Int32) (A : Nat → Int32) (Ls W mW Lm : Int32) (Fr Sz : Nat → Int32) (Sh : Int32) (Tx : Nat → Int32) : Prop :=
  ∃ ln w, q_SC SE SN A Ls ln ∧ q_SM Lm Fr Sz Sh Tx ln ∧ (ln = [] ∨ (W = nI w ∧ mW = nI w ∧ w ≤ 40)) ∧ ∃ pt, Rw 1024 PE PC pt
theorem pr_show {bbN : Nat → Int64} {bbS bbBE : Nat → Int32} {bbBC : Int32} {bbKW : Nat → Int64} {bbKT : Nat → Int32} {bbKC : Int32} {bbVW : Nat → Int64} {bbVT : Nat → Int32} {bbVC bbT sT : Int32} {q_sN sB sL : Nat → Int32} {sK : Int32} {sKL sKG sKB : Nat → Int32} {sW : Int32} {sWL sWG sWB : Nat → Int32} {ns bs : List (List Nat)} {ks : q_M2} (h : q_OC bbN bbS bbBE bbBC bbKW bbKT bbKC bbVW bbVT bbVC bbT sT q_sN sB sL sK sKL sKG sKB sW sWL sWG sWB ns bs ks) {tp : Nat} (htp : tp < bs.length) {SE : Nat → Int32} {SN : Int32} {PE : Nat → Int32} {PC : Int32} {A : Nat → Int32} {Ls W mW Lm : Int32} {Fr Sz : Nat → Int32} {Sh : Int32} {Tx : Nat → Int32} (hs : ScI SE SN PE PC A Ls W mW Lm Fr Sz Sh Tx) (a th : Int32) (SO PO : Bool) (PL : Int32) (P : Nat → Int32) :
    (∃ r SE' SN' SO' PE' PC' PO' A' W' mW' Fr' Sz' Sh' Tx' PL' P', D_HelpFile_show 1024 1024 2550 a true (nI tp) SE SN SO PE PC PO A Ls W bbN bbS bbBE bbBC bbT r SE' SN' SO' PE' PC' PO' A' r W' ∧ D_Model_show a th true q_sN sB sL (nI tp) mW Lm Fr Sz Sh Tx PL P r (nI 0) mW' r Fr' Sz' Sh' Tx' PL' P' ∧ ScI SE' SN' PE' PC' A' r W' mW' r Fr' Sz' Sh' Tx') ∨
    (X_HelpFile_show a true "java/lang/IllegalArgumentException" ∧ D_Model_show a th true q_sN sB sL (nI tp) mW Lm Fr Sz Sh Tx PL P (nI 0) (nI 2) mW Lm Fr Sz Sh Tx PL P) := by
  obtain ⟨h1, h2, h3, h4⟩ := h
  have h10 := h1.2.2.1
  have bad : D_Model_in a (nI 4) (nI 40) false → D_Model_show a th true q_sN sB sL (nI tp) mW Lm Fr Sz Sh Tx PL P (nI 0) (nI 2) mW Lm Fr Sz Sh Tx PL P := by
    intro hin
    refine ⟨0, ?_⟩
    simp (disch := omega) only [q_lit, le_T, le_F, lt_T, lt_F, eq_T, eq_F, m1_lt, m1_le, lt_m1, le_m1, eq_m1, m1_eq, nI_add, nI_sub, nI_dec, nI_mul, nI_or, nI_and, nI_div, nI_mod, and_255, and_31, and_1, and_63, nI_shl, nI_shr, bI_F, bI_1, vp_T, cl_T, true_implies, false_implies, not_true_eq_false, not_false_eq_true, true_and, and_true, false_and, and_false, Bool.false_eq_true, Bool.true_eq_false, reduceCtorEq, implies_true]
    refine ⟨_, hin, ?_⟩
    simp (disch := omega) only [q_lit, le_T, le_F, lt_T, lt_F, eq_T, eq_F, m1_lt, m1_le, lt_m1, le_m1, eq_m1, m1_eq, nI_add, nI_sub, nI_dec, nI_mul, nI_or, nI_and, nI_div, nI_mod, and_255, and_31, and_1, and_63, nI_shl, nI_shr, bI_F, bI_1, vp_T, cl_T, true_implies, false_implies, not_true_eq_false, not_false_eq_true, true_and, and_true, false_and, and_false, Bool.false_eq_true, Bool.true_eq_false, reduceCtorEq, implies_true]
    exact ⟨_, _, rf01 th, by simp (disch := omega) only [q_lit, le_T, le_F, lt_T, lt_F, eq_T, eq_F, m1_lt, m1_le, lt_m1, le_m1, eq_m1, m1_eq, nI_add, nI_sub, nI_dec, nI_mul, nI_or, nI_and, nI_div, nI_mod, and_255, and_31, and_1, and_63, nI_shl, nI_shr, bI_F, bI_1, vp_T, cl_T, true_implies, false_implies, not_true_eq_false, not_false_eq_true, true_and, and_true, false_and, and_false, Bool.false_eq_true, Bool.true_eq_false, reduceCtorEq, implies_true]⟩
  rcases sgn_cases a with ha | ⟨j, hj, rfl⟩
  · refine Or.inr ⟨Or.inl ⟨rq_T, fun _ => rfl, fun h9 => absurd ?_ h9⟩, bad (in_neg ha (by omega) _)⟩
    have := of_eq_true (neg_lt ha 4 (by omega)); simpa only [q_lit] using this
  · have hin := mo_in (x := j) (a := 4) (b := 40) hj (by omega) (by omega)
    by_cases hw : 4 ≤ j ∧ j ≤ 40
    · rw [decide_eq_true hw.1, decide_eq_true hw.2, Bool.true_and] at hin
      obtain ⟨ln, w, s1, s2, s3, pt, s4⟩ := hs
      have hb := (h1.2.2.2.2.2.1 tp htp).1
      let X : q_ShC := ⟨bbN, bbS, bbBE, bbBC, bbT, q_sN, sB, sL, true, nI 0, tp, j⟩
      have hX : ShH X ns bs := ⟨h2.1, h4.2.2.1, htp, h1.1, hw.1, hw.2, fun t ht => by
        have hn := h1.2.2.2.1 _ (bd_mem (show t < ns.length by rw [h1.1]; exact ht))
        exact ⟨h2.2.2.1 t ht, hn.1, hn.2.1, fun k hk => h4.2.1 t (by rw [h1.1]; exact ht) k hk⟩⟩
      have hSC0 : q_SC SE (nI 0) A (nI 0) [] := ⟨rw_nil (by decide) _, rfl, by simp, fun i hi => by simp at hi⟩
      have hSM0 : q_SM (nI 0) Fr Sz (nI 0) Tx [] := ⟨rw_nil (by decide) _, rfl, by simp, fun i hi => by simp at hi⟩
      obtain ⟨l2, SE', SN', SO', PE', PC', PO', A', Ls', Lm', Fr', Sz', Sh', Tx', PL', P', ⟨m1, c1⟩, ⟨m2, c2⟩, c3, c4, c5⟩ := sh_all hX 0 10 false true true SE (nI 0) false PE (nI 0) false A (nI 0) (nI 0) Fr Sz (nI 0) Tx (nI 0) P [] (by omega) (by simpa using hb) (rw_nil (by decide) _) (rw_nil (by decide) _) (Or.inl ⟨rfl, rfl, rfl, rfl, [], hSC0, hSM0, by simp, by simp, fun h9 => absurd rfl h9⟩)
      have hLs : Ls' = Lm' := by rw [c3.2.1, c4.2.1]
      subst hLs
      refine Or.inl ⟨Ls', SE', SN', SO', PE', PC', PO', A', nI j, nI j, Fr', Sz', Sh', Tx', PL', P', ⟨rq_T, ?_⟩, ⟨m2 + 1, ?_⟩, l2, j, c3, c4, Or.inr ⟨rfl, rfl, hw.2⟩, [], c5⟩
      · simp (disch := omega) only [q_lit, le_T, le_F, lt_T, lt_F, eq_T, eq_F, m1_lt, m1_le, lt_m1, le_m1, eq_m1, m1_eq, nI_add, nI_sub, nI_dec, nI_mul, nI_or, nI_and, nI_div, nI_mod, and_255, and_31, and_1, and_63, nI_shl, nI_shr, bI_F, bI_1, vp_T, cl_T, true_implies, false_implies, not_true_eq_false, not_false_eq_true, true_and, and_true, false_and, and_false, Bool.false_eq_true, Bool.true_eq_false, reduceCtorEq, implies_true]
        refine ⟨_, _, _, _, _, _, _, _, _, ⟨m1, _, _, row_clr s1.1 SO, _, _, row_clr s4 PO, _, cb_start h2.1 htp, ?_⟩, rfl, rfl, rfl, rfl, rfl, rfl, rfl, rfl, rfl, rfl⟩
        simpa only [q_lit, Nat.add_zero] using c1
      · simp (disch := omega) only [q_lit, le_T, le_F, lt_T, lt_F, eq_T, eq_F, m1_lt, m1_le, lt_m1, le_m1, eq_m1, m1_eq, nI_add, nI_sub, nI_dec, nI_mul, nI_or, nI_and, nI_div, nI_mod, and_255, and_31, and_1, and_63, nI_shl, nI_shr, bI_F, bI_1, vp_T, cl_T, true_implies, false_implies, not_true_eq_false, not_false_eq_true, true_and, and_true, false_and, and_false, Bool.false_eq_true, Bool.true_eq_false, reduceCtorEq, implies_true]
        refine ⟨_, hin, ?_⟩
        simp (disch := omega) only [q_lit, le_T, le_F, lt_T, lt_F, eq_T, eq_F, m1_lt, m1_le, lt_m1, le_m1, eq_m1, m1_eq, nI_add, nI_sub, nI_dec, nI_mul, nI_or, nI_and, nI_div, nI_mod, and_255, and_31, and_1, and_63, nI_shl, nI_shr, bI_F, bI_1, vp_T, cl_T, true_implies, false_implies, not_true_eq_false, not_false_eq_true, true_and, and_true, false_and, and_false, Bool.false_eq_true, Bool.true_eq_false, reduceCtorEq, implies_true]
        refine ⟨_, _, rf00 th, ?_⟩
        simp (disch := omega) only [q_lit, le_T, le_F, lt_T, lt_F, eq_T, eq_F, m1_lt, m1_le, lt_m1, le_m1, eq_m1, m1_eq, nI_add, nI_sub, nI_dec, nI_mul, nI_or, nI_and, nI_div, nI_mod, and_255, and_31, and_1, and_63, nI_shl, nI_shr, bI_F, bI_1, vp_T, cl_T, true_implies, false_implies, not_true_eq_false, not_false_eq_true, true_and, and_true, false_and, and_false, Bool.false_eq_true, Bool.true_eq_false, reduceCtorEq, implies_true]
        rw [T_Model_show]
        simp (disch := omega) only [S_Model_show, B_Model_show_43, q_lit, le_T, le_F, lt_T, lt_F, eq_T, eq_F, m1_lt, m1_le, lt_m1, le_m1, eq_m1, m1_eq, nI_add, nI_sub, nI_dec, nI_mul, nI_or, nI_and, nI_div, nI_mod, and_255, and_31, and_1, and_63, nI_shl, nI_shr, bI_F, bI_1, vp_T, cl_T, true_implies, false_implies, not_true_eq_false, not_false_eq_true, true_and, and_true, false_and, and_false, Bool.false_eq_true, Bool.true_eq_false, reduceCtorEq, implies_true]
        exact c2
    · have hf : (decide (4 ≤ j) && decide (j ≤ 40)) = false := by
        simp only [Bool.and_eq_false_iff, decide_eq_false_iff_not]; omega
      rw [hf] at hin
      refine Or.inr ⟨Or.inl ⟨rq_T, ?_⟩, bad hin⟩
      by_cases h4 : j < 4
      · simp (disch := omega) only [q_lit, le_T, le_F, lt_T, lt_F, eq_T, eq_F, m1_lt, m1_le, lt_m1, le_m1, eq_m1, m1_eq, nI_add, nI_sub, nI_dec, nI_mul, nI_or, nI_and, nI_div, nI_mod, and_255, and_31, and_1, and_63, nI_shl, nI_shr, bI_F, bI_1, vp_T, cl_T, true_implies, false_implies, not_true_eq_false, not_false_eq_true, true_and, and_true, false_and, and_false, Bool.false_eq_true, Bool.true_eq_false, reduceCtorEq, implies_true]
      · simp (disch := omega) only [q_lit, le_T, le_F, lt_T, lt_F, eq_T, eq_F, m1_lt, m1_le, lt_m1, le_m1, eq_m1, m1_eq, nI_add, nI_sub, nI_dec, nI_mul, nI_or, nI_and, nI_div, nI_mod, and_255, and_31, and_1, and_63, nI_shl, nI_shr, bI_F, bI_1, vp_T, cl_T, true_implies, false_implies, not_true_eq_false, not_false_eq_true, true_and, and_true, false_and, and_false, Bool.false_eq_true, Bool.true_eq_false, reduceCtorEq, implies_true]
theorem pr_showC {a th mT mW Lm : Int32} {q_sN sB sL Fr Sz : Nat → Int32} {Sh : Int32} {Tx : Nat → Int32} {PL : Int32} {P : Nat → Int32} : X_HelpFile_show a false "java/lang/IllegalStateException" ∧ D_Model_show a th false q_sN sB sL mT mW Lm Fr Sz Sh Tx PL P (nI 0) (nI 1) mW Lm Fr Sz Sh Tx PL P := by
  refine ⟨Or.inr rq_X, 0, ?_⟩
  simp (disch := omega) only [q_lit, le_T, le_F, lt_T, lt_F, eq_T, eq_F, m1_lt, m1_le, lt_m1, le_m1, eq_m1, m1_eq, nI_add, nI_sub, nI_dec, nI_mul, nI_or, nI_and, nI_div, nI_mod, and_255, and_31, and_1, and_63, nI_shl, nI_shr, bI_F, bI_1, vp_T, cl_T, true_implies, false_implies, not_true_eq_false, not_false_eq_true, true_and, and_true, false_and, and_false, Bool.false_eq_true, Bool.true_eq_false, reduceCtorEq, implies_true]
  exact ⟨_, _, rf10 th, by simp (disch := omega) only [q_lit, le_T, le_F, lt_T, lt_F, eq_T, eq_F, m1_lt, m1_le, lt_m1, le_m1, eq_m1, m1_eq, nI_add, nI_sub, nI_dec, nI_mul, nI_or, nI_and, nI_div, nI_mod, and_255, and_31, and_1, and_63, nI_shl, nI_shr, bI_F, bI_1, vp_T, cl_T, true_implies, false_implies, not_true_eq_false, not_false_eq_true, true_and, and_true, false_and, and_false, Bool.false_eq_true, Bool.true_eq_false, reduceCtorEq, implies_true]⟩
theorem pr_sign {SE : Nat → Int32} {SN : Int32} {PE : Nat → Int32} {PC : Int32} {A : Nat → Int32} {Ls W mW Lm : Int32} {Fr Sz : Nat → Int32} {Sh : Int32} {Tx : Nat → Int32} (hs : ScI SE SN PE PC A Ls W mW Lm Fr Sz Sh Tx) (a b th : Int32) :
    (∃ r, D_HelpFile_sign 1024 a b SE SN A Ls W r ∧ D_Model_sign a b th mW Lm Fr Sz Tx r (nI 0)) ∨ (X_HelpFile_sign 1024 a b SE SN A Ls W "java/lang/IndexOutOfBoundsException" ∧ D_Model_sign a b th mW Lm Fr Sz Tx (nI 0) (nI 1)) := by
  obtain ⟨ln, w, s1, s2, s3, _⟩ := hs
  obtain ⟨a1, a2, a3, a4⟩ := s1
  obtain ⟨b1, b2, b3, b4⟩ := s2
  have bad1 : D_Model_in a (nI 0) (Lm - nI 1) false → D_Model_sign a b th mW Lm Fr Sz Tx (nI 0) (nI 1) := by
    intro hin
    refine ⟨0, _, by simpa only [q_lit] using hin, ?_⟩
    simp (disch := omega) only [q_lit, le_T, le_F, lt_T, lt_F, eq_T, eq_F, m1_lt, m1_le, lt_m1, le_m1, eq_m1, m1_eq, nI_add, nI_sub, nI_dec, nI_mul, nI_or, nI_and, nI_div, nI_mod, and_255, and_31, and_1, and_63, nI_shl, nI_shr, bI_F, bI_1, vp_T, cl_T, true_implies, false_implies, not_true_eq_false, not_false_eq_true, true_and, and_true, false_and, and_false, Bool.false_eq_true, Bool.true_eq_false, reduceCtorEq, implies_true]
    exact ⟨_, _, rf10 th, by simp (disch := omega) only [q_lit, le_T, le_F, lt_T, lt_F, eq_T, eq_F, m1_lt, m1_le, lt_m1, le_m1, eq_m1, m1_eq, nI_add, nI_sub, nI_dec, nI_mul, nI_or, nI_and, nI_div, nI_mod, and_255, and_31, and_1, and_63, nI_shl, nI_shr, bI_F, bI_1, vp_T, cl_T, true_implies, false_implies, not_true_eq_false, not_false_eq_true, true_and, and_true, false_and, and_false, Bool.false_eq_true, Bool.true_eq_false, reduceCtorEq, implies_true]⟩
  have bad2 : D_Model_in a (nI 0) (Lm - nI 1) true → D_Model_in b (nI 0) (mW - nI 1) false → D_Model_sign a b th mW Lm Fr Sz Tx (nI 0) (nI 1) := by
    intro hin hin2
    refine ⟨0, _, by simpa only [q_lit] using hin, ?_⟩
    simp (disch := omega) only [q_lit, le_T, le_F, lt_T, lt_F, eq_T, eq_F, m1_lt, m1_le, lt_m1, le_m1, eq_m1, m1_eq, nI_add, nI_sub, nI_dec, nI_mul, nI_or, nI_and, nI_div, nI_mod, and_255, and_31, and_1, and_63, nI_shl, nI_shr, bI_F, bI_1, vp_T, cl_T, true_implies, false_implies, not_true_eq_false, not_false_eq_true, true_and, and_true, false_and, and_false, Bool.false_eq_true, Bool.true_eq_false, reduceCtorEq, implies_true]
    refine ⟨_, hin2, ?_⟩
    simp (disch := omega) only [q_lit, le_T, le_F, lt_T, lt_F, eq_T, eq_F, m1_lt, m1_le, lt_m1, le_m1, eq_m1, m1_eq, nI_add, nI_sub, nI_dec, nI_mul, nI_or, nI_and, nI_div, nI_mod, and_255, and_31, and_1, and_63, nI_shl, nI_shr, bI_F, bI_1, vp_T, cl_T, true_implies, false_implies, not_true_eq_false, not_false_eq_true, true_and, and_true, false_and, and_false, Bool.false_eq_true, Bool.true_eq_false, reduceCtorEq, implies_true]
    exact ⟨_, _, rf10 th, by simp (disch := omega) only [q_lit, le_T, le_F, lt_T, lt_F, eq_T, eq_F, m1_lt, m1_le, lt_m1, le_m1, eq_m1, m1_eq, nI_add, nI_sub, nI_dec, nI_mul, nI_or, nI_and, nI_div, nI_mod, and_255, and_31, and_1, and_63, nI_shl, nI_shr, bI_F, bI_1, vp_T, cl_T, true_implies, false_implies, not_true_eq_false, not_false_eq_true, true_and, and_true, false_and, and_false, Bool.false_eq_true, Bool.true_eq_false, reduceCtorEq, implies_true]⟩
  rcases sgn_cases a with ha | ⟨i, hi, rfl⟩
  · exact Or.inr ⟨⟨fun _ => rfl, fun h9 => absurd ha h9⟩, bad1 (in_neg ha (by omega) _)⟩
  · have hin := in_pre (j := i) (n := ln.length) hi (by omega)
    rw [← b2] at hin
    by_cases hl : i < ln.length
    · rw [decide_eq_true hl] at hin
      have hw : W = nI w ∧ mW = nI w ∧ w ≤ 40 := by
        rcases s3 with h | h
        · rw [h] at hl; simp at hl
        · exact h
      obtain ⟨rfl, rfl, hw40⟩ := hw
      rcases sgn_cases b with hb | ⟨j, hj, rfl⟩
      · refine Or.inr ⟨?_, bad2 hin (in_neg hb (by omega) _)⟩
        unfold X_HelpFile_sign
        rw [a2]
        simp (disch := omega) only [q_lit, le_T, le_F, lt_T, lt_F, eq_T, eq_F, m1_lt, m1_le, lt_m1, le_m1, eq_m1, m1_eq, nI_add, nI_sub, nI_dec, nI_mul, nI_or, nI_and, nI_div, nI_mod, and_255, and_31, and_1, and_63, nI_shl, nI_shr, bI_F, bI_1, vp_T, cl_T, true_implies, false_implies, not_true_eq_false, not_false_eq_true, true_and, and_true, false_and, and_false, Bool.false_eq_true, Bool.true_eq_false, reduceCtorEq, implies_true]
        exact fun h9 => absurd (by simpa only [q_lit] using hb) h9
      · have hin2 := in_pre (j := j) (n := w) hj (by omega)
        by_cases hjw : j < w
        · rw [decide_eq_true hjw] at hin2
          have e1 := a4 i hl
          obtain ⟨e2, e3⟩ := b4 i hl
          have hof := off_succ hl
          have hoe := off_end hl
          have hfl := a1.2.1
          refine Or.inl ?_
          -- the class
          have hfin : ∀ r, (∃ q, T_Screen_shown 1024 SE SN A Ls r q (nI i) (nI j) (nI (q_off ln i + (bd ln i).length))) → D_HelpFile_sign 1024 (nI i) (nI j) SE SN A Ls (nI w) r := by
            intro r hq
            obtain ⟨q, hq⟩ := hq
            unfold D_HelpFile_sign
            rw [a2] at hq ⊢
            simp (disch := omega) only [q_lit, le_T, le_F, lt_T, lt_F, eq_T, eq_F, m1_lt, m1_le, lt_m1, le_m1, eq_m1, m1_eq, nI_add, nI_sub, nI_dec, nI_mul, nI_or, nI_and, nI_div, nI_mod, and_255, and_31, and_1, and_63, nI_shl, nI_shr, bI_F, bI_1, vp_T, cl_T, true_implies, false_implies, not_true_eq_false, not_false_eq_true, true_and, and_true, false_and, and_false, Bool.false_eq_true, Bool.true_eq_false, reduceCtorEq, implies_true]
            refine ⟨_, ⟨q, ?_⟩, rfl⟩
            by_cases hlast : i + 1 < ln.length
            · have e4 := a4 (i + 1) hlast
              rw [hof] at e4
              simp (disch := omega) only [e4, q_lit, le_T, le_F, lt_T, lt_F, eq_T, eq_F, m1_lt, m1_le, lt_m1, le_m1, eq_m1, m1_eq, nI_add, nI_sub, nI_dec, nI_mul, nI_or, nI_and, nI_div, nI_mod, and_255, and_31, and_1, and_63, nI_shl, nI_shr, bI_F, bI_1, vp_T, cl_T, true_implies, false_implies, not_true_eq_false, not_false_eq_true, true_and, and_true, false_and, and_false, Bool.false_eq_true, Bool.true_eq_false, reduceCtorEq, implies_true]
              exact hq
            · have : q_off ln i + (bd ln i).length = ln.flatten.length := by rw [← hof, show i + 1 = ln.length by omega, off_all]
              rw [this] at hq
              rw [a1.1] at hq ⊢
              simp (disch := omega) only [q_lit, le_T, le_F, lt_T, lt_F, eq_T, eq_F, m1_lt, m1_le, lt_m1, le_m1, eq_m1, m1_eq, nI_add, nI_sub, nI_dec, nI_mul, nI_or, nI_and, nI_div, nI_mod, and_255, and_31, and_1, and_63, nI_shl, nI_shr, bI_F, bI_1, vp_T, cl_T, true_implies, false_implies, not_true_eq_false, not_false_eq_true, true_and, and_true, false_and, and_false, Bool.false_eq_true, Bool.true_eq_false, reduceCtorEq, implies_true]
              exact hq
          have hmod : ∀ r, T_Model_sign (nI w) Lm Fr Sz Tx r (nI 0) 1 (nI i) (nI j) (nI 0) → D_Model_sign (nI i) (nI j) th (nI w) Lm Fr Sz Tx r (nI 0) := by
            intro r hr
            refine ⟨1, _, by simpa only [q_lit] using hin, ?_⟩
            simp (disch := omega) only [q_lit, le_T, le_F, lt_T, lt_F, eq_T, eq_F, m1_lt, m1_le, lt_m1, le_m1, eq_m1, m1_eq, nI_add, nI_sub, nI_dec, nI_mul, nI_or, nI_and, nI_div, nI_mod, and_255, and_31, and_1, and_63, nI_shl, nI_shr, bI_F, bI_1, vp_T, cl_T, true_implies, false_implies, not_true_eq_false, not_false_eq_true, true_and, and_true, false_and, and_false, Bool.false_eq_true, Bool.true_eq_false, reduceCtorEq, implies_true]
            refine ⟨_, by rw [← nI_sub (by omega)]; exact hin2, ?_⟩
            simp (disch := omega) only [q_lit, le_T, le_F, lt_T, lt_F, eq_T, eq_F, m1_lt, m1_le, lt_m1, le_m1, eq_m1, m1_eq, nI_add, nI_sub, nI_dec, nI_mul, nI_or, nI_and, nI_div, nI_mod, and_255, and_31, and_1, and_63, nI_shl, nI_shr, bI_F, bI_1, vp_T, cl_T, true_implies, false_implies, not_true_eq_false, not_false_eq_true, true_and, and_true, false_and, and_false, Bool.false_eq_true, Bool.true_eq_false, reduceCtorEq, implies_true]
            refine ⟨_, _, rf00 th, ?_⟩
            simp (disch := omega) only [q_lit, le_T, le_F, lt_T, lt_F, eq_T, eq_F, m1_lt, m1_le, lt_m1, le_m1, eq_m1, m1_eq, nI_add, nI_sub, nI_dec, nI_mul, nI_or, nI_and, nI_div, nI_mod, and_255, and_31, and_1, and_63, nI_shl, nI_shr, bI_F, bI_1, vp_T, cl_T, true_implies, false_implies, not_true_eq_false, not_false_eq_true, true_and, and_true, false_and, and_false, Bool.false_eq_true, Bool.true_eq_false, reduceCtorEq, implies_true]
            exact hr
          by_cases hjl : j < (bd ln i).length
          · have hel := row_el a1 (k := q_off ln i + j) (by omega)
            have e5 := b1.2.2.2 (q_off ln i + j) (by omega)
            refine ⟨nI (ln.flatten.getD (q_off ln i + j) 0), hfin _ ⟨1, ?_⟩, hmod _ ?_⟩
            · simp (disch := omega) only [T_Screen_shown, S_Screen_shown, B_Screen_shown_47, e1, Nat.add_sub_cancel_left, q_lit, le_T, le_F, lt_T, lt_F, eq_T, eq_F, m1_lt, m1_le, lt_m1, le_m1, eq_m1, m1_eq, nI_add, nI_sub, nI_dec, nI_mul, nI_or, nI_and, nI_div, nI_mod, and_255, and_31, and_1, and_63, nI_shl, nI_shr, bI_F, bI_1, vp_T, cl_T, true_implies, false_implies, not_true_eq_false, not_false_eq_true, true_and, and_true, false_and, and_false, Bool.false_eq_true, Bool.true_eq_false, reduceCtorEq, implies_true, q_lc_eq, q_lc_ge, q_lc_gt, q_lc_le, lN_or, lN_and, lN_shl, lN_shr, nI_L, lN_I, l_0]
              exact ⟨_, hel, rfl⟩
            · have hfl2 := b1.2.1
              simp (disch := omega) only [T_Model_sign, S_Model_sign, B_Model_sign_43, e2, e3, e5, q_lit, le_T, le_F, lt_T, lt_F, eq_T, eq_F, m1_lt, m1_le, lt_m1, le_m1, eq_m1, m1_eq, nI_add, nI_sub, nI_dec, nI_mul, nI_or, nI_and, nI_div, nI_mod, and_255, and_31, and_1, and_63, nI_shl, nI_shr, bI_F, bI_1, vp_T, cl_T, true_implies, false_implies, not_true_eq_false, not_false_eq_true, true_and, and_true, false_and, and_false, Bool.false_eq_true, Bool.true_eq_false, reduceCtorEq, implies_true, q_lc_eq, q_lc_ge, q_lc_gt, q_lc_le, lN_or, lN_and, lN_shl, lN_shr, nI_L, lN_I, l_0]
          · refine ⟨nI 0, hfin _ ⟨1, ?_⟩, hmod _ ?_⟩
            · simp (disch := omega) only [T_Screen_shown, S_Screen_shown, B_Screen_shown_47, e1, Nat.add_sub_cancel_left, q_lit, le_T, le_F, lt_T, lt_F, eq_T, eq_F, m1_lt, m1_le, lt_m1, le_m1, eq_m1, m1_eq, nI_add, nI_sub, nI_dec, nI_mul, nI_or, nI_and, nI_div, nI_mod, and_255, and_31, and_1, and_63, nI_shl, nI_shr, bI_F, bI_1, vp_T, cl_T, true_implies, false_implies, not_true_eq_false, not_false_eq_true, true_and, and_true, false_and, and_false, Bool.false_eq_true, Bool.true_eq_false, reduceCtorEq, implies_true, q_lc_eq, q_lc_ge, q_lc_gt, q_lc_le, lN_or, lN_and, lN_shl, lN_shr, nI_L, lN_I, l_0]
            · simp (disch := omega) only [T_Model_sign, S_Model_sign, B_Model_sign_43, e2, e3, q_lit, le_T, le_F, lt_T, lt_F, eq_T, eq_F, m1_lt, m1_le, lt_m1, le_m1, eq_m1, m1_eq, nI_add, nI_sub, nI_dec, nI_mul, nI_or, nI_and, nI_div, nI_mod, and_255, and_31, and_1, and_63, nI_shl, nI_shr, bI_F, bI_1, vp_T, cl_T, true_implies, false_implies, not_true_eq_false, not_false_eq_true, true_and, and_true, false_and, and_false, Bool.false_eq_true, Bool.true_eq_false, reduceCtorEq, implies_true, q_lc_eq, q_lc_ge, q_lc_gt, q_lc_le, lN_or, lN_and, lN_shl, lN_shr, nI_L, lN_I, l_0]
        · rw [decide_eq_false hjw] at hin2
          refine Or.inr ⟨?_, bad2 hin hin2⟩
          unfold X_HelpFile_sign
          rw [a2]
          simp (disch := omega) only [q_lit, le_T, le_F, lt_T, lt_F, eq_T, eq_F, m1_lt, m1_le, lt_m1, le_m1, eq_m1, m1_eq, nI_add, nI_sub, nI_dec, nI_mul, nI_or, nI_and, nI_div, nI_mod, and_255, and_31, and_1, and_63, nI_shl, nI_shr, bI_F, bI_1, vp_T, cl_T, true_implies, false_implies, not_true_eq_false, not_false_eq_true, true_and, and_true, false_and, and_false, Bool.false_eq_true, Bool.true_eq_false, reduceCtorEq, implies_true]
    · rw [decide_eq_false hl] at hin
      refine Or.inr ⟨?_, bad1 hin⟩
      unfold X_HelpFile_sign
      rw [a2]
      simp (disch := omega) only [q_lit, le_T, le_F, lt_T, lt_F, eq_T, eq_F, m1_lt, m1_le, lt_m1, le_m1, eq_m1, m1_eq, nI_add, nI_sub, nI_dec, nI_mul, nI_or, nI_and, nI_div, nI_mod, and_255, and_31, and_1, and_63, nI_shl, nI_shr, bI_F, bI_1, vp_T, cl_T, true_implies, false_implies, not_true_eq_false, not_false_eq_true, true_and, and_true, false_and, and_false, Bool.false_eq_true, Bool.true_eq_false, reduceCtorEq, implies_true]
