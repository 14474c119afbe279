/-! Pure: jump, follow, go, about. -/
theorem lnks_lt {tn : Nat} (n : Nat) : ∀ (b : List Nat) (bf : Nat) (em : Bool), b.length ≤ n → bOk tn bf em b = true → ∀ x ∈ lnks b, x < tn := by
  induction n with
  | zero =>
    intro b bf em hb h x hx
    cases b with
    | nil => simp [lnks] at hx
    | cons x r => simp at hb
  | succ n ih =>
    intro b bf em hb h x hx
    cases b with
    | nil => simp [lnks] at hx
    | cons y r =>
      simp only [List.length_cons] at hb
      rw [bOk_cons] at h
      by_cases h1 : y = 1
      · rw [if_pos h1] at h
        have e : lnks (y :: r) = lnks r := by
          cases r with
          | nil => rw [h1]; rfl
          | cons z r' => rw [h1]; simp [lnks]
        rw [e] at hx
        exact ih r _ _ (by omega) h x hx
      · rw [if_neg h1] at h
        by_cases h2 : y = 2
        · rw [if_pos h2] at h
          cases r with
          | nil => cases h
          | cons t r' =>
            simp only [Bool.and_eq_true, decide_eq_true_eq, List.length_cons] at h hb
            have e : lnks (y :: t :: r') = t :: lnks r' := by rw [h2]; simp [lnks]
            rw [e] at hx
            simp only [List.mem_cons] at hx
            rcases hx with hx | hx
            · rw [hx]; exact h.1
            · exact ih r' _ _ (by omega) h.2 x hx
        · rw [if_neg h2] at h
          simp only [Bool.and_eq_true] at h
          have e : lnks (y :: r) = lnks r := by
            cases r with
            | nil => simp [lnks]
            | cons z r' => simp [lnks, h2]
          rw [e] at hx
          exact ih r _ _ (by omega) h.2 x hx
theorem lkTo_or (k : Int32) (l : List Nat) : lkTo k l = -nI 1 ∨ ∃ t ∈ l, lkTo k l = nI t := by
  induction l generalizing k with
  | nil => exact Or.inl rfl
  | cons t r ih =>
    rw [lkTo]
    split
    · exact Or.inr ⟨t, by simp, rfl⟩
    · rcases ih (k + -nI 1) with h | ⟨u, h1, h2⟩
      · exact Or.inl h
      · exact Or.inr ⟨u, by simp [h1], h2⟩
/-- what is open on both sides -/
def q_OC (bbN : Nat → Int64) (bbS bbBE : Nat → Int32) (bbBC : Int32) (bbKW : Nat → Int64) (bbKT : Nat → Int32) (bbKC : Int32) (bbVW : Nat → Int64) (bbVT : Nat → Int32) (bbVC bbT : Int32) (sT : Int32) (q_sN sB sL : Nat → Int32) (sK : Int32) (sKL sKG sKB : Nat → Int32) (sW : Int32) (sWL sWG sWB : Nat → Int32) (ns bs : List (List Nat)) (ks : q_M2) : Prop :=
  VB ns bs ks ∧ q_DB bbN bbS bbBE bbBC bbKW bbKT bbKC bbT ns bs ks ∧ CW 1275 bbVW bbVT bbVC (codes (gwA bs 0 [])) ∧ SeenOk sT q_sN sB sL sK sKL sKG sKB sW sWL sWG sWB ns bs ks
def q_VI (n : Nat) (BE : Nat → Int32) (BC : Int32) (FE : Nat → Int32) (FC T mT mC : Int32) (mB : Nat → Int32) (mFC : Int32) (mF : Nat → Int32) : Prop :=
  ∃ Bk Fw tp, Rw 16 BE BC Bk ∧ Rw 16 mB mC Bk ∧ Rw 16 FE FC Fw ∧ Rw 16 mF mFC Fw ∧ T = nI tp ∧ mT = nI tp ∧ tp < n ∧ (∀ x ∈ Bk, x < n) ∧ ∀ x ∈ Fw, x < n
theorem rq_T : D_HelpFile_requireOpen true := ⟨fun h => by simp [bI] at h, fun _ => trivial⟩
theorem rq_X : X_HelpFile_requireOpen false "java/lang/IllegalStateException" := ⟨fun _ => rfl, fun h => absurd rfl h⟩
/-- a visit on both sides -/
theorem vi_both {n : Nat} {BE : Nat → Int32} {BC : Int32} {FE : Nat → Int32} {FC T mT mC : Int32} {mB : Nat → Int32} {mFC : Int32} {mF : Nat → Int32} (hv : q_VI n BE BC FE FC T mT mC mB mFC mF) {k : Nat} (hk : k < n) (BO FO : Bool) :
    ∃ BE' BC' BO' mB' mC', D_Visits_visit 16 (nI k) BE BC BO FC FO T BE' BC' BO' (nI 0) false (nI k) ∧ D_Model_visit (nI k) mT mC mB mFC (nI k) mC' mB' (nI 0) ∧ q_VI n BE' BC' FE (nI 0) (nI k) (nI k) mC' mB' (nI 0) mF := by
  obtain ⟨Bk, Fw, tp, h1, h2, h3, h4, rfl, rfl, h7, h8, h9⟩ := hv
  obtain ⟨BE', BC', BO', a1, a2⟩ := vi_visit h1 h3 BO FO tp k
  obtain ⟨mB', mC', b1, b2⟩ := mo_visit h2 tp mFC k
  exact ⟨BE', BC', BO', mB', mC', a1, b1, psh Bk tp, [], k, a2, b2, rw_nil (by decide) _, rw_nil (by decide) _, rfl, rfl, hk, psh_lt h8 h7, fun x hx => by simp at hx⟩
theorem pr_jump {bbN : Nat → Int64} {bbS bbBE : Nat → Int32} {bbBC : Int32} {bbKW : Nat → Int64} {bbKT : Nat → Int32} {bbKC : Int32} {bbVW : Nat → Int64} {bbVT : Nat → Int32} {bbVC bbT sT : Int32} {q_sN sB sL : Nat → Int32} {sK : Int32} {sKL sKG sKB : Nat → Int32} {sW : Int32} {sWL sWG sWB : Nat → Int32} {ns bs : List (List Nat)} {ks : q_M2} (h : q_OC bbN bbS bbBE bbBC bbKW bbKT bbKC bbVW bbVT bbVC bbT sT q_sN sB sL sK sKL sKG sKB sW sWL sWG sWB ns bs ks) {BE : Nat → Int32} {BC : Int32} {FE : Nat → Int32} {FC T mT mC : Int32} {mB : Nat → Int32} {mFC : Int32} {mF : Nat → Int32} (hv : q_VI bs.length BE BC FE FC T mT mC mB mFC mF) (a th : Int32) (BO FO : Bool) :
    (∃ k BE' BC' BO' mB' mC', D_HelpFile_jump 16 a true BE BC BO FC FO T bbT BE' BC' BO' (nI 0) false (nI k) ∧ D_Model_jump a th true sT mT mC mB mFC (nI 0) (nI k) mC' mB' (nI 0) ∧ q_VI bs.length BE' BC' FE (nI 0) (nI k) (nI k) mC' mB' (nI 0) mF) ∨ (X_HelpFile_jump a true bbT "java/util/NoSuchElementException" ∧ D_Model_jump a th true sT mT mC mB mFC (nI 2) mT mC mB mFC) := by
  obtain ⟨h1, h2, h3, h4⟩ := h
  have hT : bbT = nI bs.length := h2.1.1
  have hsT : sT = nI bs.length := h4.1
  have h10 := h1.2.2.1
  have bad : D_Model_in a (nI 0) (sT - nI 1) false → D_Model_jump a th true sT mT mC mB mFC (nI 2) mT mC mB mFC := by
    intro hin
    refine ⟨0, ?_⟩
    simp (disch := omega) only [q_lit, le_T, le_F, lt_T, lt_F, eq_T, eq_F, m1_lt, m1_le, lt_m1, le_m1, eq_m1, m1_eq, nI_add, nI_sub, nI_dec, nI_mul, nI_or, nI_and, nI_div, nI_mod, and_255, and_31, and_1, and_63, nI_shl, nI_shr, bI_F, bI_1, vp_T, cl_T, true_implies, false_implies, not_true_eq_false, not_false_eq_true, true_and, and_true, false_and, and_false, Bool.false_eq_true, Bool.true_eq_false, reduceCtorEq, implies_true]
    refine ⟨_, hin, ?_⟩
    simp (disch := omega) only [q_lit, le_T, le_F, lt_T, lt_F, eq_T, eq_F, m1_lt, m1_le, lt_m1, le_m1, eq_m1, m1_eq, nI_add, nI_sub, nI_dec, nI_mul, nI_or, nI_and, nI_div, nI_mod, and_255, and_31, and_1, and_63, nI_shl, nI_shr, bI_F, bI_1, vp_T, cl_T, true_implies, false_implies, not_true_eq_false, not_false_eq_true, true_and, and_true, false_and, and_false, Bool.false_eq_true, Bool.true_eq_false, reduceCtorEq, implies_true]
    exact ⟨_, _, rf01 th, by simp (disch := omega) only [q_lit, le_T, le_F, lt_T, lt_F, eq_T, eq_F, m1_lt, m1_le, lt_m1, le_m1, eq_m1, m1_eq, nI_add, nI_sub, nI_dec, nI_mul, nI_or, nI_and, nI_div, nI_mod, and_255, and_31, and_1, and_63, nI_shl, nI_shr, bI_F, bI_1, vp_T, cl_T, true_implies, false_implies, not_true_eq_false, not_false_eq_true, true_and, and_true, false_and, and_false, Bool.false_eq_true, Bool.true_eq_false, reduceCtorEq, implies_true]⟩
  rcases sgn_cases a with ha | ⟨j, hj, rfl⟩
  · refine Or.inr ⟨Or.inl ⟨rq_T, fun _ => rfl, fun h9 => absurd ha h9⟩, bad (in_neg ha (by omega) _)⟩
  · have hin := in_pre (j := j) (n := bs.length) hj (by omega)
    rw [← hsT] at hin
    by_cases hlt : j < bs.length
    · rw [decide_eq_true hlt] at hin
      obtain ⟨BE', BC', BO', mB', mC', b1, b2, b3⟩ := vi_both hv hlt BO FO
      refine Or.inl ⟨j, BE', BC', BO', mB', mC', ⟨rq_T, ?_⟩, ⟨1, ?_⟩, b3⟩
      · rw [hT]
        simp (disch := omega) only [q_lit, le_T, le_F, lt_T, lt_F, eq_T, eq_F, m1_lt, m1_le, lt_m1, le_m1, eq_m1, m1_eq, nI_add, nI_sub, nI_dec, nI_mul, nI_or, nI_and, nI_div, nI_mod, and_255, and_31, and_1, and_63, nI_shl, nI_shr, bI_F, bI_1, vp_T, cl_T, true_implies, false_implies, not_true_eq_false, not_false_eq_true, true_and, and_true, false_and, and_false, Bool.false_eq_true, Bool.true_eq_false, reduceCtorEq, implies_true]
        exact ⟨_, _, _, _, _, _, b1, rfl, rfl, rfl, rfl, rfl, rfl⟩
      · simp (disch := omega) only [q_lit, le_T, le_F, lt_T, lt_F, eq_T, eq_F, m1_lt, m1_le, lt_m1, le_m1, eq_m1, m1_eq, nI_add, nI_sub, nI_dec, nI_mul, nI_or, nI_and, nI_div, nI_mod, and_255, and_31, and_1, and_63, nI_shl, nI_shr, bI_F, bI_1, vp_T, cl_T, true_implies, false_implies, not_true_eq_false, not_false_eq_true, true_and, and_true, false_and, and_false, Bool.false_eq_true, Bool.true_eq_false, reduceCtorEq, implies_true]
        refine ⟨_, hin, ?_⟩
        simp (disch := omega) only [q_lit, le_T, le_F, lt_T, lt_F, eq_T, eq_F, m1_lt, m1_le, lt_m1, le_m1, eq_m1, m1_eq, nI_add, nI_sub, nI_dec, nI_mul, nI_or, nI_and, nI_div, nI_mod, and_255, and_31, and_1, and_63, nI_shl, nI_shr, bI_F, bI_1, vp_T, cl_T, true_implies, false_implies, not_true_eq_false, not_false_eq_true, true_and, and_true, false_and, and_false, Bool.false_eq_true, Bool.true_eq_false, reduceCtorEq, implies_true]
        refine ⟨_, _, rf00 th, ?_⟩
        simp (disch := omega) only [T_Model_jump, S_Model_jump, B_Model_jump_45, q_lit, le_T, le_F, lt_T, lt_F, eq_T, eq_F, m1_lt, m1_le, lt_m1, le_m1, eq_m1, m1_eq, nI_add, nI_sub, nI_dec, nI_mul, nI_or, nI_and, nI_div, nI_mod, and_255, and_31, and_1, and_63, nI_shl, nI_shr, bI_F, bI_1, vp_T, cl_T, true_implies, false_implies, not_true_eq_false, not_false_eq_true, true_and, and_true, false_and, and_false, Bool.false_eq_true, Bool.true_eq_false, reduceCtorEq, implies_true, q_lc_eq, q_lc_ge, q_lc_gt, q_lc_le, lN_or, lN_and, lN_shl, lN_shr, nI_L, lN_I, l_0]
        exact ⟨_, _, _, _, b2, rfl, rfl, rfl, rfl⟩
    · rw [decide_eq_false hlt] at hin
      refine Or.inr ⟨Or.inl ⟨rq_T, ?_⟩, bad hin⟩
      rw [hT]
      simp (disch := omega) only [q_lit, le_T, le_F, lt_T, lt_F, eq_T, eq_F, m1_lt, m1_le, lt_m1, le_m1, eq_m1, m1_eq, nI_add, nI_sub, nI_dec, nI_mul, nI_or, nI_and, nI_div, nI_mod, and_255, and_31, and_1, and_63, nI_shl, nI_shr, bI_F, bI_1, vp_T, cl_T, true_implies, false_implies, not_true_eq_false, not_false_eq_true, true_and, and_true, false_and, and_false, Bool.false_eq_true, Bool.true_eq_false, reduceCtorEq, implies_true]
theorem pr_jumpC {a th sT mT mC : Int32} {mB : Nat → Int32} {mFC : Int32} (bbT : Int32) : X_HelpFile_jump a false bbT "java/lang/IllegalStateException" ∧ D_Model_jump a th false sT mT mC mB mFC (nI 1) mT mC mB mFC := by
  refine ⟨Or.inr rq_X, 0, ?_⟩
  simp (disch := omega) only [q_lit, le_T, le_F, lt_T, lt_F, eq_T, eq_F, m1_lt, m1_le, lt_m1, le_m1, eq_m1, m1_eq, nI_add, nI_sub, nI_dec, nI_mul, nI_or, nI_and, nI_div, nI_mod, and_255, and_31, and_1, and_63, nI_shl, nI_shr, bI_F, bI_1, vp_T, cl_T, true_implies, false_implies, not_true_eq_false, not_false_eq_true, true_and, and_true, false_and, and_false, Bool.false_eq_true, Bool.true_eq_false, reduceCtorEq, implies_true]
  exact ⟨_, _, rf10 th, by simp (disch := omega) only [q_lit, le_T, le_F, lt_T, lt_F, eq_T, eq_F, m1_lt, m1_le, lt_m1, le_m1, eq_m1, m1_eq, nI_add, nI_sub, nI_dec, nI_mul, nI_or, nI_and, nI_div, nI_mod, and_255, and_31, and_1, and_63, nI_shl, nI_shr, bI_F, bI_1, vp_T, cl_T, true_implies, false_implies, not_true_eq_false, not_false_eq_true, true_and, and_true, false_and, and_false, Bool.false_eq_true, Bool.true_eq_false, reduceCtorEq, implies_true]⟩
theorem nI_m1 {t : Nat} (h : t < 2147483648) : ¬ nI t = (-1 : Int32) := of_eq_false (eq_m1 h)
theorem pr_follow {bbN : Nat → Int64} {bbS bbBE : Nat → Int32} {bbBC : Int32} {bbKW : Nat → Int64} {bbKT : Nat → Int32} {bbKC : Int32} {bbVW : Nat → Int64} {bbVT : Nat → Int32} {bbVC bbT sT : Int32} {q_sN sB sL : Nat → Int32} {sK : Int32} {sKL sKG sKB : Nat → Int32} {sW : Int32} {sWL sWG sWB : Nat → Int32} {ns bs : List (List Nat)} {ks : q_M2} (h : q_OC bbN bbS bbBE bbBC bbKW bbKT bbKC bbVW bbVT bbVC bbT sT q_sN sB sL sK sKL sKG sKB sW sWL sWG sWB ns bs ks) {BE : Nat → Int32} {BC : Int32} {FE : Nat → Int32} {FC T mT mC : Int32} {mB : Nat → Int32} {mFC : Int32} {mF : Nat → Int32} (hv : q_VI bs.length BE BC FE FC T mT mC mB mFC mF) (a th lk : Int32) (BO FO : Bool) :
    (∃ k lk' BE' BC' BO' mB' mC', D_HelpFile_follow 16 2550 a true BE BC BO FC FO T bbS bbBE bbBC bbT (nI k) BE' BC' BO' (nI 0) false (nI k) ∧ D_Model_follow a th lk true sB sL mT mC mB mFC (nI k) (nI 0) lk' (nI k) mC' mB' (nI 0) ∧ q_VI bs.length BE' BC' FE (nI 0) (nI k) (nI k) mC' mB' (nI 0) mF) ∨ (∃ lk', X_HelpFile_follow 2550 a true T bbS bbBE bbBC bbT "java/util/NoSuchElementException" ∧ D_Model_follow a th lk true sB sL mT mC mB mFC (nI 0) (nI 2) lk' mT mC mB mFC) := by
  obtain ⟨h1, h2, h3, h4⟩ := h
  have h10 := h1.2.2.1
  have hv' := hv
  obtain ⟨Bk, Fw, tp, q1, q2, q3, q4, rfl, rfl, q7, q8, q9⟩ := hv
  obtain ⟨_, _, hlk⟩ := h1.body q7
  have hbo := (h1.2.2.2.2.2.1 tp q7).1
  have hll := lnks_lt _ _ _ _ (Nat.le_refl _) hbo
  have hct := cb_target h2.1 q7 hlk a
  have hmt := mo_linkOf h4.2.2.1 q7 hlk a lk
  have hlen := lnks_len (bd bs tp)
  have h255 := (h1.2.2.2.2.2.1 tp q7).2
  have e0 : a - nI 0 = a := by rw [show nI 0 = (0 : Int32) from rfl]; exact Int32.sub_zero a
  rw [lkFd_eq (n := 0) (by omega) (fun j hj => by omega), e0] at hmt
  rcases lkTo_or a (lnks (bd bs tp)) with hn | ⟨t, ht1, ht2⟩
  · rw [hn] at hct hmt
    refine Or.inr ⟨nI (lnks (bd bs tp)).length, Or.inl ⟨rq_T, _, hct, fun _ => rfl, fun h9 => absurd rfl h9⟩, 1, ?_⟩
    simp only [bI_F, q_lit, Bool.true_eq_false, false_implies, not_false_eq_true, true_implies, true_and]
    refine ⟨_, _, hmt, ?_⟩
    simp (disch := omega) only [T_Model_follow, S_Model_follow, B_Model_follow_17, q_lit, le_T, le_F, lt_T, lt_F, eq_T, eq_F, m1_lt, m1_le, lt_m1, le_m1, eq_m1, m1_eq, nI_add, nI_sub, nI_dec, nI_mul, nI_or, nI_and, nI_div, nI_mod, and_255, and_31, and_1, and_63, nI_shl, nI_shr, bI_F, bI_1, vp_T, cl_T, true_implies, false_implies, not_true_eq_false, not_false_eq_true, true_and, and_true, false_and, and_false, Bool.false_eq_true, Bool.true_eq_false, reduceCtorEq, implies_true, q_lc_eq, q_lc_ge, q_lc_gt, q_lc_le, lN_or, lN_and, lN_shl, lN_shr, nI_L, lN_I, l_0]
    exact ⟨_, _, rf01 th, by simp (disch := omega) only [q_lit, le_T, le_F, lt_T, lt_F, eq_T, eq_F, m1_lt, m1_le, lt_m1, le_m1, eq_m1, m1_eq, nI_add, nI_sub, nI_dec, nI_mul, nI_or, nI_and, nI_div, nI_mod, and_255, and_31, and_1, and_63, nI_shl, nI_shr, bI_F, bI_1, vp_T, cl_T, true_implies, false_implies, not_true_eq_false, not_false_eq_true, true_and, and_true, false_and, and_false, Bool.false_eq_true, Bool.true_eq_false, reduceCtorEq, implies_true]⟩
  · rw [ht2] at hct hmt
    have htl := hll t ht1
    obtain ⟨BE', BC', BO', mB', mC', b1, b2, b3⟩ := vi_both hv' htl BO FO
    refine Or.inl ⟨t, nI (lnks (bd bs tp)).length, BE', BC', BO', mB', mC', ⟨rq_T, _, hct, fun h9 => absurd h9 (nI_m1 (by omega)), fun _ => ⟨_, _, _, _, _, _, b1, rfl, rfl, rfl, rfl, rfl, rfl, rfl⟩⟩, ⟨2, ?_⟩, b3⟩
    simp only [bI_F, q_lit, Bool.true_eq_false, false_implies, not_false_eq_true, true_implies, true_and]
    refine ⟨_, _, hmt, ?_⟩
    rw [T_Model_follow]
    simp (disch := omega) only [S_Model_follow, B_Model_follow_17, q_lit, le_T, le_F, lt_T, lt_F, eq_T, eq_F, m1_lt, m1_le, lt_m1, le_m1, eq_m1, m1_eq, nI_add, nI_sub, nI_dec, nI_mul, nI_or, nI_and, nI_div, nI_mod, and_255, and_31, and_1, and_63, nI_shl, nI_shr, bI_F, bI_1, vp_T, cl_T, true_implies, false_implies, not_true_eq_false, not_false_eq_true, true_and, and_true, false_and, and_false, Bool.false_eq_true, Bool.true_eq_false, reduceCtorEq, implies_true]
    refine ⟨_, _, rf00 th, ?_⟩
    simp (disch := omega) only [T_Model_follow, S_Model_follow, B_Model_follow_47, q_lit, le_T, le_F, lt_T, lt_F, eq_T, eq_F, m1_lt, m1_le, lt_m1, le_m1, eq_m1, m1_eq, nI_add, nI_sub, nI_dec, nI_mul, nI_or, nI_and, nI_div, nI_mod, and_255, and_31, and_1, and_63, nI_shl, nI_shr, bI_F, bI_1, vp_T, cl_T, true_implies, false_implies, not_true_eq_false, not_false_eq_true, true_and, and_true, false_and, and_false, Bool.false_eq_true, Bool.true_eq_false, reduceCtorEq, implies_true, q_lc_eq, q_lc_ge, q_lc_gt, q_lc_le, lN_or, lN_and, lN_shl, lN_shr, nI_L, lN_I, l_0]
    exact ⟨_, _, _, _, b2, rfl, rfl, rfl, rfl, rfl⟩
theorem pr_followC {a th lk mT mC mFC T : Int32} {mB sB sL : Nat → Int32} {bbS bbBE : Nat → Int32} {bbBC bbT : Int32} : X_HelpFile_follow 2550 a false T bbS bbBE bbBC bbT "java/lang/IllegalStateException" ∧ D_Model_follow a th lk false sB sL mT mC mB mFC (nI 0) (nI 1) lk mT mC mB mFC := by
  refine ⟨Or.inr rq_X, 1, ?_⟩
  simp (disch := omega) only [q_lit, le_T, le_F, lt_T, lt_F, eq_T, eq_F, m1_lt, m1_le, lt_m1, le_m1, eq_m1, m1_eq, nI_add, nI_sub, nI_dec, nI_mul, nI_or, nI_and, nI_div, nI_mod, and_255, and_31, and_1, and_63, nI_shl, nI_shr, bI_F, bI_1, vp_T, cl_T, true_implies, false_implies, not_true_eq_false, not_false_eq_true, true_and, and_true, false_and, and_false, Bool.false_eq_true, Bool.true_eq_false, reduceCtorEq, implies_true]
  simp (disch := omega) only [T_Model_follow, S_Model_follow, B_Model_follow_17, q_lit, le_T, le_F, lt_T, lt_F, eq_T, eq_F, m1_lt, m1_le, lt_m1, le_m1, eq_m1, m1_eq, nI_add, nI_sub, nI_dec, nI_mul, nI_or, nI_and, nI_div, nI_mod, and_255, and_31, and_1, and_63, nI_shl, nI_shr, bI_F, bI_1, vp_T, cl_T, true_implies, false_implies, not_true_eq_false, not_false_eq_true, true_and, and_true, false_and, and_false, Bool.false_eq_true, Bool.true_eq_false, reduceCtorEq, implies_true, q_lc_eq, q_lc_ge, q_lc_gt, q_lc_le, lN_or, lN_and, lN_shl, lN_shr, nI_L, lN_I, l_0]
  exact ⟨_, _, rf11 th, by simp (disch := omega) only [q_lit, le_T, le_F, lt_T, lt_F, eq_T, eq_F, m1_lt, m1_le, lt_m1, le_m1, eq_m1, m1_eq, nI_add, nI_sub, nI_dec, nI_mul, nI_or, nI_and, nI_div, nI_mod, and_255, and_31, and_1, and_63, nI_shl, nI_shr, bI_F, bI_1, vp_T, cl_T, true_implies, false_implies, not_true_eq_false, not_false_eq_true, true_and, and_true, false_and, and_false, Bool.false_eq_true, Bool.true_eq_false, reduceCtorEq, implies_true]⟩
theorem getD_lt {L : List Nat} {n k : Nat} (h : ∀ x ∈ L, x < n) (hk : k < L.length) : L.getD k 0 < n := h _ (getD_mem hk 0)
theorem take_lt {L : List Nat} {n k : Nat} (h : ∀ x ∈ L, x < n) : ∀ x ∈ L.take k, x < n := fun x hx => h x (List.mem_of_mem_take hx)
theorem pr_go {n : Nat} {BE : Nat → Int32} {BC : Int32} {FE : Nat → Int32} {FC T mT mC : Int32} {mB : Nat → Int32} {mFC : Int32} {mF : Nat → Int32} (hv : q_VI n BE BC FE FC T mT mC mB mFC mF) (hn : n ≤ 10) (p : Bool) (th : Int32) (BO FO : Bool) :
    (∃ k BE' BC' BO' FE' FC' FO' mC' mB' mFC' mF', D_HelpFile_go 16 16 p true BE BC BO FE FC FO T (nI k) BE' BC' BO' FE' FC' FO' (nI k) ∧ D_Model_go p th true mT mC mB mFC mF (nI k) (nI 0) (nI k) mC' mB' mFC' mF' ∧ q_VI n BE' BC' FE' FC' (nI k) (nI k) mC' mB' mFC' mF') ∨ (X_HelpFile_go p true BC FC "java/util/NoSuchElementException" ∧ D_Model_go p th true mT mC mB mFC mF (nI 0) (nI 2) mT mC mB mFC mF) := by
  obtain ⟨Bk, Fw, tp, q1, q2, q3, q4, rfl, rfl, q7, q8, q9⟩ := hv
  have hbl := q1.2.1
  have hfl := q3.2.1
  cases p with
  | false =>
    by_cases h0 : Bk.length = 0
    · refine Or.inr ⟨⟨1, Or.inl ⟨rq_T, ?_⟩⟩, 0, ?_⟩
      · rw [q1.1]
        simp (disch := omega) only [T_HelpFile_go, S_HelpFile_go, B_HelpFile_go_26, q_lit, le_T, le_F, lt_T, lt_F, eq_T, eq_F, m1_lt, m1_le, lt_m1, le_m1, eq_m1, m1_eq, nI_add, nI_sub, nI_dec, nI_mul, nI_or, nI_and, nI_div, nI_mod, and_255, and_31, and_1, and_63, nI_shl, nI_shr, bI_F, bI_1, vp_T, cl_T, true_implies, false_implies, not_true_eq_false, not_false_eq_true, true_and, and_true, false_and, and_false, Bool.false_eq_true, Bool.true_eq_false, reduceCtorEq, implies_true, q_lc_eq, q_lc_ge, q_lc_gt, q_lc_le, lN_or, lN_and, lN_shl, lN_shr, nI_L, lN_I, l_0]
        rw [TX_HelpFile_go]
        simp (disch := omega) only [SX_HelpFile_go, BX_HelpFile_go_26, q_lit, le_T, le_F, lt_T, lt_F, eq_T, eq_F, m1_lt, m1_le, lt_m1, le_m1, eq_m1, m1_eq, nI_add, nI_sub, nI_dec, nI_mul, nI_or, nI_and, nI_div, nI_mod, and_255, and_31, and_1, and_63, nI_shl, nI_shr, bI_F, bI_1, vp_T, cl_T, true_implies, false_implies, not_true_eq_false, not_false_eq_true, true_and, and_true, false_and, and_false, Bool.false_eq_true, Bool.true_eq_false, reduceCtorEq, implies_true]
      · rw [q2.1]
        simp (disch := omega) only [q_lit, le_T, le_F, lt_T, lt_F, eq_T, eq_F, m1_lt, m1_le, lt_m1, le_m1, eq_m1, m1_eq, nI_add, nI_sub, nI_dec, nI_mul, nI_or, nI_and, nI_div, nI_mod, and_255, and_31, and_1, and_63, nI_shl, nI_shr, bI_F, bI_1, vp_T, cl_T, true_implies, false_implies, not_true_eq_false, not_false_eq_true, true_and, and_true, false_and, and_false, Bool.false_eq_true, Bool.true_eq_false, reduceCtorEq, implies_true]
        exact ⟨_, _, rf01 th, by simp (disch := omega) only [q_lit, le_T, le_F, lt_T, lt_F, eq_T, eq_F, m1_lt, m1_le, lt_m1, le_m1, eq_m1, m1_eq, nI_add, nI_sub, nI_dec, nI_mul, nI_or, nI_and, nI_div, nI_mod, and_255, and_31, and_1, and_63, nI_shl, nI_shr, bI_F, bI_1, vp_T, cl_T, true_implies, false_implies, not_true_eq_false, not_false_eq_true, true_and, and_true, false_and, and_false, Bool.false_eq_true, Bool.true_eq_false, reduceCtorEq, implies_true]⟩
    · obtain ⟨FE', FC', FO', a1, a2⟩ := vi_pushF q3 tp FO
      obtain ⟨b1, b2⟩ := vi_pop q1 (by omega) BO
      obtain ⟨mF', mFC', c1, c2⟩ := mo_pushForward q4 tp
      have e1 := q2.2.2.2 (Bk.length - 1) (by omega)
      refine Or.inl ⟨Bk.getD (Bk.length - 1) 0, BE, nI (Bk.length - 1), false, FE', FC', FO', nI (Bk.length - 1), mB, mFC', mF', ⟨2, rq_T, ?_⟩, ⟨1, ?_⟩, ⟨Bk.take (Bk.length - 1), psh Fw tp, _, b2, rw_take q2 (by omega), a2, c2, rfl, rfl, getD_lt q8 (by omega), take_lt q8, psh_lt q9 q7⟩⟩
      · rw [q1.1] at b1 ⊢
        simp (disch := omega) only [q_lit, le_T, le_F, lt_T, lt_F, eq_T, eq_F, m1_lt, m1_le, lt_m1, le_m1, eq_m1, m1_eq, nI_add, nI_sub, nI_dec, nI_mul, nI_or, nI_and, nI_div, nI_mod, and_255, and_31, and_1, and_63, nI_shl, nI_shr, bI_F, bI_1, vp_T, cl_T, true_implies, false_implies, not_true_eq_false, not_false_eq_true, true_and, and_true, false_and, and_false, Bool.false_eq_true, Bool.true_eq_false, reduceCtorEq, implies_true]
        rw [T_HelpFile_go]
        simp (disch := omega) only [S_HelpFile_go, B_HelpFile_go_26, q_lit, le_T, le_F, lt_T, lt_F, eq_T, eq_F, m1_lt, m1_le, lt_m1, le_m1, eq_m1, m1_eq, nI_add, nI_sub, nI_dec, nI_mul, nI_or, nI_and, nI_div, nI_mod, and_255, and_31, and_1, and_63, nI_shl, nI_shr, bI_F, bI_1, vp_T, cl_T, true_implies, false_implies, not_true_eq_false, not_false_eq_true, true_and, and_true, false_and, and_false, Bool.false_eq_true, Bool.true_eq_false, reduceCtorEq, implies_true]
        refine ⟨_, _, _, _, _, _, ⟨_, _, _, a1, _, _, _, b1, rfl, rfl, rfl, rfl, rfl, rfl⟩, ?_⟩
        rw [T_HelpFile_go]
        simp (disch := omega) only [S_HelpFile_go, B_HelpFile_go_61, q_lit, le_T, le_F, lt_T, lt_F, eq_T, eq_F, m1_lt, m1_le, lt_m1, le_m1, eq_m1, m1_eq, nI_add, nI_sub, nI_dec, nI_mul, nI_or, nI_and, nI_div, nI_mod, and_255, and_31, and_1, and_63, nI_shl, nI_shr, bI_F, bI_1, vp_T, cl_T, true_implies, false_implies, not_true_eq_false, not_false_eq_true, true_and, and_true, false_and, and_false, Bool.false_eq_true, Bool.true_eq_false, reduceCtorEq, implies_true]
      · rw [q2.1]
        simp (disch := omega) only [q_lit, le_T, le_F, lt_T, lt_F, eq_T, eq_F, m1_lt, m1_le, lt_m1, le_m1, eq_m1, m1_eq, nI_add, nI_sub, nI_dec, nI_mul, nI_or, nI_and, nI_div, nI_mod, and_255, and_31, and_1, and_63, nI_shl, nI_shr, bI_F, bI_1, vp_T, cl_T, true_implies, false_implies, not_true_eq_false, not_false_eq_true, true_and, and_true, false_and, and_false, Bool.false_eq_true, Bool.true_eq_false, reduceCtorEq, implies_true]
        refine ⟨_, _, rf00 th, ?_⟩
        simp (disch := omega) only [T_Model_go, S_Model_go, B_Model_go_44, e1, q_lit, le_T, le_F, lt_T, lt_F, eq_T, eq_F, m1_lt, m1_le, lt_m1, le_m1, eq_m1, m1_eq, nI_add, nI_sub, nI_dec, nI_mul, nI_or, nI_and, nI_div, nI_mod, and_255, and_31, and_1, and_63, nI_shl, nI_shr, bI_F, bI_1, vp_T, cl_T, true_implies, false_implies, not_true_eq_false, not_false_eq_true, true_and, and_true, false_and, and_false, Bool.false_eq_true, Bool.true_eq_false, reduceCtorEq, implies_true, q_lc_eq, q_lc_ge, q_lc_gt, q_lc_le, lN_or, lN_and, lN_shl, lN_shr, nI_L, lN_I, l_0]
        exact ⟨_, _, c1, rfl, rfl⟩
  | true =>
    by_cases h0 : Fw.length = 0
    · refine Or.inr ⟨⟨1, Or.inl ⟨rq_T, ?_⟩⟩, 0, ?_⟩
      · rw [q3.1]
        simp (disch := omega) only [q_lit, le_T, le_F, lt_T, lt_F, eq_T, eq_F, m1_lt, m1_le, lt_m1, le_m1, eq_m1, m1_eq, nI_add, nI_sub, nI_dec, nI_mul, nI_or, nI_and, nI_div, nI_mod, and_255, and_31, and_1, and_63, nI_shl, nI_shr, bI_F, bI_1, vp_T, cl_T, true_implies, false_implies, not_true_eq_false, not_false_eq_true, true_and, and_true, false_and, and_false, Bool.false_eq_true, Bool.true_eq_false, reduceCtorEq, implies_true]
        rw [TX_HelpFile_go]
        simp (disch := omega) only [SX_HelpFile_go, BX_HelpFile_go_26, q_lit, le_T, le_F, lt_T, lt_F, eq_T, eq_F, m1_lt, m1_le, lt_m1, le_m1, eq_m1, m1_eq, nI_add, nI_sub, nI_dec, nI_mul, nI_or, nI_and, nI_div, nI_mod, and_255, and_31, and_1, and_63, nI_shl, nI_shr, bI_F, bI_1, vp_T, cl_T, true_implies, false_implies, not_true_eq_false, not_false_eq_true, true_and, and_true, false_and, and_false, Bool.false_eq_true, Bool.true_eq_false, reduceCtorEq, implies_true]
      · rw [q4.1]
        simp (disch := omega) only [q_lit, le_T, le_F, lt_T, lt_F, eq_T, eq_F, m1_lt, m1_le, lt_m1, le_m1, eq_m1, m1_eq, nI_add, nI_sub, nI_dec, nI_mul, nI_or, nI_and, nI_div, nI_mod, and_255, and_31, and_1, and_63, nI_shl, nI_shr, bI_F, bI_1, vp_T, cl_T, true_implies, false_implies, not_true_eq_false, not_false_eq_true, true_and, and_true, false_and, and_false, Bool.false_eq_true, Bool.true_eq_false, reduceCtorEq, implies_true]
        exact ⟨_, _, rf01 th, by simp (disch := omega) only [q_lit, le_T, le_F, lt_T, lt_F, eq_T, eq_F, m1_lt, m1_le, lt_m1, le_m1, eq_m1, m1_eq, nI_add, nI_sub, nI_dec, nI_mul, nI_or, nI_and, nI_div, nI_mod, and_255, and_31, and_1, and_63, nI_shl, nI_shr, bI_F, bI_1, vp_T, cl_T, true_implies, false_implies, not_true_eq_false, not_false_eq_true, true_and, and_true, false_and, and_false, Bool.false_eq_true, Bool.true_eq_false, reduceCtorEq, implies_true]⟩
    · obtain ⟨BE', BC', BO', a1, a2⟩ := vi_pushB q1 tp BO
      obtain ⟨b1, b2⟩ := vi_pop q3 (by omega) FO
      obtain ⟨mB', mC', c1, c2⟩ := mo_pushBack q2 tp
      have e1 := q4.2.2.2 (Fw.length - 1) (by omega)
      refine Or.inl ⟨Fw.getD (Fw.length - 1) 0, BE', BC', BO', FE, nI (Fw.length - 1), false, mC', mB', nI (Fw.length - 1), mF, ⟨2, rq_T, ?_⟩, ⟨1, ?_⟩, ⟨psh Bk tp, Fw.take (Fw.length - 1), _, a2, c2, b2, rw_take q4 (by omega), rfl, rfl, getD_lt q9 (by omega), psh_lt q8 q7, take_lt q9⟩⟩
      · rw [q3.1] at b1 ⊢
        simp (disch := omega) only [q_lit, le_T, le_F, lt_T, lt_F, eq_T, eq_F, m1_lt, m1_le, lt_m1, le_m1, eq_m1, m1_eq, nI_add, nI_sub, nI_dec, nI_mul, nI_or, nI_and, nI_div, nI_mod, and_255, and_31, and_1, and_63, nI_shl, nI_shr, bI_F, bI_1, vp_T, cl_T, true_implies, false_implies, not_true_eq_false, not_false_eq_true, true_and, and_true, false_and, and_false, Bool.false_eq_true, Bool.true_eq_false, reduceCtorEq, implies_true]
        rw [T_HelpFile_go]
        simp (disch := omega) only [S_HelpFile_go, B_HelpFile_go_26, q_lit, le_T, le_F, lt_T, lt_F, eq_T, eq_F, m1_lt, m1_le, lt_m1, le_m1, eq_m1, m1_eq, nI_add, nI_sub, nI_dec, nI_mul, nI_or, nI_and, nI_div, nI_mod, and_255, and_31, and_1, and_63, nI_shl, nI_shr, bI_F, bI_1, vp_T, cl_T, true_implies, false_implies, not_true_eq_false, not_false_eq_true, true_and, and_true, false_and, and_false, Bool.false_eq_true, Bool.true_eq_false, reduceCtorEq, implies_true]
        refine ⟨_, _, _, _, _, _, ⟨_, _, _, a1, _, _, _, b1, rfl, rfl, rfl, rfl, rfl, rfl⟩, ?_⟩
        rw [T_HelpFile_go]
        simp (disch := omega) only [S_HelpFile_go, B_HelpFile_go_61, q_lit, le_T, le_F, lt_T, lt_F, eq_T, eq_F, m1_lt, m1_le, lt_m1, le_m1, eq_m1, m1_eq, nI_add, nI_sub, nI_dec, nI_mul, nI_or, nI_and, nI_div, nI_mod, and_255, and_31, and_1, and_63, nI_shl, nI_shr, bI_F, bI_1, vp_T, cl_T, true_implies, false_implies, not_true_eq_false, not_false_eq_true, true_and, and_true, false_and, and_false, Bool.false_eq_true, Bool.true_eq_false, reduceCtorEq, implies_true]
      · rw [q4.1]
        simp (disch := omega) only [q_lit, le_T, le_F, lt_T, lt_F, eq_T, eq_F, m1_lt, m1_le, lt_m1, le_m1, eq_m1, m1_eq, nI_add, nI_sub, nI_dec, nI_mul, nI_or, nI_and, nI_div, nI_mod, and_255, and_31, and_1, and_63, nI_shl, nI_shr, bI_F, bI_1, vp_T, cl_T, true_implies, false_implies, not_true_eq_false, not_false_eq_true, true_and, and_true, false_and, and_false, Bool.false_eq_true, Bool.true_eq_false, reduceCtorEq, implies_true]
        refine ⟨_, _, rf00 th, ?_⟩
        simp (disch := omega) only [T_Model_go, S_Model_go, B_Model_go_44, e1, q_lit, le_T, le_F, lt_T, lt_F, eq_T, eq_F, m1_lt, m1_le, lt_m1, le_m1, eq_m1, m1_eq, nI_add, nI_sub, nI_dec, nI_mul, nI_or, nI_and, nI_div, nI_mod, and_255, and_31, and_1, and_63, nI_shl, nI_shr, bI_F, bI_1, vp_T, cl_T, true_implies, false_implies, not_true_eq_false, not_false_eq_true, true_and, and_true, false_and, and_false, Bool.false_eq_true, Bool.true_eq_false, reduceCtorEq, implies_true, q_lc_eq, q_lc_ge, q_lc_gt, q_lc_le, lN_or, lN_and, lN_shl, lN_shr, nI_L, lN_I, l_0]
        exact ⟨_, _, c1, rfl, rfl⟩
theorem pr_goC {p : Bool} {th mT mC mFC : Int32} {mB mF : Nat → Int32} (BC FC : Int32) : X_HelpFile_go p false BC FC "java/lang/IllegalStateException" ∧ D_Model_go p th false mT mC mB mFC mF (nI 0) (nI 1) mT mC mB mFC mF := by
  refine ⟨⟨0, Or.inr rq_X⟩, 0, ?_⟩
  simp (disch := omega) only [q_lit, le_T, le_F, lt_T, lt_F, eq_T, eq_F, m1_lt, m1_le, lt_m1, le_m1, eq_m1, m1_eq, nI_add, nI_sub, nI_dec, nI_mul, nI_or, nI_and, nI_div, nI_mod, and_255, and_31, and_1, and_63, nI_shl, nI_shr, bI_F, bI_1, vp_T, cl_T, true_implies, false_implies, not_true_eq_false, not_false_eq_true, true_and, and_true, false_and, and_false, Bool.false_eq_true, Bool.true_eq_false, reduceCtorEq, implies_true]
  cases p with
  | false =>
    simp (disch := omega) only [q_lit, le_T, le_F, lt_T, lt_F, eq_T, eq_F, m1_lt, m1_le, lt_m1, le_m1, eq_m1, m1_eq, nI_add, nI_sub, nI_dec, nI_mul, nI_or, nI_and, nI_div, nI_mod, and_255, and_31, and_1, and_63, nI_shl, nI_shr, bI_F, bI_1, vp_T, cl_T, true_implies, false_implies, not_true_eq_false, not_false_eq_true, true_and, and_true, false_and, and_false, Bool.false_eq_true, Bool.true_eq_false, reduceCtorEq, implies_true]
    by_cases h : mC = nI 0
    · simp only [h, true_implies, not_true_eq_false, false_implies, and_true]
      exact ⟨_, _, rf11 th, by simp (disch := omega) only [q_lit, le_T, le_F, lt_T, lt_F, eq_T, eq_F, m1_lt, m1_le, lt_m1, le_m1, eq_m1, m1_eq, nI_add, nI_sub, nI_dec, nI_mul, nI_or, nI_and, nI_div, nI_mod, and_255, and_31, and_1, and_63, nI_shl, nI_shr, bI_F, bI_1, vp_T, cl_T, true_implies, false_implies, not_true_eq_false, not_false_eq_true, true_and, and_true, false_and, and_false, Bool.false_eq_true, Bool.true_eq_false, reduceCtorEq, implies_true]⟩
    · simp only [h, false_implies, not_false_eq_true, true_implies, true_and]
      exact ⟨_, _, rf10 th, by simp (disch := omega) only [q_lit, le_T, le_F, lt_T, lt_F, eq_T, eq_F, m1_lt, m1_le, lt_m1, le_m1, eq_m1, m1_eq, nI_add, nI_sub, nI_dec, nI_mul, nI_or, nI_and, nI_div, nI_mod, and_255, and_31, and_1, and_63, nI_shl, nI_shr, bI_F, bI_1, vp_T, cl_T, true_implies, false_implies, not_true_eq_false, not_false_eq_true, true_and, and_true, false_and, and_false, Bool.false_eq_true, Bool.true_eq_false, reduceCtorEq, implies_true]⟩
  | true =>
    simp (disch := omega) only [q_lit, le_T, le_F, lt_T, lt_F, eq_T, eq_F, m1_lt, m1_le, lt_m1, le_m1, eq_m1, m1_eq, nI_add, nI_sub, nI_dec, nI_mul, nI_or, nI_and, nI_div, nI_mod, and_255, and_31, and_1, and_63, nI_shl, nI_shr, bI_F, bI_1, vp_T, cl_T, true_implies, false_implies, not_true_eq_false, not_false_eq_true, true_and, and_true, false_and, and_false, Bool.false_eq_true, Bool.true_eq_false, reduceCtorEq, implies_true]
    by_cases h : mFC = nI 0
    · simp only [h, true_implies, not_true_eq_false, false_implies, and_true]
      exact ⟨_, _, rf11 th, by simp (disch := omega) only [q_lit, le_T, le_F, lt_T, lt_F, eq_T, eq_F, m1_lt, m1_le, lt_m1, le_m1, eq_m1, m1_eq, nI_add, nI_sub, nI_dec, nI_mul, nI_or, nI_and, nI_div, nI_mod, and_255, and_31, and_1, and_63, nI_shl, nI_shr, bI_F, bI_1, vp_T, cl_T, true_implies, false_implies, not_true_eq_false, not_false_eq_true, true_and, and_true, false_and, and_false, Bool.false_eq_true, Bool.true_eq_false, reduceCtorEq, implies_true]⟩
    · simp only [h, false_implies, not_false_eq_true, true_implies, true_and]
      exact ⟨_, _, rf10 th, by simp (disch := omega) only [q_lit, le_T, le_F, lt_T, lt_F, eq_T, eq_F, m1_lt, m1_le, lt_m1, le_m1, eq_m1, m1_eq, nI_add, nI_sub, nI_dec, nI_mul, nI_or, nI_and, nI_div, nI_mod, and_255, and_31, and_1, and_63, nI_shl, nI_shr, bI_F, bI_1, vp_T, cl_T, true_implies, false_implies, not_true_eq_false, not_false_eq_true, true_and, and_true, false_and, and_false, Bool.false_eq_true, Bool.true_eq_false, reduceCtorEq, implies_true]⟩
