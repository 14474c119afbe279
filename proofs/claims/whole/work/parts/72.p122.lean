/-! Pure: the topics of an image are read, the reference. -/
theorem or_pr {a b : Nat} (ha : a < 256) (hb : b < 256) : a ||| (b <<< 8) = a + 256 * b := by
  have h := Nat.shiftLeft_add_eq_or_of_lt (a := b) (b := a) (i := 8) (by omega)
  rw [Nat.or_comm, ← h, Nat.shiftLeft_eq]; omega
theorem mo_twoAt {J : List Nat} {iE : Nat → Int32} {iC : Int32} (hJ : Rw 8000 iE iC J) (hy : q_By J) {p : Nat} (hp : p < 1000000) {k : Nat} (hk : k = p) : D_Model_twoAt (nI p) iC iE (decide (J.length < p)) (nI (pr J p)) (decide (J.length < p + 2)) := by
  have v1 := hy.getD p
  have v2 := hy.getD (p + 1)
  have b1 := mo_byteAt hJ (p := p) (by omega) (decide (J.length < p))
  have b2 := mo_byteAt hJ (p := p + 1) (by omega) (decide (J.length < p) || decide (J.length ≤ p))
  have eu : (decide (J.length < p) || decide (J.length ≤ p) || decide (J.length ≤ p + 1)) = decide (J.length < p + 2) := by
    rw [← Bool.decide_or, ← Bool.decide_or]; congr 1; simp only [eq_iff_iff]; omega
  refine ⟨_, _, b1, nI (J.getD (p + 1) 0), _, ?_, ?_, eu.symm⟩
  · rw [show (nI p + 1 : Int32) = nI (p + 1) by simp (disch := omega) only [q_lit, le_T, le_F, lt_T, lt_F, eq_T, eq_F, m1_lt, m1_le, lt_m1, le_m1, eq_m1, m1_eq, nI_add, nI_sub, nI_dec, nI_mul, nI_or, nI_and, nI_div, nI_mod, and_255, and_31, and_1, and_63, nI_shl, nI_shr, bI_F, bI_1, vp_T, cl_T, true_implies, false_implies, not_true_eq_false, not_false_eq_true, true_and, and_true, false_and, and_false, Bool.false_eq_true, Bool.true_eq_false, reduceCtorEq, implies_true]]; exact b2
  · unfold pr
    rw [← or_pr v1 v2]
    simp (disch := omega) only [q_lit, le_T, le_F, lt_T, lt_F, eq_T, eq_F, m1_lt, m1_le, lt_m1, le_m1, eq_m1, m1_eq, nI_add, nI_sub, nI_dec, nI_mul, nI_or, nI_and, nI_div, nI_mod, and_255, and_31, and_1, and_63, nI_shl, nI_shr, bI_F, bI_1, vp_T, cl_T, true_implies, false_implies, not_true_eq_false, not_false_eq_true, true_and, and_true, false_and, and_false, Bool.false_eq_true, Bool.true_eq_false, reduceCtorEq, implies_true]
def Vs (J : List Nat) : Nat → List (List Nat)
  | 0 => []
  | n + 1 => Vs J n ++ [seg J (2 + 10 * n) 6]
theorem Vs_len (J : List Nat) (n : Nat) : (Vs J n).length = n := by
  induction n with
  | zero => rfl
  | succ n ih => simp [Vs, ih]
theorem Vs_bd (J : List Nat) {n t : Nat} (h : t < n) : bd (Vs J n) t = seg J (2 + 10 * t) 6 := by
  induction n with
  | zero => omega
  | succ n ih =>
    simp only [bd, Vs]
    rw [getD_snoc, Vs_len]
    by_cases h1 : t = n
    · rw [if_pos h1, h1]
    · rw [if_neg h1]; exact ih (by omega)
theorem Vs_by {J : List Nat} (hy : q_By J) (n : Nat) : ∀ v ∈ Vs J n, q_By v := by
  induction n with
  | zero => intro v hv; simp [Vs] at hv
  | succ n ih =>
    intro v hv
    simp only [Vs, List.mem_append, List.mem_singleton] at hv
    rcases hv with hv | hv
    · exact ih v hv
    · rw [hv]; exact seg_by hy _ _
theorem seg_getD (J : List Nat) (p : Nat) {m k : Nat} (h : k < m) : (seg J p m).getD k 0 = J.getD (p + k) 0 := by
  induction m generalizing p k with
  | zero => omega
  | succ m ih =>
    rw [seg]
    cases k with
    | zero => rfl
    | succ k =>
      rw [List.getD_cons_succ, ih (p + 1) (by omega)]
      congr 1; omega
abbrev ln0 (J : List Nat) (u : Nat) : Nat := pr J (2 + 10 * u + 6)
abbrev pk0 (J : List Nat) (u : Nat) : Nat := pr J (2 + 10 * u + 8)
def HD (J : List Nat) (u : Nat) : Prop := 2 + 10 * u + 10 ≤ J.length ∧ ln0 J u ≤ 255 ∧ tnOk (Vs J (u + 1)) u = true
def HA (J : List Nat) (t : Nat) (Nm Le Hg : Nat → Int32) : Prop := NmR Nm (Vs J t) ∧ ∀ u, u < t → Le u = nI (ln0 J u) ∧ Hg u = nI (pk0 J u)
set_option maxRecDepth 100000 in
theorem rt2 {J : List Nat} {iE : Nat → Int32} {iC : Int32} (hJ : Rw 8000 iE iC J) (hy : q_By J) {t : Nat} (ht : t < 10) {tp : Int32} {Bo Le Hg : Nat → Int32} (k : Nat) (hk : k ≤ 6) (Nm : Nat → Int32) (hold : ∀ j, j < k → Nm (6 * t + j) = nI (J.getD (2 + 10 * t + j) 0)) :
    ∃ Nm2, (∀ j, j < 6 → Nm2 (6 * t + j) = nI (J.getD (2 + 10 * t + j) 0)) ∧ (∀ i, i < 6 * t → Nm2 i = Nm i) ∧ ∀ res T' Nm' Bo' Le' Hg' U', (∃ q, T_Model_readTopics iC iE res T' Nm' Bo' Le' Hg' U' q 2 (nI (2 + 10 * t)) (nI t) (nI 6) tp Nm2 Bo Le Hg (decide (J.length < 2 + 10 * t + 6))) → ∃ q, T_Model_readTopics iC iE res T' Nm' Bo' Le' Hg' U' q 2 (nI (2 + 10 * t)) (nI t) (nI k) tp Nm Bo Le Hg (decide (J.length < 2 + 10 * t + k)) := by
  by_cases h1 : k < 6
  · have b1 := mo_byteAt hJ (p := 2 + 10 * t + k) (by omega) (decide (J.length < 2 + 10 * t + k))
    have eu : (decide (J.length < 2 + 10 * t + k) || decide (J.length ≤ 2 + 10 * t + k)) = decide (J.length < 2 + 10 * t + (k + 1)) := by
      rw [← Bool.decide_or]; congr 1; simp only [eq_iff_iff]; omega
    rw [eu] at b1
    obtain ⟨N2, c1, c2, c3⟩ := rt2 hJ hy ht (k + 1) h1 (upd Nm (6 * t + k) (nI (J.getD (2 + 10 * t + k) 0))) (fun j hj => by
      simp only [upd]
      by_cases h2 : j = k
      · rw [if_pos (by omega), h2]
      · rw [if_neg (by omega)]; exact hold j (by omega)) (tp := tp) (Bo := Bo) (Le := Le) (Hg := Hg)
    refine ⟨N2, c1, fun i hi => ?_, fun res T' Nm' Bo' Le' Hg' U' hq => ?_⟩
    · rw [c2 i hi]; simp only [upd]; rw [if_neg (by omega)]
    · obtain ⟨q, hq⟩ := c3 res T' Nm' Bo' Le' Hg' U' hq
      refine ⟨q + 1, ?_⟩
      rw [T_Model_readTopics]
      simp (disch := omega) only [S_Model_readTopics, B_Model_readTopics_69, q_lit, le_T, le_F, lt_T, lt_F, eq_T, eq_F, m1_lt, m1_le, lt_m1, le_m1, eq_m1, m1_eq, nI_add, nI_sub, nI_dec, nI_mul, nI_or, nI_and, nI_div, nI_mod, and_255, and_31, and_1, and_63, nI_shl, nI_shr, bI_F, bI_1, vp_T, cl_T, true_implies, false_implies, not_true_eq_false, not_false_eq_true, true_and, and_true, false_and, and_false, Bool.false_eq_true, Bool.true_eq_false, reduceCtorEq, implies_true]
      exact ⟨_, _, b1, hq⟩
  · refine ⟨Nm, fun j hj => hold j (by omega), fun i _ => rfl, fun res T' Nm' Bo' Le' Hg' U' hq => ?_⟩
    rw [show k = 6 by omega]; exact hq
termination_by 6 - k
decreasing_by all_goals omega
theorem rt_bad {iE : Nat → Int32} {iC : Int32} {x1 x2 tp : Int32} {Nm Bo Le Hg : Nat → Int32} : ∃ q, T_Model_readTopics iC iE x1 tp Nm Bo Le Hg true q 1 x1 x2 (nI 0) tp Nm Bo Le Hg true := by
  have s7 : T_Model_readTopics iC iE x1 tp Nm Bo Le Hg true 1 7 x1 (nI 0) (nI 0) tp Nm Bo Le Hg true := by
    rw [T_Model_readTopics]
    simp (disch := omega) only [S_Model_readTopics, B_Model_readTopics_212, q_lit, le_T, le_F, lt_T, lt_F, eq_T, eq_F, m1_lt, m1_le, lt_m1, le_m1, eq_m1, m1_eq, nI_add, nI_sub, nI_dec, nI_mul, nI_or, nI_and, nI_div, nI_mod, and_255, and_31, and_1, and_63, nI_shl, nI_shr, bI_F, bI_1, vp_T, cl_T, true_implies, false_implies, not_true_eq_false, not_false_eq_true, true_and, and_true, false_and, and_false, Bool.false_eq_true, Bool.true_eq_false, reduceCtorEq, implies_true]
  have s6 : T_Model_readTopics iC iE x1 tp Nm Bo Le Hg true 2 6 x1 (nI 0) (nI 0) tp Nm Bo Le Hg true := by
    rw [T_Model_readTopics]
    simp (disch := omega) only [S_Model_readTopics, B_Model_readTopics_210, q_lit, le_T, le_F, lt_T, lt_F, eq_T, eq_F, m1_lt, m1_le, lt_m1, le_m1, eq_m1, m1_eq, nI_add, nI_sub, nI_dec, nI_mul, nI_or, nI_and, nI_div, nI_mod, and_255, and_31, and_1, and_63, nI_shl, nI_shr, bI_F, bI_1, vp_T, cl_T, true_implies, false_implies, not_true_eq_false, not_false_eq_true, true_and, and_true, false_and, and_false, Bool.false_eq_true, Bool.true_eq_false, reduceCtorEq, implies_true]
    exact s7
  have s5 : T_Model_readTopics iC iE x1 tp Nm Bo Le Hg true 3 5 x1 (nI 0) (nI 0) tp Nm Bo Le Hg true := by
    rw [T_Model_readTopics]
    simp (disch := omega) only [S_Model_readTopics, B_Model_readTopics_176, q_lit, le_T, le_F, lt_T, lt_F, eq_T, eq_F, m1_lt, m1_le, lt_m1, le_m1, eq_m1, m1_eq, nI_add, nI_sub, nI_dec, nI_mul, nI_or, nI_and, nI_div, nI_mod, and_255, and_31, and_1, and_63, nI_shl, nI_shr, bI_F, bI_1, vp_T, cl_T, true_implies, false_implies, not_true_eq_false, not_false_eq_true, true_and, and_true, false_and, and_false, Bool.false_eq_true, Bool.true_eq_false, reduceCtorEq, implies_true]
    exact ⟨fun _ => s6, fun _ => s6⟩
  have s4 : T_Model_readTopics iC iE x1 tp Nm Bo Le Hg true 4 4 x1 (nI 0) (nI 0) tp Nm Bo Le Hg true := by
    rw [T_Model_readTopics]
    simp (disch := omega) only [S_Model_readTopics, B_Model_readTopics_174, q_lit, le_T, le_F, lt_T, lt_F, eq_T, eq_F, m1_lt, m1_le, lt_m1, le_m1, eq_m1, m1_eq, nI_add, nI_sub, nI_dec, nI_mul, nI_or, nI_and, nI_div, nI_mod, and_255, and_31, and_1, and_63, nI_shl, nI_shr, bI_F, bI_1, vp_T, cl_T, true_implies, false_implies, not_true_eq_false, not_false_eq_true, true_and, and_true, false_and, and_false, Bool.false_eq_true, Bool.true_eq_false, reduceCtorEq, implies_true]
    exact s5
  refine ⟨5, ?_⟩
  rw [T_Model_readTopics]
  simp (disch := omega) only [S_Model_readTopics, B_Model_readTopics_52, q_lit, le_T, le_F, lt_T, lt_F, eq_T, eq_F, m1_lt, m1_le, lt_m1, le_m1, eq_m1, m1_eq, nI_add, nI_sub, nI_dec, nI_mul, nI_or, nI_and, nI_div, nI_mod, and_255, and_31, and_1, and_63, nI_shl, nI_shr, bI_F, bI_1, vp_T, cl_T, true_implies, false_implies, not_true_eq_false, not_false_eq_true, true_and, and_true, false_and, and_false, Bool.false_eq_true, Bool.true_eq_false, reduceCtorEq, implies_true]
  exact ⟨fun _ => s4, fun _ => s4⟩
set_option maxRecDepth 100000 in
theorem rt1 {J : List Nat} {iE : Nat → Int32} {iC : Int32} (hJ : Rw 8000 iE iC J) (hy : q_By J) {tn : Nat} (htn : tn ≤ 10) {Bo : Nat → Int32} (t : Nat) (ht : t ≤ tn) (hl : 2 + 10 * t ≤ J.length) (Nm Le Hg : Nat → Int32) (hA : HA J t Nm Le Hg) :
    (∃ Nm2 Le2 Hg2, HA J tn Nm2 Le2 Hg2 ∧ (∀ u, t ≤ u → u < tn → HD J u) ∧ ∀ res T' Nm' Bo' Le' Hg' U', (∃ q, T_Model_readTopics iC iE res T' Nm' Bo' Le' Hg' U' q 4 (nI (2 + 10 * tn)) (nI 0) (nI 0) (nI tn) Nm2 Bo Le2 Hg2 false) → ∃ q, T_Model_readTopics iC iE res T' Nm' Bo' Le' Hg' U' q 1 (nI (2 + 10 * t)) (nI t) (nI 0) (nI tn) Nm Bo Le Hg false) ∨
    (¬ (∀ u, t ≤ u → u < tn → HD J u) ∧ ∃ (x : Nat) (Nm2 Le2 Hg2 : Nat → Int32), x < 1000 ∧ ∃ q, T_Model_readTopics iC iE (nI x) (nI tn) Nm2 Bo Le2 Hg2 true q 1 (nI (2 + 10 * t)) (nI t) (nI 0) (nI tn) Nm Bo Le Hg false) := by
  have h8 := hJ.2.1
  by_cases h1 : t < tn
  · obtain ⟨N2, c1, c2, c3⟩ := rt2 hJ hy (t := t) (by omega) (tp := nI tn) (Bo := Bo) (Le := Le) (Hg := Hg) 0 (by omega) Nm (fun j hj => by omega)
    have t1 := mo_twoAt hJ hy (p := 2 + 10 * t + 6) (by omega) rfl
    have t2 := mo_twoAt hJ hy (p := 2 + 10 * t + 8) (by omega) rfl
    have l1 := (hy.getD (2 + 10 * t + 6))
    have l2 := (hy.getD (2 + 10 * t + 6 + 1))
    have hln : ln0 J t < 65536 := by unfold ln0 pr; omega
    have hN2 : NmR N2 (Vs J (t + 1)) := by
      intro u hu k hk
      rw [Vs_len] at hu
      rw [Vs_bd J hu, seg_getD J _ hk]
      by_cases h2 : u = t
      · rw [h2]; exact c1 k hk
      · rw [c2 _ (by omega)]
        have := hA.1 u (by rw [Vs_len]; omega) k hk
        rw [Vs_bd J (by omega), seg_getD J _ hk] at this
        exact this
    have htnm := mo_tn hN2 (Vs_by hy _) (by rw [Vs_len]; omega) (t := t) (by rw [Vs_len]; omega)
    have e0 : decide (J.length < 2 + 10 * t + 0) = false := decide_eq_false (by omega)
    rw [e0] at c3
    -- to label 2
    have go : ∀ {res T' Nm' Bo' Le' Hg' U'}, (∃ q, T_Model_readTopics iC iE res T' Nm' Bo' Le' Hg' U' q 3 (nI (2 + 10 * t)) (nI t) (nI 0) (nI tn) N2 Bo (upd Le t (nI (ln0 J t))) (upd Hg t (nI (pk0 J t))) (!(decide (2 + 10 * t + 10 ≤ J.length) && decide (ln0 J t ≤ 255) && tnOk (Vs J (t + 1)) t))) → ∃ q, T_Model_readTopics iC iE res T' Nm' Bo' Le' Hg' U' q 1 (nI (2 + 10 * t)) (nI t) (nI 0) (nI tn) Nm Bo Le Hg false := by
      intro res T' Nm' Bo' Le' Hg' U' hq
      obtain ⟨q, hq⟩ := hq
      obtain ⟨q2, hq2⟩ := c3 res T' Nm' Bo' Le' Hg' U' ⟨q + 1, by
        rw [T_Model_readTopics]
        simp (disch := omega) only [S_Model_readTopics, B_Model_readTopics_69, q_lit, le_T, le_F, lt_T, lt_F, eq_T, eq_F, m1_lt, m1_le, lt_m1, le_m1, eq_m1, m1_eq, nI_add, nI_sub, nI_dec, nI_mul, nI_or, nI_and, nI_div, nI_mod, and_255, and_31, and_1, and_63, nI_shl, nI_shr, bI_F, bI_1, vp_T, cl_T, true_implies, false_implies, not_true_eq_false, not_false_eq_true, true_and, and_true, false_and, and_false, Bool.false_eq_true, Bool.true_eq_false, reduceCtorEq, implies_true]
        refine ⟨_, _, t1, _, _, t2, ?_⟩
        have hle : upd Le t (nI (ln0 J t)) t = nI (ln0 J t) := upd_eq _ _ _
        by_cases g1 : 2 + 10 * t + 10 ≤ J.length
        · rw [decide_eq_true g1, Bool.true_and] at hq
          rw [decide_eq_false (show ¬ J.length < 2 + 10 * t + 8 + 2 by omega)]
          rw [hle]
          by_cases g2 : ln0 J t ≤ 255
          · rw [decide_eq_true g2, Bool.true_and] at hq
            simp (disch := omega) only [q_lit, le_T, le_F, lt_T, lt_F, eq_T, eq_F, m1_lt, m1_le, lt_m1, le_m1, eq_m1, m1_eq, nI_add, nI_sub, nI_dec, nI_mul, nI_or, nI_and, nI_div, nI_mod, and_255, and_31, and_1, and_63, nI_shl, nI_shr, bI_F, bI_1, vp_T, cl_T, true_implies, false_implies, not_true_eq_false, not_false_eq_true, true_and, and_true, false_and, and_false, Bool.false_eq_true, Bool.true_eq_false, reduceCtorEq, implies_true]
            refine ⟨_, htnm, ?_⟩
            cases g3 : tnOk (Vs J (t + 1)) t with
            | false =>
              rw [g3] at hq
              simp (disch := omega) only [q_lit, le_T, le_F, lt_T, lt_F, eq_T, eq_F, m1_lt, m1_le, lt_m1, le_m1, eq_m1, m1_eq, nI_add, nI_sub, nI_dec, nI_mul, nI_or, nI_and, nI_div, nI_mod, and_255, and_31, and_1, and_63, nI_shl, nI_shr, bI_F, bI_1, vp_T, cl_T, true_implies, false_implies, not_true_eq_false, not_false_eq_true, true_and, and_true, false_and, and_false, Bool.false_eq_true, Bool.true_eq_false, reduceCtorEq, implies_true]
              exact hq
            | true =>
              rw [g3] at hq
              simp (disch := omega) only [q_lit, le_T, le_F, lt_T, lt_F, eq_T, eq_F, m1_lt, m1_le, lt_m1, le_m1, eq_m1, m1_eq, nI_add, nI_sub, nI_dec, nI_mul, nI_or, nI_and, nI_div, nI_mod, and_255, and_31, and_1, and_63, nI_shl, nI_shr, bI_F, bI_1, vp_T, cl_T, true_implies, false_implies, not_true_eq_false, not_false_eq_true, true_and, and_true, false_and, and_false, Bool.false_eq_true, Bool.true_eq_false, reduceCtorEq, implies_true]
              exact hq
          · rw [decide_eq_false g2, Bool.false_and] at hq
            simp (disch := omega) only [q_lit, le_T, le_F, lt_T, lt_F, eq_T, eq_F, m1_lt, m1_le, lt_m1, le_m1, eq_m1, m1_eq, nI_add, nI_sub, nI_dec, nI_mul, nI_or, nI_and, nI_div, nI_mod, and_255, and_31, and_1, and_63, nI_shl, nI_shr, bI_F, bI_1, vp_T, cl_T, true_implies, false_implies, not_true_eq_false, not_false_eq_true, true_and, and_true, false_and, and_false, Bool.false_eq_true, Bool.true_eq_false, reduceCtorEq, implies_true]
            exact hq
        · rw [decide_eq_false g1, Bool.false_and, Bool.false_and] at hq
          rw [decide_eq_true (show J.length < 2 + 10 * t + 8 + 2 by omega)]
          simp (disch := omega) only [q_lit, le_T, le_F, lt_T, lt_F, eq_T, eq_F, m1_lt, m1_le, lt_m1, le_m1, eq_m1, m1_eq, nI_add, nI_sub, nI_dec, nI_mul, nI_or, nI_and, nI_div, nI_mod, and_255, and_31, and_1, and_63, nI_shl, nI_shr, bI_F, bI_1, vp_T, cl_T, true_implies, false_implies, not_true_eq_false, not_false_eq_true, true_and, and_true, false_and, and_false, Bool.false_eq_true, Bool.true_eq_false, reduceCtorEq, implies_true]
          exact hq⟩
      refine ⟨q2 + 1, ?_⟩
      rw [T_Model_readTopics]
      simp (disch := omega) only [S_Model_readTopics, B_Model_readTopics_52, q_lit, le_T, le_F, lt_T, lt_F, eq_T, eq_F, m1_lt, m1_le, lt_m1, le_m1, eq_m1, m1_eq, nI_add, nI_sub, nI_dec, nI_mul, nI_or, nI_and, nI_div, nI_mod, and_255, and_31, and_1, and_63, nI_shl, nI_shr, bI_F, bI_1, vp_T, cl_T, true_implies, false_implies, not_true_eq_false, not_false_eq_true, true_and, and_true, false_and, and_false, Bool.false_eq_true, Bool.true_eq_false, reduceCtorEq, implies_true]
      exact hq2
    by_cases hD : HD J t
    · obtain ⟨d1, d2, d3⟩ := hD
      rw [decide_eq_true d1, decide_eq_true d2, d3] at go
      have hA2 : HA J (t + 1) N2 (upd Le t (nI (ln0 J t))) (upd Hg t (nI (pk0 J t))) := ⟨hN2, fun u hu => by
        simp only [upd]
        by_cases h2 : u = t
        · rw [if_pos h2, if_pos h2, h2]; exact ⟨rfl, rfl⟩
        · rw [if_neg h2, if_neg h2]; exact hA.2 u (by omega)⟩
      have nx : ∀ {res T' Nm' Bo' Le' Hg' U'}, (∃ q, T_Model_readTopics iC iE res T' Nm' Bo' Le' Hg' U' q 1 (nI (2 + 10 * (t + 1))) (nI (t + 1)) (nI 0) (nI tn) N2 Bo (upd Le t (nI (ln0 J t))) (upd Hg t (nI (pk0 J t))) false) → ∃ q, T_Model_readTopics iC iE res T' Nm' Bo' Le' Hg' U' q 1 (nI (2 + 10 * t)) (nI t) (nI 0) (nI tn) Nm Bo Le Hg false := by
        intro res T' Nm' Bo' Le' Hg' U' hq
        obtain ⟨q, hq⟩ := hq
        refine go ⟨q + 1, ?_⟩
        rw [T_Model_readTopics]
        simp (disch := omega) only [S_Model_readTopics, B_Model_readTopics_163, q_lit, le_T, le_F, lt_T, lt_F, eq_T, eq_F, m1_lt, m1_le, lt_m1, le_m1, eq_m1, m1_eq, nI_add, nI_sub, nI_dec, nI_mul, nI_or, nI_and, nI_div, nI_mod, and_255, and_31, and_1, and_63, nI_shl, nI_shr, bI_F, bI_1, vp_T, cl_T, true_implies, false_implies, not_true_eq_false, not_false_eq_true, true_and, and_true, false_and, and_false, Bool.false_eq_true, Bool.true_eq_false, reduceCtorEq, implies_true]
        exact hq
      rcases rt1 hJ hy htn (Bo := Bo) (t + 1) h1 (by omega) N2 _ _ hA2 with ⟨N3, L3, H3, a1, a2, a3⟩ | ⟨a1, x, N3, L3, H3, a2, a3⟩
      · refine Or.inl ⟨N3, L3, H3, a1, fun u h2 h3 => ?_, fun res T' Nm' Bo' Le' Hg' U' hq => nx (a3 res T' Nm' Bo' Le' Hg' U' hq)⟩
        by_cases h4 : u = t
        · rw [h4]; exact ⟨d1, d2, d3⟩
        · exact a2 u (by omega) h3
      · exact Or.inr ⟨fun h9 => a1 (fun u h2 h3 => h9 u (by omega) h3), x, N3, L3, H3, a2, nx a3⟩
    · have hf : (decide (2 + 10 * t + 10 ≤ J.length) && decide (ln0 J t ≤ 255) && tnOk (Vs J (t + 1)) t) = false := by
        rw [Bool.eq_false_iff]
        intro h9
        simp only [Bool.and_eq_true, decide_eq_true_eq] at h9
        exact hD ⟨h9.1.1, h9.1.2, h9.2⟩
      rw [hf] at go
      refine Or.inr ⟨fun h9 => hD (h9 t (Nat.le_refl _) h1), 2 + 10 * t + 10, N2, upd Le t (nI (ln0 J t)), upd Hg t (nI (pk0 J t)), by omega, go ?_⟩
      obtain ⟨q, hq⟩ := rt_bad (iE := iE) (iC := iC) (x1 := nI (2 + 10 * t + 10)) (x2 := nI (t + 1)) (tp := nI tn) (Nm := N2) (Bo := Bo) (Le := upd Le t (nI (ln0 J t))) (Hg := upd Hg t (nI (pk0 J t)))
      refine ⟨q + 1, ?_⟩
      rw [T_Model_readTopics]
      simp (disch := omega) only [S_Model_readTopics, B_Model_readTopics_163, q_lit, le_T, le_F, lt_T, lt_F, eq_T, eq_F, m1_lt, m1_le, lt_m1, le_m1, eq_m1, m1_eq, nI_add, nI_sub, nI_dec, nI_mul, nI_or, nI_and, nI_div, nI_mod, and_255, and_31, and_1, and_63, nI_shl, nI_shr, bI_F, bI_1, vp_T, cl_T, true_implies, false_implies, not_true_eq_false, not_false_eq_true, true_and, and_true, false_and, and_false, Bool.false_eq_true, Bool.true_eq_false, reduceCtorEq, implies_true]
      exact hq
  · have htt : t = tn := by omega
    subst htt
    refine Or.inl ⟨Nm, Le, Hg, hA, fun u h2 h3 => by omega, fun res T' Nm' Bo' Le' Hg' U' hq => ?_⟩
    obtain ⟨q, hq⟩ := hq
    refine ⟨q + 1, ?_⟩
    rw [T_Model_readTopics]
    simp (disch := omega) only [S_Model_readTopics, B_Model_readTopics_52, q_lit, le_T, le_F, lt_T, lt_F, eq_T, eq_F, m1_lt, m1_le, lt_m1, le_m1, eq_m1, m1_eq, nI_add, nI_sub, nI_dec, nI_mul, nI_or, nI_and, nI_div, nI_mod, and_255, and_31, and_1, and_63, nI_shl, nI_shr, bI_F, bI_1, vp_T, cl_T, true_implies, false_implies, not_true_eq_false, not_false_eq_true, true_and, and_true, false_and, and_false, Bool.false_eq_true, Bool.true_eq_false, reduceCtorEq, implies_true]
    exact hq
termination_by tn - t
decreasing_by all_goals omega
