/-! Pure: what was packed is unpacked, the reference; names and bodies. -/
theorem pcm_pce {J : List Nat} {len p : Nat} {c : List Nat} {p' : Nat} {c' : List Nat} (h : pce J p c = some (p', c')) (h1 : p' ≤ J.length) (h2 : c'.length ≤ len) (h3 : J.getD p 0 ≤ 188) : pcm J len p c = some (p', c') := by
  unfold pce at h
  unfold pcm
  split at h
  · rename_i g1
    split at h
    · simp only [Option.some.injEq, Prod.mk.injEq] at h
      obtain ⟨rfl, rfl⟩ := h
      simp only [List.length_append, seg_len] at h2
      rw [if_neg (by omega), if_pos g1, if_neg (by omega)]
    · cases h
  · rename_i g1
    split at h
    · cases h
    · rename_i g2
      simp only [Option.some.injEq, Prod.mk.injEq] at h
      obtain ⟨rfl, rfl⟩ := h
      rw [cpy_len] at h2
      rw [if_neg (by omega), if_neg g1, if_neg (by omega)]
theorem upm_s {J : List Nat} {len f i p : Nat} {c : List Nat} {p' : Nat} {c' : List Nat} (h : pcm J len p c = some (p', c')) (hp : p < f) : upm J len f (i + 1) p c = upm J len f i p' c' := by
  rw [upm, if_pos hp, h]
theorem upm_mono {J : List Nat} {len f : Nat} (i : Nat) {p : Nat} {c b : List Nat} (h : upm J len f i p c = some b) (j : Nat) (hj : i ≤ j) : upm J len f j p c = some b := by
  induction i generalizing p c j with
  | zero => simp [upm] at h
  | succ i ih =>
    cases j with
    | zero => omega
    | succ j =>
      rw [upm] at h ⊢
      split
      · rename_i h1
        rw [if_pos h1] at h
        cases hp : pcm J len p c with
        | none => rw [hp] at h; simp at h
        | some q => rw [hp] at h; exact ih h j (by omega)
      · rename_i h1
        rw [if_neg h1] at h; exact h
theorem take_le {b : List Nat} (n : Nat) : (b.take n).length ≤ b.length := by rw [List.length_take]; omega
theorem upm_lits {J b : List Nat} (hb : b.length ≤ 255) {p at0 n f i : Nat} (ha : at0 ≤ b.length) (hn2 : n ≤ 128) (hna : n ≤ at0) (h : q_At J p (lits b at0 n)) (hf : p + (lits b at0 n).length ≤ f) : ∃ j, j ≤ n ∧ upm J b.length f (i + j) p (b.take (at0 - n)) = upm J b.length f i (p + (lits b at0 n).length) (b.take at0) := by
  by_cases h0 : n = 0
  · subst h0; exact ⟨0, by omega, by simp [lits]⟩
  · have hll := lits_len (b := b) ha hna
    rw [if_neg h0] at hll
    have hat := at_len h (by omega)
    have hfst : J.getD p 0 ≤ 188 := by
      unfold lits at h; rw [if_neg h0] at h
      rw [(at_cons h).1]; omega
    exact ⟨1, by omega, upm_s (pcm_pce (pce_lits hb ha (by omega) hn2 hna h) hat (take_le _) hfst) (by omega)⟩
set_option maxRecDepth 100000 in
theorem upm_pkS {J b : List Nat} (hb : b.length ≤ 255) (p at0 li : Nat) (ha : at0 ≤ b.length) (hl : li ≤ 128) (hla : li ≤ at0) (h : q_At J p (pkS b at0 li)) : upm J b.length (p + (pkS b at0 li).length) (b.length - (at0 - li) + 1) p (b.take (at0 - li)) = some b := by
  rw [pkS] at h ⊢
  by_cases h1 : at0 < b.length
  · rw [dif_pos h1] at h ⊢
    by_cases h2 : 2 < (q_best b at0).1
    · rw [dif_pos h2] at h ⊢
      have hk := best_ok h2
      have hend := alk_end b at0 (q_best b at0).2 0 (by omega)
      rw [← hk.2.2] at hend
      have h63 : (q_best b at0).1 ≤ 63 := by rw [hk.2.2]; exact alk_le _ _ _ _ (by omega)
      obtain ⟨a1, a2⟩ := at_app h
      obtain ⟨a3, a4⟩ := at_app a2
      have hat := at_len a3 (by simp)
      simp only [List.length_cons, List.length_nil] at hat
      have ih := upm_pkS hb (p + (lits b at0 li).length + [128 + (q_best b at0).1 - 3, (q_best b at0).2].length) (at0 + (q_best b at0).1) 0 hend (by omega) (by omega) a4
      simp only [List.length_append, List.length_cons, List.length_nil, Nat.sub_zero] at ih a4 ⊢
      rw [show p + (lits b at0 li).length + (0 + 1 + 1) + (pkS b (at0 + (q_best b at0).1) 0).length = p + ((lits b at0 li).length + (0 + 1 + 1 + (pkS b (at0 + (q_best b at0).1) 0).length)) by omega] at ih
      have hc := upm_s (len := b.length) (i := b.length - (at0 + (q_best b at0).1) + 1) (pcm_pce (pce_copy hb h2 ha a3) (by omega) (take_le _) (by rw [(at_cons a3).1]; omega)) (f := p + ((lits b at0 li).length + (0 + 1 + 1 + (pkS b (at0 + (q_best b at0).1) 0).length))) (by omega)
      rw [show p + (lits b at0 li).length + 2 = p + (lits b at0 li).length + (0 + 1 + 1) by omega, ih] at hc
      obtain ⟨j, hj, hq⟩ := upm_lits (i := b.length - (at0 + (q_best b at0).1) + 1 + 1) hb ha hl hla a1 (f := p + ((lits b at0 li).length + (0 + 1 + 1 + (pkS b (at0 + (q_best b at0).1) 0).length))) (by omega)
      rw [hc] at hq
      exact upm_mono _ hq _ (by omega)
    · rw [dif_neg h2] at h ⊢
      by_cases h3 : li = 128
      · rw [if_pos h3] at h ⊢
        subst h3
        obtain ⟨a1, a2⟩ := at_app h
        have ih := upm_pkS hb (p + (lits b at0 128).length) (at0 + 1) 1 (by omega) (by omega) (by omega) a2
        simp only [List.length_append] at ih ⊢
        rw [show at0 + 1 - 1 = at0 by omega, Nat.add_assoc] at ih
        obtain ⟨j, hj, hq⟩ := upm_lits (i := b.length - at0 + 1) hb ha hl hla a1 (f := p + ((lits b at0 128).length + (pkS b (at0 + 1) 1).length)) (by omega)
        rw [ih] at hq
        exact upm_mono _ hq _ (by omega)
      · rw [if_neg h3] at h ⊢
        have ih := upm_pkS hb p (at0 + 1) (li + 1) (by omega) (by omega) (by omega) h
        rw [show at0 + 1 - (li + 1) = at0 - li by omega] at ih
        exact ih
  · rw [dif_neg h1] at h ⊢
    have hae : at0 = b.length := by omega
    obtain ⟨j, hj, hq⟩ := upm_lits (i := 1) hb ha hl hla h (f := p + (lits b at0 li).length) (by omega)
    have : upm J b.length (p + (lits b at0 li).length) 1 (p + (lits b at0 li).length) (b.take at0) = some b := by
      rw [hae, List.take_length]; simp [upm]
    rw [this] at hq
    exact upm_mono _ hq _ (by omega)
termination_by b.length - at0
decreasing_by all_goals omega
theorem upm_pk {J b : List Nat} (hb : b.length ≤ 255) {p : Nat} (h : q_At J p (pk b)) : upm J b.length (p + (pk b).length) 256 p [] = some b := by
  have := upm_pkS hb p 0 0 (by omega) (by omega) (by omega) h
  simp only [Nat.sub_zero, List.take_zero] at this
  exact upm_mono _ this _ (by omega)
theorem pcm_by {J : List Nat} (hJ : q_By J) {len p : Nat} {c : List Nat} (hc : q_By c) {p' : Nat} {c' : List Nat} (h : pcm J len p c = some (p', c')) : q_By c' := by
  unfold pcm at h
  split at h
  · cases h
  · split at h
    · split at h
      · cases h
      · simp only [Option.some.injEq, Prod.mk.injEq] at h
        rw [← h.2]; exact q_By.app hc (seg_by hJ _ _)
    · split at h
      · cases h
      · simp only [Option.some.injEq, Prod.mk.injEq] at h
        rw [← h.2]; exact cpy_by hc _ _
theorem upm_by {J : List Nat} (hJ : q_By J) {len f : Nat} (i p : Nat) {c r : List Nat} (hc : q_By c) (h : upm J len f i p c = some r) : q_By r ∧ r.length = len := by
  induction i generalizing p c with
  | zero => simp [upm] at h
  | succ i ih =>
    rw [upm] at h
    split at h
    · cases hp : pcm J len p c with
      | none => rw [hp] at h; cases h
      | some q => rw [hp] at h; exact ih _ (pcm_by hJ hc hp) h
    · split at h
      · rename_i h1
        simp only [Option.some.injEq] at h; rw [← h]; exact ⟨hc, h1.1⟩
      · cases h
/-- raw names: six bytes each -/
def NmR (Nm : Nat → Int32) (V : List (List Nat)) : Prop := ∀ t, t < V.length → ∀ k, k < 6 → Nm (6 * t + k) = nI ((bd V t).getD k 0)
def zr (v : List Nat) (k : Nat) : Bool := if k < 6 then decide (v.getD k 0 = 0) && zr v (k + 1) else true
termination_by 6 - k
decreasing_by all_goals omega
def uq (V : List (List Nat)) (t u : Nat) : Bool := if u < t then !(q_sameK (bd V t) (bd V u) 6) && uq V t (u + 1) else true
termination_by t - u
decreasing_by all_goals omega
def q_sN (v : List Nat) (n : Nat) : Nat := if n < 6 ∧ isSm (v.getD n 0) = true then q_sN v (n + 1) else n
termination_by 6 - n
decreasing_by all_goals omega
set_option maxRecDepth 100000 in
theorem sN_le (v : List Nat) (n : Nat) (h : n ≤ 6) : q_sN v n ≤ 6 ∧ n ≤ q_sN v n := by
  rw [q_sN]; split
  · have := sN_le v (n + 1) (by omega); omega
  · omega
termination_by 6 - n
decreasing_by all_goals omega
def tnOk (V : List (List Nat)) (t : Nat) : Bool := decide (0 < q_sN (bd V t) 0) && zr (bd V t) (q_sN (bd V t) 0) && uq V t 0
set_option maxRecDepth 100000 in
theorem tn6 {Nm : Nat → Int32} {V : List (List Nat)} (hN : NmR Nm V) (hV : ∀ v ∈ V, q_By v) (hV10 : V.length ≤ 10) {t : Nat} (ht : t < V.length) {u : Nat} (hu : u < t) {g : Bool} {res : Bool} (q_fin : ∃ q, T_Model_isTopicName Nm res q 5 (nI t) (nI 0) (g && !(q_sameK (bd V t) (bd V u) 6)) (nI (u + 1)) false (nI 0)) (k : Nat) (hk : k ≤ 6) : ∃ q, T_Model_isTopicName Nm res q 6 (nI t) (nI 0) g (nI u) (q_sameK (bd V t) (bd V u) k) (nI k) := by
  by_cases h1 : k < 6
  · obtain ⟨q, hq⟩ := tn6 hN hV hV10 ht hu q_fin (k + 1) h1
    have e1 := hN t ht k h1
    have e2 := hN u (by omega) k h1
    have v1 := (hV _ (bd_mem ht)).getD k
    have v2 := (hV _ (bd_mem (show u < V.length by omega))).getD k
    rw [sameK_s] at hq
    cases hs : q_sameK (bd V t) (bd V u) k with
    | false =>
      rw [hs, Bool.false_and] at hq
      refine ⟨q + 2, ?_⟩
      simp (disch := omega) only [T_Model_isTopicName, S_Model_isTopicName, B_Model_isTopicName_97, B_Model_isTopicName_141, q_lit, le_T, le_F, lt_T, lt_F, eq_T, eq_F, m1_lt, m1_le, lt_m1, le_m1, eq_m1, m1_eq, nI_add, nI_sub, nI_dec, nI_mul, nI_or, nI_and, nI_div, nI_mod, and_255, and_31, and_1, and_63, nI_shl, nI_shr, bI_F, bI_1, vp_T, cl_T, true_implies, false_implies, not_true_eq_false, not_false_eq_true, true_and, and_true, false_and, and_false, Bool.false_eq_true, Bool.true_eq_false, reduceCtorEq, implies_true, q_lc_eq, q_lc_ge, q_lc_gt, q_lc_le, lN_or, lN_and, lN_shl, lN_shr, nI_L, lN_I, l_0]
      exact hq
    | true =>
      rw [hs, Bool.true_and] at hq
      by_cases h2 : (bd V t).getD k 0 = (bd V u).getD k 0
      · rw [decide_eq_true h2] at hq
        refine ⟨q + 1, ?_⟩
        simp (disch := omega) only [T_Model_isTopicName, S_Model_isTopicName, B_Model_isTopicName_97, e1, e2, q_lit, le_T, le_F, lt_T, lt_F, eq_T, eq_F, m1_lt, m1_le, lt_m1, le_m1, eq_m1, m1_eq, nI_add, nI_sub, nI_dec, nI_mul, nI_or, nI_and, nI_div, nI_mod, and_255, and_31, and_1, and_63, nI_shl, nI_shr, bI_F, bI_1, vp_T, cl_T, true_implies, false_implies, not_true_eq_false, not_false_eq_true, true_and, and_true, false_and, and_false, Bool.false_eq_true, Bool.true_eq_false, reduceCtorEq, implies_true, q_lc_eq, q_lc_ge, q_lc_gt, q_lc_le, lN_or, lN_and, lN_shl, lN_shr, nI_L, lN_I, l_0]
        exact hq
      · rw [decide_eq_false h2] at hq
        refine ⟨q + 2, ?_⟩
        simp (disch := omega) only [T_Model_isTopicName, S_Model_isTopicName, B_Model_isTopicName_97, B_Model_isTopicName_141, e1, e2, q_lit, le_T, le_F, lt_T, lt_F, eq_T, eq_F, m1_lt, m1_le, lt_m1, le_m1, eq_m1, m1_eq, nI_add, nI_sub, nI_dec, nI_mul, nI_or, nI_and, nI_div, nI_mod, and_255, and_31, and_1, and_63, nI_shl, nI_shr, bI_F, bI_1, vp_T, cl_T, true_implies, false_implies, not_true_eq_false, not_false_eq_true, true_and, and_true, false_and, and_false, Bool.false_eq_true, Bool.true_eq_false, reduceCtorEq, implies_true, q_lc_eq, q_lc_ge, q_lc_gt, q_lc_le, lN_or, lN_and, lN_shl, lN_shr, nI_L, lN_I, l_0]
        exact hq
  · obtain ⟨q, hq⟩ := q_fin
    rw [show k = 6 by omega]
    cases g with
    | false =>
      rw [Bool.false_and] at hq
      refine ⟨q + 2, ?_⟩
      simp (disch := omega) only [T_Model_isTopicName, S_Model_isTopicName, B_Model_isTopicName_97, B_Model_isTopicName_163, q_lit, le_T, le_F, lt_T, lt_F, eq_T, eq_F, m1_lt, m1_le, lt_m1, le_m1, eq_m1, m1_eq, nI_add, nI_sub, nI_dec, nI_mul, nI_or, nI_and, nI_div, nI_mod, and_255, and_31, and_1, and_63, nI_shl, nI_shr, bI_F, bI_1, vp_T, cl_T, true_implies, false_implies, not_true_eq_false, not_false_eq_true, true_and, and_true, false_and, and_false, Bool.false_eq_true, Bool.true_eq_false, reduceCtorEq, implies_true, q_lc_eq, q_lc_ge, q_lc_gt, q_lc_le, lN_or, lN_and, lN_shl, lN_shr, nI_L, lN_I, l_0]
      exact hq
    | true =>
      rw [Bool.true_and] at hq
      cases hs : q_sameK (bd V t) (bd V u) 6 with
      | false =>
        rw [hs] at hq
        refine ⟨q + 1, ?_⟩
        simp (disch := omega) only [T_Model_isTopicName, S_Model_isTopicName, B_Model_isTopicName_97, q_lit, le_T, le_F, lt_T, lt_F, eq_T, eq_F, m1_lt, m1_le, lt_m1, le_m1, eq_m1, m1_eq, nI_add, nI_sub, nI_dec, nI_mul, nI_or, nI_and, nI_div, nI_mod, and_255, and_31, and_1, and_63, nI_shl, nI_shr, bI_F, bI_1, vp_T, cl_T, true_implies, false_implies, not_true_eq_false, not_false_eq_true, true_and, and_true, false_and, and_false, Bool.false_eq_true, Bool.true_eq_false, reduceCtorEq, implies_true, q_lc_eq, q_lc_ge, q_lc_gt, q_lc_le, lN_or, lN_and, lN_shl, lN_shr, nI_L, lN_I, l_0]
        exact hq
      | true =>
        rw [hs] at hq
        refine ⟨q + 2, ?_⟩
        simp (disch := omega) only [T_Model_isTopicName, S_Model_isTopicName, B_Model_isTopicName_97, B_Model_isTopicName_163, q_lit, le_T, le_F, lt_T, lt_F, eq_T, eq_F, m1_lt, m1_le, lt_m1, le_m1, eq_m1, m1_eq, nI_add, nI_sub, nI_dec, nI_mul, nI_or, nI_and, nI_div, nI_mod, and_255, and_31, and_1, and_63, nI_shl, nI_shr, bI_F, bI_1, vp_T, cl_T, true_implies, false_implies, not_true_eq_false, not_false_eq_true, true_and, and_true, false_and, and_false, Bool.false_eq_true, Bool.true_eq_false, reduceCtorEq, implies_true, q_lc_eq, q_lc_ge, q_lc_gt, q_lc_le, lN_or, lN_and, lN_shl, lN_shr, nI_L, lN_I, l_0]
        exact hq
termination_by 6 - k
decreasing_by all_goals omega
set_option maxRecDepth 100000 in
theorem tn5 {Nm : Nat → Int32} {V : List (List Nat)} (hN : NmR Nm V) (hV : ∀ v ∈ V, q_By v) (hV10 : V.length ≤ 10) {t : Nat} (ht : t < V.length) (u : Nat) (hu : u ≤ t) (g : Bool) : ∃ q, T_Model_isTopicName Nm (g && uq V t u) q 5 (nI t) (nI 0) g (nI u) false (nI 0) := by
  rw [uq]
  by_cases h1 : u < t
  · rw [if_pos h1]
    obtain ⟨q, hq⟩ := tn6 hN hV hV10 ht h1 (g := g) (tn5 hN hV hV10 ht (u + 1) h1 (g && !(q_sameK (bd V t) (bd V u) 6))) 0 (by omega)
    refine ⟨q + 1, ?_⟩
    rw [Bool.and_assoc] at hq
    simp (disch := omega) only [T_Model_isTopicName, S_Model_isTopicName, B_Model_isTopicName_85, q_lit, le_T, le_F, lt_T, lt_F, eq_T, eq_F, m1_lt, m1_le, lt_m1, le_m1, eq_m1, m1_eq, nI_add, nI_sub, nI_dec, nI_mul, nI_or, nI_and, nI_div, nI_mod, and_255, and_31, and_1, and_63, nI_shl, nI_shr, bI_F, bI_1, vp_T, cl_T, true_implies, false_implies, not_true_eq_false, not_false_eq_true, true_and, and_true, false_and, and_false, Bool.false_eq_true, Bool.true_eq_false, reduceCtorEq, implies_true, q_lc_eq, q_lc_ge, q_lc_gt, q_lc_le, lN_or, lN_and, lN_shl, lN_shr, nI_L, lN_I, l_0]
    exact hq
  · rw [if_neg h1, Bool.and_true]
    refine ⟨1, ?_⟩
    simp (disch := omega) only [T_Model_isTopicName, S_Model_isTopicName, B_Model_isTopicName_85, q_lit, le_T, le_F, lt_T, lt_F, eq_T, eq_F, m1_lt, m1_le, lt_m1, le_m1, eq_m1, m1_eq, nI_add, nI_sub, nI_dec, nI_mul, nI_or, nI_and, nI_div, nI_mod, and_255, and_31, and_1, and_63, nI_shl, nI_shr, bI_F, bI_1, vp_T, cl_T, true_implies, false_implies, not_true_eq_false, not_false_eq_true, true_and, and_true, false_and, and_false, Bool.false_eq_true, Bool.true_eq_false, reduceCtorEq, implies_true, q_lc_eq, q_lc_ge, q_lc_gt, q_lc_le, lN_or, lN_and, lN_shl, lN_shr, nI_L, lN_I, l_0]
termination_by t - u
decreasing_by all_goals omega
set_option maxRecDepth 100000 in
theorem tn3 {Nm : Nat → Int32} {V : List (List Nat)} (hN : NmR Nm V) (hV : ∀ v ∈ V, q_By v) (hV10 : V.length ≤ 10) {t : Nat} (ht : t < V.length) (k : Nat) (hk : k ≤ 6) (g : Bool) : ∃ q, T_Model_isTopicName Nm (g && zr (bd V t) k && uq V t 0) q 3 (nI t) (nI 0) g (nI k) false (nI 0) := by
  rw [zr]
  by_cases h1 : k < 6
  · rw [if_pos h1]
    have e1 := hN t ht k h1
    have v1 := (hV _ (bd_mem ht)).getD k
    cases g with
    | false =>
      obtain ⟨q, hq⟩ := tn3 hN hV hV10 ht (k + 1) h1 false
      simp only [Bool.false_and] at hq ⊢
      refine ⟨q + 2, ?_⟩
      simp (disch := omega) only [T_Model_isTopicName, S_Model_isTopicName, B_Model_isTopicName_44, B_Model_isTopicName_74, q_lit, le_T, le_F, lt_T, lt_F, eq_T, eq_F, m1_lt, m1_le, lt_m1, le_m1, eq_m1, m1_eq, nI_add, nI_sub, nI_dec, nI_mul, nI_or, nI_and, nI_div, nI_mod, and_255, and_31, and_1, and_63, nI_shl, nI_shr, bI_F, bI_1, vp_T, cl_T, true_implies, false_implies, not_true_eq_false, not_false_eq_true, true_and, and_true, false_and, and_false, Bool.false_eq_true, Bool.true_eq_false, reduceCtorEq, implies_true, q_lc_eq, q_lc_ge, q_lc_gt, q_lc_le, lN_or, lN_and, lN_shl, lN_shr, nI_L, lN_I, l_0]
      exact hq
    | true =>
      by_cases h2 : (bd V t).getD k 0 = 0
      · obtain ⟨q, hq⟩ := tn3 hN hV hV10 ht (k + 1) h1 true
        rw [decide_eq_true h2]
        simp only [Bool.true_and] at hq ⊢
        refine ⟨q + 1, ?_⟩
        simp (disch := omega) only [T_Model_isTopicName, S_Model_isTopicName, B_Model_isTopicName_44, e1, q_lit, le_T, le_F, lt_T, lt_F, eq_T, eq_F, m1_lt, m1_le, lt_m1, le_m1, eq_m1, m1_eq, nI_add, nI_sub, nI_dec, nI_mul, nI_or, nI_and, nI_div, nI_mod, and_255, and_31, and_1, and_63, nI_shl, nI_shr, bI_F, bI_1, vp_T, cl_T, true_implies, false_implies, not_true_eq_false, not_false_eq_true, true_and, and_true, false_and, and_false, Bool.false_eq_true, Bool.true_eq_false, reduceCtorEq, implies_true, q_lc_eq, q_lc_ge, q_lc_gt, q_lc_le, lN_or, lN_and, lN_shl, lN_shr, nI_L, lN_I, l_0]
        exact hq
      · obtain ⟨q, hq⟩ := tn3 hN hV hV10 ht (k + 1) h1 false
        rw [decide_eq_false h2]
        simp only [Bool.true_and, Bool.false_and] at hq ⊢
        refine ⟨q + 2, ?_⟩
        simp (disch := omega) only [T_Model_isTopicName, S_Model_isTopicName, B_Model_isTopicName_44, B_Model_isTopicName_74, e1, q_lit, le_T, le_F, lt_T, lt_F, eq_T, eq_F, m1_lt, m1_le, lt_m1, le_m1, eq_m1, m1_eq, nI_add, nI_sub, nI_dec, nI_mul, nI_or, nI_and, nI_div, nI_mod, and_255, and_31, and_1, and_63, nI_shl, nI_shr, bI_F, bI_1, vp_T, cl_T, true_implies, false_implies, not_true_eq_false, not_false_eq_true, true_and, and_true, false_and, and_false, Bool.false_eq_true, Bool.true_eq_false, reduceCtorEq, implies_true, q_lc_eq, q_lc_ge, q_lc_gt, q_lc_le, lN_or, lN_and, lN_shl, lN_shr, nI_L, lN_I, l_0]
        exact hq
  · rw [if_neg h1, Bool.and_true]
    obtain ⟨q, hq⟩ := tn5 hN hV hV10 ht 0 (by omega) g
    refine ⟨q + 1, ?_⟩
    simp (disch := omega) only [T_Model_isTopicName, S_Model_isTopicName, B_Model_isTopicName_44, q_lit, le_T, le_F, lt_T, lt_F, eq_T, eq_F, m1_lt, m1_le, lt_m1, le_m1, eq_m1, m1_eq, nI_add, nI_sub, nI_dec, nI_mul, nI_or, nI_and, nI_div, nI_mod, and_255, and_31, and_1, and_63, nI_shl, nI_shr, bI_F, bI_1, vp_T, cl_T, true_implies, false_implies, not_true_eq_false, not_false_eq_true, true_and, and_true, false_and, and_false, Bool.false_eq_true, Bool.true_eq_false, reduceCtorEq, implies_true, q_lc_eq, q_lc_ge, q_lc_gt, q_lc_le, lN_or, lN_and, lN_shl, lN_shr, nI_L, lN_I, l_0]
    exact hq
termination_by 6 - k
decreasing_by all_goals omega
set_option maxRecDepth 100000 in
theorem tn0 {Nm : Nat → Int32} {V : List (List Nat)} (hN : NmR Nm V) (hV : ∀ v ∈ V, q_By v) (hV10 : V.length ≤ 10) {t : Nat} (ht : t < V.length) (n : Nat) (hn : n ≤ 6) : ∃ q, T_Model_isTopicName Nm (decide (0 < q_sN (bd V t) n) && zr (bd V t) (q_sN (bd V t) n) && uq V t 0) q 0 (nI t) (nI n) false (nI 0) false (nI 0) := by
  have stop : q_sN (bd V t) n = n → ∃ q, T_Model_isTopicName Nm (decide (0 < q_sN (bd V t) n) && zr (bd V t) (q_sN (bd V t) n) && uq V t 0) q 1 (nI t) (nI n) false (nI 0) false (nI 0) := by
    intro he
    rw [he]
    obtain ⟨q, hq⟩ := tn3 hN hV hV10 ht n hn (decide (0 < n))
    refine ⟨q + 2, ?_⟩
    by_cases h2 : 0 < n
    · rw [decide_eq_true h2] at hq ⊢
      simp (disch := omega) only [T_Model_isTopicName, S_Model_isTopicName, B_Model_isTopicName_31, B_Model_isTopicName_41, q_lit, le_T, le_F, lt_T, lt_F, eq_T, eq_F, m1_lt, m1_le, lt_m1, le_m1, eq_m1, m1_eq, nI_add, nI_sub, nI_dec, nI_mul, nI_or, nI_and, nI_div, nI_mod, and_255, and_31, and_1, and_63, nI_shl, nI_shr, bI_F, bI_1, vp_T, cl_T, true_implies, false_implies, not_true_eq_false, not_false_eq_true, true_and, and_true, false_and, and_false, Bool.false_eq_true, Bool.true_eq_false, reduceCtorEq, implies_true, q_lc_eq, q_lc_ge, q_lc_gt, q_lc_le, lN_or, lN_and, lN_shl, lN_shr, nI_L, lN_I, l_0]
      exact hq
    · rw [decide_eq_false h2] at hq ⊢
      simp (disch := omega) only [T_Model_isTopicName, S_Model_isTopicName, B_Model_isTopicName_31, B_Model_isTopicName_41, q_lit, le_T, le_F, lt_T, lt_F, eq_T, eq_F, m1_lt, m1_le, lt_m1, le_m1, eq_m1, m1_eq, nI_add, nI_sub, nI_dec, nI_mul, nI_or, nI_and, nI_div, nI_mod, and_255, and_31, and_1, and_63, nI_shl, nI_shr, bI_F, bI_1, vp_T, cl_T, true_implies, false_implies, not_true_eq_false, not_false_eq_true, true_and, and_true, false_and, and_false, Bool.false_eq_true, Bool.true_eq_false, reduceCtorEq, implies_true, q_lc_eq, q_lc_ge, q_lc_gt, q_lc_le, lN_or, lN_and, lN_shl, lN_shr, nI_L, lN_I, l_0]
      exact hq
  by_cases h1 : n < 6
  · have e1 := hN t ht n h1
    have v1 := (hV _ (bd_mem ht)).getD n
    have hs := mo_isSmall (x := (bd V t).getD n 0) (by omega)
    cases h2 : isSm ((bd V t).getD n 0) with
    | true =>
      have he : q_sN (bd V t) n = q_sN (bd V t) (n + 1) := by rw [q_sN, if_pos ⟨h1, h2⟩]
      rw [h2] at hs
      obtain ⟨q, hq⟩ := tn0 hN hV hV10 ht (n + 1) h1
      rw [he]
      refine ⟨q + 1, ?_⟩
      simp (disch := omega) only [T_Model_isTopicName, S_Model_isTopicName, B_Model_isTopicName_2, e1, q_lit, le_T, le_F, lt_T, lt_F, eq_T, eq_F, m1_lt, m1_le, lt_m1, le_m1, eq_m1, m1_eq, nI_add, nI_sub, nI_dec, nI_mul, nI_or, nI_and, nI_div, nI_mod, and_255, and_31, and_1, and_63, nI_shl, nI_shr, bI_F, bI_1, vp_T, cl_T, true_implies, false_implies, not_true_eq_false, not_false_eq_true, true_and, and_true, false_and, and_false, Bool.false_eq_true, Bool.true_eq_false, reduceCtorEq, implies_true, q_lc_eq, q_lc_ge, q_lc_gt, q_lc_le, lN_or, lN_and, lN_shl, lN_shr, nI_L, lN_I, l_0]
      exact ⟨_, hs, by simp (disch := omega) only [q_lit, le_T, le_F, lt_T, lt_F, eq_T, eq_F, m1_lt, m1_le, lt_m1, le_m1, eq_m1, m1_eq, nI_add, nI_sub, nI_dec, nI_mul, nI_or, nI_and, nI_div, nI_mod, and_255, and_31, and_1, and_63, nI_shl, nI_shr, bI_F, bI_1, vp_T, cl_T, true_implies, false_implies, not_true_eq_false, not_false_eq_true, true_and, and_true, false_and, and_false, Bool.false_eq_true, Bool.true_eq_false, reduceCtorEq, implies_true]; exact hq⟩
    | false =>
      have he : q_sN (bd V t) n = n := by rw [q_sN, if_neg (by rw [h2]; simp)]
      rw [h2] at hs
      obtain ⟨q, hq⟩ := stop he
      refine ⟨q + 1, ?_⟩
      simp (disch := omega) only [T_Model_isTopicName, S_Model_isTopicName, B_Model_isTopicName_2, e1, q_lit, le_T, le_F, lt_T, lt_F, eq_T, eq_F, m1_lt, m1_le, lt_m1, le_m1, eq_m1, m1_eq, nI_add, nI_sub, nI_dec, nI_mul, nI_or, nI_and, nI_div, nI_mod, and_255, and_31, and_1, and_63, nI_shl, nI_shr, bI_F, bI_1, vp_T, cl_T, true_implies, false_implies, not_true_eq_false, not_false_eq_true, true_and, and_true, false_and, and_false, Bool.false_eq_true, Bool.true_eq_false, reduceCtorEq, implies_true, q_lc_eq, q_lc_ge, q_lc_gt, q_lc_le, lN_or, lN_and, lN_shl, lN_shr, nI_L, lN_I, l_0]
      exact ⟨_, hs, by simp (disch := omega) only [q_lit, le_T, le_F, lt_T, lt_F, eq_T, eq_F, m1_lt, m1_le, lt_m1, le_m1, eq_m1, m1_eq, nI_add, nI_sub, nI_dec, nI_mul, nI_or, nI_and, nI_div, nI_mod, and_255, and_31, and_1, and_63, nI_shl, nI_shr, bI_F, bI_1, vp_T, cl_T, true_implies, false_implies, not_true_eq_false, not_false_eq_true, true_and, and_true, false_and, and_false, Bool.false_eq_true, Bool.true_eq_false, reduceCtorEq, implies_true]; exact hq⟩
  · have he : q_sN (bd V t) n = n := by rw [q_sN, if_neg (by omega)]
    obtain ⟨q, hq⟩ := stop he
    refine ⟨q + 1, ?_⟩
    simp (disch := omega) only [T_Model_isTopicName, S_Model_isTopicName, B_Model_isTopicName_2, q_lit, le_T, le_F, lt_T, lt_F, eq_T, eq_F, m1_lt, m1_le, lt_m1, le_m1, eq_m1, m1_eq, nI_add, nI_sub, nI_dec, nI_mul, nI_or, nI_and, nI_div, nI_mod, and_255, and_31, and_1, and_63, nI_shl, nI_shr, bI_F, bI_1, vp_T, cl_T, true_implies, false_implies, not_true_eq_false, not_false_eq_true, true_and, and_true, false_and, and_false, Bool.false_eq_true, Bool.true_eq_false, reduceCtorEq, implies_true, q_lc_eq, q_lc_ge, q_lc_gt, q_lc_le, lN_or, lN_and, lN_shl, lN_shr, nI_L, lN_I, l_0]
    exact hq
termination_by 6 - n
decreasing_by all_goals omega
theorem mo_tn {Nm : Nat → Int32} {V : List (List Nat)} (hN : NmR Nm V) (hV : ∀ v ∈ V, q_By v) (hV10 : V.length ≤ 10) {t : Nat} (ht : t < V.length) : D_Model_isTopicName (nI t) Nm (tnOk V t) := tn0 hN hV hV10 ht 0 (by omega)
