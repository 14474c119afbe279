/-! Pure: the reference resolves, and reads a source whole. -/
theorem mo_failR {k l ft fl : Nat} (hf : ft < 100) : D_Model_fail (nI k) (nI l) (ftI ft fl) (nI ft) (ftI (if ft = 0 then k else ft) (if ft = 0 then l else fl)) (nI (if ft = 0 then k else ft)) ∨ k = 0 := by
  by_cases h : ft = 0
  · subst h
    by_cases hk : k = 0
    · exact Or.inr hk
    · left
      simp (disch := omega) only [D_Model_fail, if_true, q_lit, le_T, le_F, lt_T, lt_F, eq_T, eq_F, m1_lt, m1_le, lt_m1, le_m1, eq_m1, m1_eq, nI_add, nI_sub, nI_dec, nI_mul, nI_or, nI_and, nI_div, nI_mod, and_255, and_31, and_1, and_63, nI_shl, nI_shr, bI_F, bI_1, vp_T, cl_T, true_implies, false_implies, not_true_eq_false, not_false_eq_true, true_and, and_true, false_and, and_false, Bool.false_eq_true, Bool.true_eq_false, reduceCtorEq, implies_true]
      simp only [ftI, hk, if_false]
  · left
    simp (disch := omega) only [D_Model_fail, h, if_false, q_lit, le_T, le_F, lt_T, lt_F, eq_T, eq_F, m1_lt, m1_le, lt_m1, le_m1, eq_m1, m1_eq, nI_add, nI_sub, nI_dec, nI_mul, nI_or, nI_and, nI_div, nI_mod, and_255, and_31, and_1, and_63, nI_shl, nI_shr, bI_F, bI_1, vp_T, cl_T, true_implies, false_implies, not_true_eq_false, not_false_eq_true, true_and, and_true, false_and, and_false, Bool.false_eq_true, Bool.true_eq_false, reduceCtorEq, implies_true]
theorem mo_failK {k l ft fl : Nat} (hk : 0 < k) (hf : ft < 100) : D_Model_fail (nI k) (nI l) (ftI ft fl) (nI ft) (ftI (if ft = 0 then k else ft) (if ft = 0 then l else fl)) (nI (if ft = 0 then k else ft)) := by
  rcases mo_failR (k := k) (l := l) (fl := fl) hf with h | h
  · exact h
  · omega
/-- the last of it: is there a topic -/
def endT (tn : Nat) (q : Nat × Nat) : Nat × Nat := if tn = 0 then (if q.1 = 0 then 10 else q.1, if q.1 = 0 then 0 else q.2) else q
theorem m_chk {sE Nm Le Hg lA lL lI lT : Nat → Int32} {n : Int32} {bs : List (List Nat)} (h10 : bs.length ≤ 10) (hl : bs.flatten.length ≤ 2550) {hs : List Nat} (hH : ∀ t, t < bs.length → Hg t = nI (hs.getD t 0)) (hLe : ∀ t, t < bs.length → Le t = nI (bd bs t).length) (Bo : Nat → Int32) (d : Nat) (hd : d ≤ bs.length) (ft fl : Nat) (hft : ft < 100) :
    (∃ q, T_Model_resolve sE (nI bs.length) Nm Le Hg n lA lL lI lT (ftI (endT bs.length (q_chk bs hs d (ft, fl))).1 (endT bs.length (q_chk bs hs d (ft, fl))).2) (nI (endT bs.length (q_chk bs hs d (ft, fl))).1) Bo q 2 (nI (bs.length - d)) (ftI ft fl) (nI ft) Bo) := by
  cases d with
  | zero =>
    refine ⟨1, ?_⟩
    simp only [q_chk, Nat.sub_zero]
    by_cases h0 : bs.length = 0
    · simp (disch := omega) only [T_Model_resolve, S_Model_resolve, B_Model_resolve_82, endT, h0, if_true, q_lit, le_T, le_F, lt_T, lt_F, eq_T, eq_F, m1_lt, m1_le, lt_m1, le_m1, eq_m1, m1_eq, nI_add, nI_sub, nI_dec, nI_mul, nI_or, nI_and, nI_div, nI_mod, and_255, and_31, and_1, and_63, nI_shl, nI_shr, bI_F, bI_1, vp_T, cl_T, true_implies, false_implies, not_true_eq_false, not_false_eq_true, true_and, and_true, false_and, and_false, Bool.false_eq_true, Bool.true_eq_false, reduceCtorEq, implies_true, q_lc_eq, q_lc_ge, q_lc_gt, q_lc_le, lN_or, lN_and, lN_shl, lN_shr, nI_L, lN_I, l_0]
      exact ⟨_, _, mo_failK (by omega) hft, rfl, rfl⟩
    · simp (disch := omega) only [T_Model_resolve, S_Model_resolve, B_Model_resolve_82, endT, h0, if_false, q_lit, le_T, le_F, lt_T, lt_F, eq_T, eq_F, m1_lt, m1_le, lt_m1, le_m1, eq_m1, m1_eq, nI_add, nI_sub, nI_dec, nI_mul, nI_or, nI_and, nI_div, nI_mod, and_255, and_31, and_1, and_63, nI_shl, nI_shr, bI_F, bI_1, vp_T, cl_T, true_implies, false_implies, not_true_eq_false, not_false_eq_true, true_and, and_true, false_and, and_false, Bool.false_eq_true, Bool.true_eq_false, reduceCtorEq, implies_true, q_lc_eq, q_lc_ge, q_lc_gt, q_lc_le, lN_or, lN_and, lN_shl, lN_shr, nI_L, lN_I, l_0]
  | succ d =>
    have ht : bs.length - (d + 1) < bs.length := by omega
    have hoe := off_end ht
    have e9 : bs.length - (d + 1) + 1 = bs.length - d := by omega
    have eH := hH _ ht
    have eL := hLe _ ht
    by_cases h1 : 255 < (bd bs (bs.length - (d + 1))).length
    · have e : q_chk bs hs (d + 1) (ft, fl) = q_chk bs hs d (if ft = 0 then 9 else ft, if ft = 0 then hs.getD (bs.length - (d + 1)) 0 else fl) := by simp only [q_chk]; rw [if_pos h1]
      rw [e]
      obtain ⟨m, hm⟩ := m_chk (sE := sE) (Nm := Nm) (lA := lA) (lL := lL) (lI := lI) (lT := lT) (n := n) h10 hl hH hLe Bo d (by omega) (if ft = 0 then 9 else ft) (if ft = 0 then hs.getD (bs.length - (d + 1)) 0 else fl) (by split <;> omega)
      refine ⟨m + 1, ?_⟩
      simp (disch := omega) only [T_Model_resolve, S_Model_resolve, B_Model_resolve_82, eH, eL, q_lit, le_T, le_F, lt_T, lt_F, eq_T, eq_F, m1_lt, m1_le, lt_m1, le_m1, eq_m1, m1_eq, nI_add, nI_sub, nI_dec, nI_mul, nI_or, nI_and, nI_div, nI_mod, and_255, and_31, and_1, and_63, nI_shl, nI_shr, bI_F, bI_1, vp_T, cl_T, true_implies, false_implies, not_true_eq_false, not_false_eq_true, true_and, and_true, false_and, and_false, Bool.false_eq_true, Bool.true_eq_false, reduceCtorEq, implies_true, q_lc_eq, q_lc_ge, q_lc_gt, q_lc_le, lN_or, lN_and, lN_shl, lN_shr, nI_L, lN_I, l_0]
      rw [e9]
      exact ⟨_, _, mo_failK (by omega) hft, hm⟩
    · have e : q_chk bs hs (d + 1) (ft, fl) = q_chk bs hs d (ft, fl) := by simp only [q_chk]; rw [if_neg h1]
      rw [e]
      obtain ⟨m, hm⟩ := m_chk (sE := sE) (Nm := Nm) (lA := lA) (lL := lL) (lI := lI) (lT := lT) (n := n) h10 hl hH hLe Bo d (by omega) ft fl hft
      refine ⟨m + 1, ?_⟩
      simp (disch := omega) only [T_Model_resolve, S_Model_resolve, B_Model_resolve_82, eL, q_lit, le_T, le_F, lt_T, lt_F, eq_T, eq_F, m1_lt, m1_le, lt_m1, le_m1, eq_m1, m1_eq, nI_add, nI_sub, nI_dec, nI_mul, nI_or, nI_and, nI_div, nI_mod, and_255, and_31, and_1, and_63, nI_shl, nI_shr, bI_F, bI_1, vp_T, cl_T, true_implies, false_implies, not_true_eq_false, not_false_eq_true, true_and, and_true, false_and, and_false, Bool.false_eq_true, Bool.true_eq_false, reduceCtorEq, implies_true, q_lc_eq, q_lc_ge, q_lc_gt, q_lc_le, lN_or, lN_and, lN_shl, lN_shr, nI_L, lN_I, l_0]
      rw [e9]
      exact hm
/-- behind a fault nothing changes -/
theorem m_chkF {sE Nm Le Hg lA lL lI lT : Nat → Int32} {n : Int32} {tn : Nat} (h10 : tn ≤ 10) (Bo : Nat → Int32) {ft fl : Nat} (hft : ft < 100) (h0 : ¬ ft = 0) (t : Nat) (ht : t ≤ tn) : (∃ q, T_Model_resolve sE (nI tn) Nm Le Hg n lA lL lI lT (nI fl) (nI ft) Bo q 2 (nI t) (nI fl) (nI ft) Bo) := by
  have fl' : ∀ k l : Int32, D_Model_fail k l (nI fl) (nI ft) (nI fl) (nI ft) := by
    intro k l
    simp (disch := omega) only [D_Model_fail, q_lit, le_T, le_F, lt_T, lt_F, eq_T, eq_F, m1_lt, m1_le, lt_m1, le_m1, eq_m1, m1_eq, nI_add, nI_sub, nI_dec, nI_mul, nI_or, nI_and, nI_div, nI_mod, and_255, and_31, and_1, and_63, nI_shl, nI_shr, bI_F, bI_1, vp_T, cl_T, true_implies, false_implies, not_true_eq_false, not_false_eq_true, true_and, and_true, false_and, and_false, Bool.false_eq_true, Bool.true_eq_false, reduceCtorEq, implies_true]
  by_cases h : t < tn
  · obtain ⟨m, hm⟩ := m_chkF (sE := sE) (Nm := Nm) (Le := Le) (Hg := Hg) (lA := lA) (lL := lL) (lI := lI) (lT := lT) (n := n) h10 Bo (fl := fl) hft h0 (t + 1) h
    refine ⟨m + 1, ?_⟩
    simp (disch := omega) only [T_Model_resolve, S_Model_resolve, B_Model_resolve_82, q_lit, le_T, le_F, lt_T, lt_F, eq_T, eq_F, m1_lt, m1_le, lt_m1, le_m1, eq_m1, m1_eq, nI_add, nI_sub, nI_dec, nI_mul, nI_or, nI_and, nI_div, nI_mod, and_255, and_31, and_1, and_63, nI_shl, nI_shr, bI_F, bI_1, vp_T, cl_T, true_implies, false_implies, not_true_eq_false, not_false_eq_true, true_and, and_true, false_and, and_false, Bool.false_eq_true, Bool.true_eq_false, reduceCtorEq, implies_true, q_lc_eq, q_lc_ge, q_lc_gt, q_lc_le, lN_or, lN_and, lN_shl, lN_shr, nI_L, lN_I, l_0]
    exact ⟨fun _ => hm, fun _ => ⟨_, _, fl' _ _, hm⟩⟩
  · refine ⟨1, ?_⟩
    by_cases h1 : tn = 0
    · simp (disch := omega) only [T_Model_resolve, S_Model_resolve, B_Model_resolve_82, q_lit, le_T, le_F, lt_T, lt_F, eq_T, eq_F, m1_lt, m1_le, lt_m1, le_m1, eq_m1, m1_eq, nI_add, nI_sub, nI_dec, nI_mul, nI_or, nI_and, nI_div, nI_mod, and_255, and_31, and_1, and_63, nI_shl, nI_shr, bI_F, bI_1, vp_T, cl_T, true_implies, false_implies, not_true_eq_false, not_false_eq_true, true_and, and_true, false_and, and_false, Bool.false_eq_true, Bool.true_eq_false, reduceCtorEq, implies_true, q_lc_eq, q_lc_ge, q_lc_gt, q_lc_le, lN_or, lN_and, lN_shl, lN_shr, nI_L, lN_I, l_0]
      exact ⟨_, _, fl' _ _, rfl, rfl⟩
    · simp (disch := omega) only [T_Model_resolve, S_Model_resolve, B_Model_resolve_82, q_lit, le_T, le_F, lt_T, lt_F, eq_T, eq_F, m1_lt, m1_le, lt_m1, le_m1, eq_m1, m1_eq, nI_add, nI_sub, nI_dec, nI_mul, nI_or, nI_and, nI_div, nI_mod, and_255, and_31, and_1, and_63, nI_shl, nI_shr, bI_F, bI_1, vp_T, cl_T, true_implies, false_implies, not_true_eq_false, not_false_eq_true, true_and, and_true, false_and, and_false, Bool.false_eq_true, Bool.true_eq_false, reduceCtorEq, implies_true, q_lc_eq, q_lc_ge, q_lc_gt, q_lc_le, lN_or, lN_and, lN_shl, lN_shr, nI_L, lN_I, l_0]
termination_by tn - t
decreasing_by all_goals omega
theorem m_rsvF {sE Nm Le Hg lA lL lI lT : Nat → Int32} {n : Int32} {tn : Nat} (h10 : tn ≤ 10) (Bo : Nat → Int32) {ft fl : Nat} (hft : ft < 100) (h0 : ¬ ft = 0) (i : Int32) : (∃ q, T_Model_resolve sE (nI tn) Nm Le Hg n lA lL lI lT (nI fl) (nI ft) Bo q 0 i (nI fl) (nI ft) Bo) := by
  obtain ⟨m, hm⟩ := m_chkF (sE := sE) (Nm := Nm) (Le := Le) (Hg := Hg) (lA := lA) (lL := lL) (lI := lI) (lT := lT) (n := n) h10 Bo (fl := fl) hft h0 0 (by omega)
  have h1 : T_Model_resolve sE (nI tn) Nm Le Hg n lA lL lI lT (nI fl) (nI ft) Bo (m + 1) 1 0 (nI fl) (nI ft) Bo := by
    simp (disch := omega) only [T_Model_resolve, S_Model_resolve, B_Model_resolve_80, q_lit, le_T, le_F, lt_T, lt_F, eq_T, eq_F, m1_lt, m1_le, lt_m1, le_m1, eq_m1, m1_eq, nI_add, nI_sub, nI_dec, nI_mul, nI_or, nI_and, nI_div, nI_mod, and_255, and_31, and_1, and_63, nI_shl, nI_shr, bI_F, bI_1, vp_T, cl_T, true_implies, false_implies, not_true_eq_false, not_false_eq_true, true_and, and_true, false_and, and_false, Bool.false_eq_true, Bool.true_eq_false, reduceCtorEq, implies_true, q_lc_eq, q_lc_ge, q_lc_gt, q_lc_le, lN_or, lN_and, lN_shl, lN_shr, nI_L, lN_I, l_0]
    exact hm
  refine ⟨m + 2, fun _ => h1, fun _ => ⟨fun h9 => ?_, fun _ => h1⟩⟩
  exfalso; revert h9; simp (disch := omega) only [q_lit, le_T, le_F, lt_T, lt_F, eq_T, eq_F, m1_lt, m1_le, lt_m1, le_m1, eq_m1, m1_eq, nI_add, nI_sub, nI_dec, nI_mul, nI_or, nI_and, nI_div, nI_mod, and_255, and_31, and_1, and_63, nI_shl, nI_shr, bI_F, bI_1, vp_T, cl_T, true_implies, false_implies, not_true_eq_false, not_false_eq_true, true_and, and_true, false_and, and_false, Bool.false_eq_true, Bool.true_eq_false, reduceCtorEq, implies_true]
theorem rsv_ft {L : List Nat} {ns : List (List Nat)} {lk : List q_Lk} {ft fl : Nat} {bs : List (List Nat)} (h : ¬ ft = 0) : (rsv L ns lk (ft, fl, bs)).1 = ft ∧ (rsv L ns lk (ft, fl, bs)).2.1 = fl := by
  induction lk generalizing bs with
  | nil => exact ⟨rfl, rfl⟩
  | cons k r ih =>
    simp only [rsv]
    split
    · simp only [h, if_false]; exact ih
    · exact ih
theorem chk_ft {bs : List (List Nat)} {hs : List Nat} {d ft fl : Nat} (h : ¬ ft = 0) : q_chk bs hs d (ft, fl) = (ft, fl) := by
  induction d with
  | zero => rfl
  | succ d ih =>
    simp only [q_chk, h, if_false]
    split <;> exact ih
theorem fin_eq (L : List Nat) (a : q_Cs) : q_fin L a = ((endT (clP a).2.1.length (q_chk (rsv L (clP a).1 (clP a).2.2.2.2.1 ((clP a).2.2.2.2.2.1, (clP a).2.2.2.2.2.2.1, (clP a).2.1)).2.2 (clP a).2.2.1 (rsv L (clP a).1 (clP a).2.2.2.2.1 ((clP a).2.2.2.2.2.1, (clP a).2.2.2.2.2.2.1, (clP a).2.1)).2.2.length ((rsv L (clP a).1 (clP a).2.2.2.2.1 ((clP a).2.2.2.2.2.1, (clP a).2.2.2.2.2.2.1, (clP a).2.1)).1, (rsv L (clP a).1 (clP a).2.2.2.2.1 ((clP a).2.2.2.2.2.1, (clP a).2.2.2.2.2.2.1, (clP a).2.1)).2.1))).1, (endT (clP a).2.1.length (q_chk (rsv L (clP a).1 (clP a).2.2.2.2.1 ((clP a).2.2.2.2.2.1, (clP a).2.2.2.2.2.2.1, (clP a).2.1)).2.2 (clP a).2.2.1 (rsv L (clP a).1 (clP a).2.2.2.2.1 ((clP a).2.2.2.2.2.1, (clP a).2.2.2.2.2.2.1, (clP a).2.1)).2.2.length ((rsv L (clP a).1 (clP a).2.2.2.2.1 ((clP a).2.2.2.2.2.1, (clP a).2.2.2.2.2.2.1, (clP a).2.1)).1, (rsv L (clP a).1 (clP a).2.2.2.2.1 ((clP a).2.2.2.2.2.1, (clP a).2.2.2.2.2.2.1, (clP a).2.1)).2.1))).2, (rsv L (clP a).1 (clP a).2.2.2.2.1 ((clP a).2.2.2.2.2.1, (clP a).2.2.2.2.2.2.1, (clP a).2.1)).2.2) := by
  have key : ∀ (n : Nat) (B : Prop) [Decidable B] (q : Nat × Nat) (r : List (List Nat)), (B ↔ n = 0) → (if B then (if q.1 = 0 then 10 else q.1, if q.1 = 0 then 0 else q.2, r) else (q.1, q.2, r)) = ((endT n q).1, (endT n q).2, r) := by
    intro n B _ q r h
    unfold endT
    by_cases h1 : B
    · rw [if_pos h1, if_pos (h.mp h1)]
    · rw [if_neg h1, if_neg (fun h2 => h1 (h.mpr h2))]
  exact key _ _ _ _ ⟨fun h => by rw [h]; rfl, fun h => List.eq_nil_of_length_eq_zero h⟩
theorem m_rsv {L : List Nat} {sE : Nat → Int32} {sC : Int32} (hs : Rw 700 sE sC L) (hv : ∀ i, L.getD i 0 < 2147483648) {m : q_MM} {a : q_Cs} (h : MI L m a) (hok : NmOk a.1) (hlk : LkOk L a.2.2.2.2.1) (hl : a.2.1.flatten.length ≤ 2550) (i : Nat) (hi : i ≤ a.2.2.2.2.1.length) (ft fl : Nat) (hft : ft < 100) (bs : List (List Nat)) (hsh : shp a.2.1 bs) (Bo : Nat → Int32) (hB : ft = 0 → MBo Bo m.2.2.2.2.2.1 bs) :
    ∃ Bo', (∃ q, T_Model_resolve sE m.2.2.1 m.2.2.2.1 m.2.2.2.2.2.1 m.2.2.2.2.2.2.1 m.2.2.2.2.2.2.2.2.2.2.2.1 m.2.2.2.2.2.2.2.2.2.2.2.2.1 m.2.2.2.2.2.2.2.2.2.2.2.2.2.1 m.2.2.2.2.2.2.2.2.2.2.2.2.2.2.1 m.2.2.2.2.2.2.2.2.2.2.2.2.2.2.2.1 (ftI (endT a.2.1.length (q_chk (rsv L a.1 (a.2.2.2.2.1.drop i) (ft, fl, bs)).2.2 a.2.2.1 (rsv L a.1 (a.2.2.2.2.1.drop i) (ft, fl, bs)).2.2.length ((rsv L a.1 (a.2.2.2.2.1.drop i) (ft, fl, bs)).1, (rsv L a.1 (a.2.2.2.2.1.drop i) (ft, fl, bs)).2.1))).1 (endT a.2.1.length (q_chk (rsv L a.1 (a.2.2.2.2.1.drop i) (ft, fl, bs)).2.2 a.2.2.1 (rsv L a.1 (a.2.2.2.2.1.drop i) (ft, fl, bs)).2.2.length ((rsv L a.1 (a.2.2.2.2.1.drop i) (ft, fl, bs)).1, (rsv L a.1 (a.2.2.2.2.1.drop i) (ft, fl, bs)).2.1))).2) (nI (endT a.2.1.length (q_chk (rsv L a.1 (a.2.2.2.2.1.drop i) (ft, fl, bs)).2.2 a.2.2.1 (rsv L a.1 (a.2.2.2.2.1.drop i) (ft, fl, bs)).2.2.length ((rsv L a.1 (a.2.2.2.2.1.drop i) (ft, fl, bs)).1, (rsv L a.1 (a.2.2.2.2.1.drop i) (ft, fl, bs)).2.1))).1) Bo' q 0 (nI i) (ftI ft fl) (nI ft) Bo) ∧ ((rsv L a.1 (a.2.2.2.2.1.drop i) (ft, fl, bs)).1 = 0 → MBo Bo' m.2.2.2.2.2.1 (rsv L a.1 (a.2.2.2.2.1.drop i) (ft, fl, bs)).2.2) := by
  have hL7 := hs.2.1
  obtain ⟨z1, z2, z3, z4, z5, z6, z7, z8, z9, z10, z11, z12, z13, z14, z15⟩ := h
  have h10 := z7.1
  obtain ⟨l1, l2, l3⟩ := z11
  -- from the bodies' check on
  have q_fin : ∀ (ft fl : Nat) (bs : List (List Nat)) (Bo : Nat → Int32), ft < 100 → shp a.2.1 bs → ∃ q, T_Model_resolve sE m.2.2.1 m.2.2.2.1 m.2.2.2.2.2.1 m.2.2.2.2.2.2.1 m.2.2.2.2.2.2.2.2.2.2.2.1 m.2.2.2.2.2.2.2.2.2.2.2.2.1 m.2.2.2.2.2.2.2.2.2.2.2.2.2.1 m.2.2.2.2.2.2.2.2.2.2.2.2.2.2.1 m.2.2.2.2.2.2.2.2.2.2.2.2.2.2.2.1 (ftI (endT a.2.1.length (q_chk bs a.2.2.1 bs.length (ft, fl))).1 (endT a.2.1.length (q_chk bs a.2.2.1 bs.length (ft, fl))).2) (nI (endT a.2.1.length (q_chk bs a.2.2.1 bs.length (ft, fl))).1) Bo q 1 0 (ftI ft fl) (nI ft) Bo := by
    intro ft fl bs Bo h1 h2
    obtain ⟨q, hq⟩ := m_chk (sE := sE) (Nm := m.2.2.2.1) (Le := m.2.2.2.2.2.1) (Hg := m.2.2.2.2.2.2.1) (lA := m.2.2.2.2.2.2.2.2.2.2.2.2.1) (lL := m.2.2.2.2.2.2.2.2.2.2.2.2.2.1) (lI := m.2.2.2.2.2.2.2.2.2.2.2.2.2.2.1) (lT := m.2.2.2.2.2.2.2.2.2.2.2.2.2.2.2.1) (n := m.2.2.2.2.2.2.2.2.2.2.2.1) (bs := bs) (by rw [h2.1]; exact h10) (by rw [shp_flat h2]; exact hl) (hs := a.2.2.1) (fun t ht => z9 t (by rw [← h2.1]; exact ht)) (fun t ht => by rw [h2.2]; exact (z7.2 t (by rw [← h2.1]; exact ht)).1) Bo bs.length (Nat.le_refl _) ft fl h1
    refine ⟨q + 1, ?_⟩
    rw [Nat.sub_self] at hq
    rw [z4, ← h2.1]
    simp (disch := omega) only [T_Model_resolve, S_Model_resolve, B_Model_resolve_80, q_lit, le_T, le_F, lt_T, lt_F, eq_T, eq_F, m1_lt, m1_le, lt_m1, le_m1, eq_m1, m1_eq, nI_add, nI_sub, nI_dec, nI_mul, nI_or, nI_and, nI_div, nI_mod, and_255, and_31, and_1, and_63, nI_shl, nI_shr, bI_F, bI_1, vp_T, cl_T, true_implies, false_implies, not_true_eq_false, not_false_eq_true, true_and, and_true, false_and, and_false, Bool.false_eq_true, Bool.true_eq_false, reduceCtorEq, implies_true, q_lc_eq, q_lc_ge, q_lc_gt, q_lc_le, lN_or, lN_and, lN_shl, lN_shr, nI_L, lN_I, l_0]
    exact hq
  by_cases hf0 : ft = 0
  · subst hf0
    by_cases h1 : i < a.2.2.2.2.1.length
    · obtain ⟨q1, q2, q3, q4, q5, q6, q7⟩ := l3 i h1
      have hk := hlk _ (getD_mem h1 lk0)
      rw [drop_sk h1]
      have hlen : ((L.drop (a.2.2.2.2.1.getD i lk0).1).take (a.2.2.2.2.1.getD i lk0).2.1).length = (a.2.2.2.2.1.getD i lk0).2.1 := by rw [List.length_take, List.length_drop]; omega
      have hk6 : (a.2.2.2.2.1.getD i lk0).2.1 ≤ 6 := by have := hk.2; unfold nmL at this; rw [hlen] at this; exact this
      have hnd := mo_named hs hv (by omega) z8 hok (k := (a.2.2.2.2.1.getD i lk0).1) (len := (a.2.2.2.2.1.getD i lk0).2.1) q7 hlen hk.1 hk6
      rw [z5, ← z4] at hnd
      have hft0 : ftI 0 fl = -nI 1 := rfl
      cases h2 : nmAt (nmL L (a.2.2.2.2.1.getD i lk0)) a.1 0 with
      | none =>
        have h2' := h2
        unfold nmL at h2'
        rw [h2'] at hnd
        have e : rsv L a.1 (a.2.2.2.2.1.getD i lk0 :: a.2.2.2.2.1.drop (i + 1)) (0, fl, bs) = rsv L a.1 (a.2.2.2.2.1.drop (i + 1)) (8, (a.2.2.2.2.1.getD i lk0).2.2.1, bs) := by simp only [rsv, h2, if_true]
        rw [e]
        obtain ⟨Bo', ⟨q, hq⟩, d2⟩ := m_rsv hs hv ⟨z1, z2, z3, z4, z5, z6, z7, z8, z9, z10, ⟨l1, l2, l3⟩, z12, z13, z14, z15⟩ hok hlk hl (i + 1) h1 8 (a.2.2.2.2.1.getD i lk0).2.2.1 (by omega) bs hsh Bo (fun h9 => by omega)
        refine ⟨Bo', ⟨q + 1, ?_⟩, d2⟩
        rw [l1] at hq ⊢
        simp (disch := omega) only [T_Model_resolve, S_Model_resolve, B_Model_resolve_2, q1, q2, q3, q_lit, le_T, le_F, lt_T, lt_F, eq_T, eq_F, m1_lt, m1_le, lt_m1, le_m1, eq_m1, m1_eq, nI_add, nI_sub, nI_dec, nI_mul, nI_or, nI_and, nI_div, nI_mod, and_255, and_31, and_1, and_63, nI_shl, nI_shr, bI_F, bI_1, vp_T, cl_T, true_implies, false_implies, not_true_eq_false, not_false_eq_true, true_and, and_true, false_and, and_false, Bool.false_eq_true, Bool.true_eq_false, reduceCtorEq, implies_true, q_lc_eq, q_lc_ge, q_lc_gt, q_lc_le, lN_or, lN_and, lN_shl, lN_shr, nI_L, lN_I, l_0]
        refine ⟨_, hnd, ?_⟩
        simp (disch := omega) only [oI, q_lit, le_T, le_F, lt_T, lt_F, eq_T, eq_F, m1_lt, m1_le, lt_m1, le_m1, eq_m1, m1_eq, nI_add, nI_sub, nI_dec, nI_mul, nI_or, nI_and, nI_div, nI_mod, and_255, and_31, and_1, and_63, nI_shl, nI_shr, bI_F, bI_1, vp_T, cl_T, true_implies, false_implies, not_true_eq_false, not_false_eq_true, true_and, and_true, false_and, and_false, Bool.false_eq_true, Bool.true_eq_false, reduceCtorEq, implies_true]
        exact ⟨_, _, mo_fail0, hq⟩
      | some t =>
        have h2' := h2
        unfold nmL at h2'
        rw [h2'] at hnd
        have ht := nmAt_some h2
        have hq4 : (a.2.2.2.2.1.getD i lk0).2.2.2.1 < bs.length := by rw [hsh.1]; exact q5
        have e : rsv L a.1 (a.2.2.2.2.1.getD i lk0 :: a.2.2.2.2.1.drop (i + 1)) (0, fl, bs) = rsv L a.1 (a.2.2.2.2.1.drop (i + 1)) (0, fl, q_setB bs (a.2.2.2.2.1.getD i lk0).2.2.2.1 (a.2.2.2.2.1.getD i lk0).2.2.2.2 t) := by simp only [rsv, h2]
        rw [e]
        have hb := hB rfl
        have hMB : ∀ Bo9, (∀ u j, u < bs.length → j < (bd bs u).length → j < 255 → Bo9 (255 * u + j) = if u = (a.2.2.2.2.1.getD i lk0).2.2.2.1 ∧ j = (a.2.2.2.2.1.getD i lk0).2.2.2.2 then nI t else Bo (255 * u + j)) → MBo Bo9 m.2.2.2.2.2.1 (q_setB bs (a.2.2.2.2.1.getD i lk0).2.2.2.1 (a.2.2.2.2.1.getD i lk0).2.2.2.2 t) := by
          intro Bo9 h9
          refine ⟨by rw [setB_len]; exact hb.1, fun u hu => ?_⟩
          rw [setB_len] at hu
          obtain ⟨c1, c2⟩ := hb.2 u hu
          refine ⟨by rw [setB_bdl hq4]; exact c1, fun j hj hj2 => ?_⟩
          rw [setB_bdl hq4] at hj
          rw [h9 u j hu hj hj2, setB_bd hq4]
          by_cases h8 : u = (a.2.2.2.2.1.getD i lk0).2.2.2.1
          · rw [if_pos h8]
            subst h8
            rw [getD_set (by rw [hsh.2]; exact q6)]
            by_cases h7 : j = (a.2.2.2.2.1.getD i lk0).2.2.2.2
            · rw [if_pos ⟨rfl, h7⟩, if_pos h7]
            · rw [if_neg (fun h6 => h7 h6.2), if_neg h7]; exact c2 j hj hj2
          · rw [if_neg (fun h6 => h8 h6.1), if_neg h8]; exact c2 j hj hj2
        by_cases h255 : (a.2.2.2.2.1.getD i lk0).2.2.2.2 < 255
        · obtain ⟨Bo', ⟨q, hq⟩, d2⟩ := m_rsv hs hv ⟨z1, z2, z3, z4, z5, z6, z7, z8, z9, z10, ⟨l1, l2, l3⟩, z12, z13, z14, z15⟩ hok hlk hl (i + 1) h1 0 fl (by omega) _ (shp_set hsh q5 _ _) (upd Bo (255 * (a.2.2.2.2.1.getD i lk0).2.2.2.1 + (a.2.2.2.2.1.getD i lk0).2.2.2.2) (nI t)) (fun _ => hMB _ (fun u j hu hj hj2 => by
            simp only [upd]
            by_cases h8 : u = (a.2.2.2.2.1.getD i lk0).2.2.2.1 ∧ j = (a.2.2.2.2.1.getD i lk0).2.2.2.2
            · rw [if_pos h8, if_pos (by rw [h8.1, h8.2])]
            · rw [if_neg h8, if_neg (by omega)]))
          refine ⟨Bo', ⟨q + 1, ?_⟩, d2⟩
          have eT : m.2.2.2.2.2.2.2.2.2.2.2.2.2.2.2.1 i = nI (255 * (a.2.2.2.2.1.getD i lk0).2.2.2.1 + (a.2.2.2.2.1.getD i lk0).2.2.2.2) := by rw [q4]; simp only [lkT]; rw [if_pos h255]
          rw [l1] at hq ⊢
          simp (disch := omega) only [T_Model_resolve, S_Model_resolve, B_Model_resolve_2, q1, q2, q3, eT, q_lit, le_T, le_F, lt_T, lt_F, eq_T, eq_F, m1_lt, m1_le, lt_m1, le_m1, eq_m1, m1_eq, nI_add, nI_sub, nI_dec, nI_mul, nI_or, nI_and, nI_div, nI_mod, and_255, and_31, and_1, and_63, nI_shl, nI_shr, bI_F, bI_1, vp_T, cl_T, true_implies, false_implies, not_true_eq_false, not_false_eq_true, true_and, and_true, false_and, and_false, Bool.false_eq_true, Bool.true_eq_false, reduceCtorEq, implies_true, q_lc_eq, q_lc_ge, q_lc_gt, q_lc_le, lN_or, lN_and, lN_shl, lN_shr, nI_L, lN_I, l_0]
          refine ⟨_, hnd, ?_⟩
          simp (disch := omega) only [oI, q_lit, le_T, le_F, lt_T, lt_F, eq_T, eq_F, m1_lt, m1_le, lt_m1, le_m1, eq_m1, m1_eq, nI_add, nI_sub, nI_dec, nI_mul, nI_or, nI_and, nI_div, nI_mod, and_255, and_31, and_1, and_63, nI_shl, nI_shr, bI_F, bI_1, vp_T, cl_T, true_implies, false_implies, not_true_eq_false, not_false_eq_true, true_and, and_true, false_and, and_false, Bool.false_eq_true, Bool.true_eq_false, reduceCtorEq, implies_true]
          exact hq
        · obtain ⟨Bo', ⟨q, hq⟩, d2⟩ := m_rsv hs hv ⟨z1, z2, z3, z4, z5, z6, z7, z8, z9, z10, ⟨l1, l2, l3⟩, z12, z13, z14, z15⟩ hok hlk hl (i + 1) h1 0 fl (by omega) _ (shp_set hsh q5 _ _) Bo (fun _ => hMB _ (fun u j hu hj hj2 => by
            rw [if_neg (by omega)]))
          refine ⟨Bo', ⟨q + 1, ?_⟩, d2⟩
          have eT : m.2.2.2.2.2.2.2.2.2.2.2.2.2.2.2.1 i = -nI 1 := by rw [q4]; simp only [lkT]; rw [if_neg h255]
          rw [l1] at hq ⊢
          simp (disch := omega) only [T_Model_resolve, S_Model_resolve, B_Model_resolve_2, q1, q2, q3, eT, q_lit, le_T, le_F, lt_T, lt_F, eq_T, eq_F, m1_lt, m1_le, lt_m1, le_m1, eq_m1, m1_eq, nI_add, nI_sub, nI_dec, nI_mul, nI_or, nI_and, nI_div, nI_mod, and_255, and_31, and_1, and_63, nI_shl, nI_shr, bI_F, bI_1, vp_T, cl_T, true_implies, false_implies, not_true_eq_false, not_false_eq_true, true_and, and_true, false_and, and_false, Bool.false_eq_true, Bool.true_eq_false, reduceCtorEq, implies_true, q_lc_eq, q_lc_ge, q_lc_gt, q_lc_le, lN_or, lN_and, lN_shl, lN_shr, nI_L, lN_I, l_0]
          refine ⟨_, hnd, ?_⟩
          simp (disch := omega) only [oI, q_lit, le_T, le_F, lt_T, lt_F, eq_T, eq_F, m1_lt, m1_le, lt_m1, le_m1, eq_m1, m1_eq, nI_add, nI_sub, nI_dec, nI_mul, nI_or, nI_and, nI_div, nI_mod, and_255, and_31, and_1, and_63, nI_shl, nI_shr, bI_F, bI_1, vp_T, cl_T, true_implies, false_implies, not_true_eq_false, not_false_eq_true, true_and, and_true, false_and, and_false, Bool.false_eq_true, Bool.true_eq_false, reduceCtorEq, implies_true]
          exact hq
    · rw [List.drop_eq_nil_of_le (by omega)]
      obtain ⟨q, hq⟩ := q_fin 0 fl bs Bo (by omega) hsh
      refine ⟨Bo, ⟨q + 1, ?_⟩, hB⟩
      rw [l1] at hq ⊢
      simp only [rsv]
      simp (disch := omega) only [T_Model_resolve, S_Model_resolve, B_Model_resolve_2, q_lit, le_T, le_F, lt_T, lt_F, eq_T, eq_F, m1_lt, m1_le, lt_m1, le_m1, eq_m1, m1_eq, nI_add, nI_sub, nI_dec, nI_mul, nI_or, nI_and, nI_div, nI_mod, and_255, and_31, and_1, and_63, nI_shl, nI_shr, bI_F, bI_1, vp_T, cl_T, true_implies, false_implies, not_true_eq_false, not_false_eq_true, true_and, and_true, false_and, and_false, Bool.false_eq_true, Bool.true_eq_false, reduceCtorEq, implies_true, q_lc_eq, q_lc_ge, q_lc_gt, q_lc_le, lN_or, lN_and, lN_shl, lN_shr, nI_L, lN_I, l_0]
      exact hq
  · have hr := rsv_ft (L := L) (ns := a.1) (lk := a.2.2.2.2.1.drop i) (fl := fl) (bs := bs) hf0
    have hc : ∀ (r : Nat × Nat × List (List Nat)), r.1 = ft → r.2.1 = fl → endT a.2.1.length (q_chk r.2.2 a.2.2.1 r.2.2.length (r.1, r.2.1)) = (ft, fl) := by
      intro r e1 e2
      rw [e1, e2, chk_ft hf0]
      simp only [endT, hf0, if_false]
      split <;> rfl
    rw [hc _ hr.1 hr.2]
    obtain ⟨q, hq⟩ := m_rsvF (sE := sE) (Nm := m.2.2.2.1) (Le := m.2.2.2.2.2.1) (Hg := m.2.2.2.2.2.2.1) (lA := m.2.2.2.2.2.2.2.2.2.2.2.2.1) (lL := m.2.2.2.2.2.2.2.2.2.2.2.2.2.1) (lI := m.2.2.2.2.2.2.2.2.2.2.2.2.2.2.1) (lT := m.2.2.2.2.2.2.2.2.2.2.2.2.2.2.2.1) (n := m.2.2.2.2.2.2.2.2.2.2.2.1) h10 Bo (fl := fl) hft hf0 (nI i)
    refine ⟨Bo, ⟨q, ?_⟩, fun h9 => by rw [hr.1] at h9; exact absurd h9 hf0⟩
    have e1 : ftI ft fl = nI fl := by simp only [ftI, hf0, if_false]
    simp only [e1]
    rw [z4]; exact hq
termination_by a.2.2.2.2.1.length - i
decreasing_by all_goals omega
theorem clP_idem (a : q_Cs) : clP (clP a) = clP a := by
  have := (clP_ns a).2.2.2.1
  conv => lhs; rw [clP]
  rw [if_neg (by rw [this]; simp)]
theorem fin_clP (L : List Nat) (a : q_Cs) : q_fin L (clP a) = q_fin L a := by
  simp only [q_fin, clP_idem]
/-- what the reference holds of a source without fault -/
def RB (m : q_MM) (ns bs : List (List Nat)) (ks : List (List Nat × Nat)) : Prop := m.2.2.1 = nI bs.length ∧ ns.length = bs.length ∧ MBo m.2.2.2.2.1 m.2.2.2.2.2.1 bs ∧ q_MN m.2.2.2.1 ns ∧ MW 8 250 m.2.2.2.2.2.2.2.2.1 m.2.2.2.2.2.2.2.2.2.1 m.2.2.2.2.2.2.2.2.2.2.1 m.2.2.2.2.2.2.2.1 ks
theorem m_src {L : List Nat} {sE : Nat → Int32} {sC : Int32} (hs : Rw 700 sE sC L) (hv : ∀ i, L.getD i 0 < 2147483648) (ln : Nat) (a : q_Cs) (s : Nat) (m : q_MM) (h : MR L m a) (hX : a.2.2.2.2.2.1 = 0 → a.2.2.2.2.2.2.2.1 = true → m.2.2.2.2.2.2.2.2.2.2.2.2.2.2.2.2.2.2.2.1 = nI a.2.2.2.2.2.2.2.2.2.2) (hA : WA L a s) (hsl : s ≤ L.length + 1) :
    ∃ m' : q_MM, (∃ q, T_Model_readSource sE sC m'.1 m'.2.1 m'.2.2.1 m'.2.2.2.1 m'.2.2.2.2.1 m'.2.2.2.2.2.1 m'.2.2.2.2.2.2.1 m'.2.2.2.2.2.2.2.1 m'.2.2.2.2.2.2.2.2.1 m'.2.2.2.2.2.2.2.2.2.1 m'.2.2.2.2.2.2.2.2.2.2.1 m'.2.2.2.2.2.2.2.2.2.2.2.1 m'.2.2.2.2.2.2.2.2.2.2.2.2.1 m'.2.2.2.2.2.2.2.2.2.2.2.2.2.1 m'.2.2.2.2.2.2.2.2.2.2.2.2.2.2.1 m'.2.2.2.2.2.2.2.2.2.2.2.2.2.2.2.1 m'.2.2.2.2.2.2.2.2.2.2.2.2.2.2.2.2.1 m'.2.2.2.2.2.2.2.2.2.2.2.2.2.2.2.2.2.1 m'.2.2.2.2.2.2.2.2.2.2.2.2.2.2.2.2.2.2.1 m'.2.2.2.2.2.2.2.2.2.2.2.2.2.2.2.2.2.2.2.1 m'.2.2.2.2.2.2.2.2.2.2.2.2.2.2.2.2.2.2.2.2.1 m'.2.2.2.2.2.2.2.2.2.2.2.2.2.2.2.2.2.2.2.2.2 q 0 (nI ln) (nI s) m.1 m.2.1 m.2.2.1 m.2.2.2.1 m.2.2.2.2.1 m.2.2.2.2.2.1 m.2.2.2.2.2.2.1 m.2.2.2.2.2.2.2.1 m.2.2.2.2.2.2.2.2.1 m.2.2.2.2.2.2.2.2.2.1 m.2.2.2.2.2.2.2.2.2.2.1 m.2.2.2.2.2.2.2.2.2.2.2.1 m.2.2.2.2.2.2.2.2.2.2.2.2.1 m.2.2.2.2.2.2.2.2.2.2.2.2.2.1 m.2.2.2.2.2.2.2.2.2.2.2.2.2.2.1 m.2.2.2.2.2.2.2.2.2.2.2.2.2.2.2.1 m.2.2.2.2.2.2.2.2.2.2.2.2.2.2.2.2.1 m.2.2.2.2.2.2.2.2.2.2.2.2.2.2.2.2.2.1 m.2.2.2.2.2.2.2.2.2.2.2.2.2.2.2.2.2.2.1 m.2.2.2.2.2.2.2.2.2.2.2.2.2.2.2.2.2.2.2.1 m.2.2.2.2.2.2.2.2.2.2.2.2.2.2.2.2.2.2.2.2.1 m.2.2.2.2.2.2.2.2.2.2.2.2.2.2.2.2.2.2.2.2.2) ∧ m'.2.1 = nI (q_fin L (lns L ln a s)).1 ∧ m'.1 = ftI (q_fin L (lns L ln a s)).1 (q_fin L (lns L ln a s)).2.1 ∧ ((q_fin L (lns L ln a s)).1 = 0 → RB m' (lns L ln a s).1 (q_fin L (lns L ln a s)).2.2 (lns L ln a s).2.2.2.1) := by
  have hL7 := hs.2.1
  have hC := hs.1
  by_cases h1 : s < L.length ∧ a.2.2.2.2.2.1 = 0
  · have hMI : MI L m a := by
      rcases h with ⟨_, h8⟩ | ⟨h8, _⟩
      · exact h8
      · exact absurd h1.2 h8
    have hge := lnE_ge L s
    have hle := lnE_le L (show s ≤ L.length by omega)
    obtain ⟨q1, hq1⟩ := m_lnE hs hv s (by omega)
    obtain ⟨m1, d1, d2, d3⟩ := mi_line hs hv (ln := ln) hMI (hX h1.2) hA (f := lnE L s) (by omega) hle
    obtain ⟨m', ⟨q, hq⟩, e2⟩ := m_src hs hv (ln + 1) (lin L s (lnE L s) ln a) (lnE L s + 1) m1 d2 d3 (wa_lin hA hge hle) (by omega)
    have el : lns L ln a s = lns L (ln + 1) (lin L s (lnE L s) ln a) (lnE L s + 1) := by
      conv => lhs; rw [lns]
      rw [if_pos ⟨by omega, h1.2⟩]
    rw [el]
    refine ⟨m', ⟨q + 1, ?_⟩, e2⟩
    have hF0 := hMI.1
    have h1' := h1.1
    rw [hF0] at d1 ⊢
    rw [hC] at hq1 hq ⊢
    simp (disch := omega) only [T_Model_readSource, S_Model_readSource, B_Model_readSource_44, q_lit, le_T, le_F, lt_T, lt_F, eq_T, eq_F, m1_lt, m1_le, lt_m1, le_m1, eq_m1, m1_eq, nI_add, nI_sub, nI_dec, nI_mul, nI_or, nI_and, nI_div, nI_mod, and_255, and_31, and_1, and_63, nI_shl, nI_shr, bI_F, bI_1, vp_T, cl_T, true_implies, false_implies, not_true_eq_false, not_false_eq_true, true_and, and_true, false_and, and_false, Bool.false_eq_true, Bool.true_eq_false, reduceCtorEq, implies_true, q_lc_eq, q_lc_ge, q_lc_gt, q_lc_le, lN_or, lN_and, lN_shl, lN_shr, nI_L, lN_I, l_0]
    exact ⟨_, ⟨q1, hq1⟩, m1.1, m1.2.1, m1.2.2.1, m1.2.2.2.1, m1.2.2.2.2.1, m1.2.2.2.2.2.1, m1.2.2.2.2.2.2.1, m1.2.2.2.2.2.2.2.1, m1.2.2.2.2.2.2.2.2.1, m1.2.2.2.2.2.2.2.2.2.1, m1.2.2.2.2.2.2.2.2.2.2.1, m1.2.2.2.2.2.2.2.2.2.2.2.1, m1.2.2.2.2.2.2.2.2.2.2.2.2.1, m1.2.2.2.2.2.2.2.2.2.2.2.2.2.1, m1.2.2.2.2.2.2.2.2.2.2.2.2.2.2.1, m1.2.2.2.2.2.2.2.2.2.2.2.2.2.2.2.1, m1.2.2.2.2.2.2.2.2.2.2.2.2.2.2.2.2.1, m1.2.2.2.2.2.2.2.2.2.2.2.2.2.2.2.2.2.1, m1.2.2.2.2.2.2.2.2.2.2.2.2.2.2.2.2.2.2.1, m1.2.2.2.2.2.2.2.2.2.2.2.2.2.2.2.2.2.2.2.1, m1.2.2.2.2.2.2.2.2.2.2.2.2.2.2.2.2.2.2.2.2.1, m1.2.2.2.2.2.2.2.2.2.2.2.2.2.2.2.2.2.2.2.2.2, d1, by rw [nI_add]; exact hq⟩
  · -- the lines are read
    have hlns : (clP (lns L ln a s) = clP a ∧ (lns L ln a s).1 = a.1 ∧ (lns L ln a s).2.2.2.1 = a.2.2.2.1) ∧ q_fin L (lns L ln a s) = q_fin L a := by
      by_cases h2 : s = L.length ∧ a.2.2.2.2.2.1 = 0
      · have e1 : lnE L s = s := by rw [lnE, if_neg (fun h9 => by omega)]
        have e2 : lin L s s ln a = clP a := by simp only [lin, blk_stop (Nat.le_refl s), if_true]
        have e3 : lns L ln a s = clP a := by
          rw [lns, if_pos ⟨by omega, h2.2⟩, e1, e2, lns, if_neg (fun h9 => by omega)]
        rw [e3]
        exact ⟨⟨clP_idem a, (clP_ns a).1, (clP_ns a).2.1⟩, fin_clP L a⟩
      · have e3 : lns L ln a s = a := by
          rw [lns, if_neg]
          rintro ⟨h3, h4⟩
          rcases Nat.lt_or_ge s L.length with h5 | h5
          · exact h1 ⟨h5, h4⟩
          · exact h2 ⟨by omega, h4⟩
        rw [e3]
        exact ⟨⟨rfl, rfl, rfl⟩, rfl⟩
    rw [hlns.2, hlns.1.2.1, hlns.1.2.2]
    have hgo : ∀ (m' : q_MM) (q : Nat), T_Model_readSource sE sC m'.1 m'.2.1 m'.2.2.1 m'.2.2.2.1 m'.2.2.2.2.1 m'.2.2.2.2.2.1 m'.2.2.2.2.2.2.1 m'.2.2.2.2.2.2.2.1 m'.2.2.2.2.2.2.2.2.1 m'.2.2.2.2.2.2.2.2.2.1 m'.2.2.2.2.2.2.2.2.2.2.1 m'.2.2.2.2.2.2.2.2.2.2.2.1 m'.2.2.2.2.2.2.2.2.2.2.2.2.1 m'.2.2.2.2.2.2.2.2.2.2.2.2.2.1 m'.2.2.2.2.2.2.2.2.2.2.2.2.2.2.1 m'.2.2.2.2.2.2.2.2.2.2.2.2.2.2.2.1 m'.2.2.2.2.2.2.2.2.2.2.2.2.2.2.2.2.1 m'.2.2.2.2.2.2.2.2.2.2.2.2.2.2.2.2.2.1 m'.2.2.2.2.2.2.2.2.2.2.2.2.2.2.2.2.2.2.1 m'.2.2.2.2.2.2.2.2.2.2.2.2.2.2.2.2.2.2.2.1 m'.2.2.2.2.2.2.2.2.2.2.2.2.2.2.2.2.2.2.2.2.1 m'.2.2.2.2.2.2.2.2.2.2.2.2.2.2.2.2.2.2.2.2.2 q 1 0 0 m.1 m.2.1 m.2.2.1 m.2.2.2.1 m.2.2.2.2.1 m.2.2.2.2.2.1 m.2.2.2.2.2.2.1 m.2.2.2.2.2.2.2.1 m.2.2.2.2.2.2.2.2.1 m.2.2.2.2.2.2.2.2.2.1 m.2.2.2.2.2.2.2.2.2.2.1 m.2.2.2.2.2.2.2.2.2.2.2.1 m.2.2.2.2.2.2.2.2.2.2.2.2.1 m.2.2.2.2.2.2.2.2.2.2.2.2.2.1 m.2.2.2.2.2.2.2.2.2.2.2.2.2.2.1 m.2.2.2.2.2.2.2.2.2.2.2.2.2.2.2.1 m.2.2.2.2.2.2.2.2.2.2.2.2.2.2.2.2.1 m.2.2.2.2.2.2.2.2.2.2.2.2.2.2.2.2.2.1 m.2.2.2.2.2.2.2.2.2.2.2.2.2.2.2.2.2.2.1 m.2.2.2.2.2.2.2.2.2.2.2.2.2.2.2.2.2.2.2.1 m.2.2.2.2.2.2.2.2.2.2.2.2.2.2.2.2.2.2.2.2.1 m.2.2.2.2.2.2.2.2.2.2.2.2.2.2.2.2.2.2.2.2.2 → T_Model_readSource sE sC m'.1 m'.2.1 m'.2.2.1 m'.2.2.2.1 m'.2.2.2.2.1 m'.2.2.2.2.2.1 m'.2.2.2.2.2.2.1 m'.2.2.2.2.2.2.2.1 m'.2.2.2.2.2.2.2.2.1 m'.2.2.2.2.2.2.2.2.2.1 m'.2.2.2.2.2.2.2.2.2.2.1 m'.2.2.2.2.2.2.2.2.2.2.2.1 m'.2.2.2.2.2.2.2.2.2.2.2.2.1 m'.2.2.2.2.2.2.2.2.2.2.2.2.2.1 m'.2.2.2.2.2.2.2.2.2.2.2.2.2.2.1 m'.2.2.2.2.2.2.2.2.2.2.2.2.2.2.2.1 m'.2.2.2.2.2.2.2.2.2.2.2.2.2.2.2.2.1 m'.2.2.2.2.2.2.2.2.2.2.2.2.2.2.2.2.2.1 m'.2.2.2.2.2.2.2.2.2.2.2.2.2.2.2.2.2.2.1 m'.2.2.2.2.2.2.2.2.2.2.2.2.2.2.2.2.2.2.2.1 m'.2.2.2.2.2.2.2.2.2.2.2.2.2.2.2.2.2.2.2.2.1 m'.2.2.2.2.2.2.2.2.2.2.2.2.2.2.2.2.2.2.2.2.2 (q + 1) 0 (nI ln) (nI s) m.1 m.2.1 m.2.2.1 m.2.2.2.1 m.2.2.2.2.1 m.2.2.2.2.2.1 m.2.2.2.2.2.2.1 m.2.2.2.2.2.2.2.1 m.2.2.2.2.2.2.2.2.1 m.2.2.2.2.2.2.2.2.2.1 m.2.2.2.2.2.2.2.2.2.2.1 m.2.2.2.2.2.2.2.2.2.2.2.1 m.2.2.2.2.2.2.2.2.2.2.2.2.1 m.2.2.2.2.2.2.2.2.2.2.2.2.2.1 m.2.2.2.2.2.2.2.2.2.2.2.2.2.2.1 m.2.2.2.2.2.2.2.2.2.2.2.2.2.2.2.1 m.2.2.2.2.2.2.2.2.2.2.2.2.2.2.2.2.1 m.2.2.2.2.2.2.2.2.2.2.2.2.2.2.2.2.2.1 m.2.2.2.2.2.2.2.2.2.2.2.2.2.2.2.2.2.2.1 m.2.2.2.2.2.2.2.2.2.2.2.2.2.2.2.2.2.2.2.1 m.2.2.2.2.2.2.2.2.2.2.2.2.2.2.2.2.2.2.2.2.1 m.2.2.2.2.2.2.2.2.2.2.2.2.2.2.2.2.2.2.2.2.2 := by
      intro m' q h9
      refine ⟨fun _ => h9, fun h8 => ⟨fun h7 => ?_, fun _ => h9⟩⟩
      exfalso
      rw [hC] at h8
      have h5 : s < L.length := by
        rcases Nat.lt_or_ge s L.length with h6 | h6
        · exact h6
        · exact absurd (nI_le h6 (by omega)) h8
      rcases h with ⟨h6, _⟩ | ⟨h6, h4, h3, _⟩
      · exact h1 ⟨h5, h6⟩
      · rw [h3] at h7
        exact h6 ((nI_eq (by omega) (by omega)).mp h7)
    have hAc : WA L (clP a) (L.length + 2) := wa_clP hA (by omega)
    have hcl := clP_ns a
    -- from the resolving on
    have hres : ∀ (m1 : q_MM), MR L m1 (clP a) → ∃ FL' F' Bo', D_Model_resolve sE m1.1 m1.2.1 m1.2.2.1 m1.2.2.2.1 m1.2.2.2.2.1 m1.2.2.2.2.2.1 m1.2.2.2.2.2.2.1 m1.2.2.2.2.2.2.2.2.2.2.2.1 m1.2.2.2.2.2.2.2.2.2.2.2.2.1 m1.2.2.2.2.2.2.2.2.2.2.2.2.2.1 m1.2.2.2.2.2.2.2.2.2.2.2.2.2.2.1 m1.2.2.2.2.2.2.2.2.2.2.2.2.2.2.2.1 FL' F' Bo' ∧ F' = nI (q_fin L a).1 ∧ FL' = ftI (q_fin L a).1 (q_fin L a).2.1 ∧ ((q_fin L a).1 = 0 → RB ((FL', F', m1.2.2.1, m1.2.2.2.1, Bo', m1.2.2.2.2.2.1, m1.2.2.2.2.2.2.1, m1.2.2.2.2.2.2.2.1, m1.2.2.2.2.2.2.2.2.1, m1.2.2.2.2.2.2.2.2.2.1, m1.2.2.2.2.2.2.2.2.2.2.1, m1.2.2.2.2.2.2.2.2.2.2.2.1, m1.2.2.2.2.2.2.2.2.2.2.2.2.1, m1.2.2.2.2.2.2.2.2.2.2.2.2.2.1, m1.2.2.2.2.2.2.2.2.2.2.2.2.2.2.1, m1.2.2.2.2.2.2.2.2.2.2.2.2.2.2.2.1, m1.2.2.2.2.2.2.2.2.2.2.2.2.2.2.2.2.1, m1.2.2.2.2.2.2.2.2.2.2.2.2.2.2.2.2.2.1, m1.2.2.2.2.2.2.2.2.2.2.2.2.2.2.2.2.2.2.1, m1.2.2.2.2.2.2.2.2.2.2.2.2.2.2.2.2.2.2.2.1, m1.2.2.2.2.2.2.2.2.2.2.2.2.2.2.2.2.2.2.2.2.1, m1.2.2.2.2.2.2.2.2.2.2.2.2.2.2.2.2.2.2.2.2.2) : q_MM) a.1 (q_fin L a).2.2 a.2.2.2.1) := by
      intro m1 hm1
      rw [fin_eq]
      rcases hm1 with ⟨h8, h9⟩ | ⟨h8, h4, h5, h6, tn, h7, h3⟩
      · obtain ⟨Bo', ⟨q, hq⟩, g2⟩ := m_rsv hs hv h9 hAc.1 hAc.2.1 (by have := hAc.2.2.1; omega) 0 (by omega) (clP a).2.2.2.2.2.1 (clP a).2.2.2.2.2.2.1 (by omega) (clP a).2.1 ⟨rfl, fun _ => rfl⟩ m1.2.2.2.2.1 (fun _ => h9.2.2.2.2.2.2.1)
        rw [List.drop_zero] at hq g2
        obtain ⟨z1, z2, z3, z4, z5, z6, z7, z8, z9, z10, z11, z12, z13, z14, z15⟩ := h9
        refine ⟨_, _, Bo', ⟨q, ?_⟩, rfl, rfl, fun h2 => ?_⟩
        · rw [z1, z3]
          rw [h8] at hq ⊢
          exact hq
        · -- no fault: the bodies stand as they were read
          have hc0 : ∀ (n : Nat) (q : Nat × Nat), (endT n q).1 = 0 → q.1 = 0 := by
            intro n q h
            unfold endT at h
            split at h
            · simp only at h; split at h <;> omega
            · exact h
          have hch : ∀ (bs : List (List Nat)) (d : Nat) (ft fl : Nat), (q_chk bs (clP a).2.2.1 d (ft, fl)).1 = 0 → ft = 0 := by
            intro bs d
            induction d with
            | zero => intro ft fl h; exact h
            | succ d ih =>
              intro ft fl h
              simp only [q_chk] at h
              split at h
              · have := ih _ _ h
                split at this <;> omega
              · exact ih _ _ h
          have hr0 := hch _ _ _ _ (hc0 _ _ h2)
          have hM := g2 hr0
          have hsh : ∀ (lk : List q_Lk) (s : Nat × Nat × List (List Nat)), (∀ k ∈ lk, k.2.2.2.1 < s.2.2.length) → shp s.2.2 (rsv L (clP a).1 lk s).2.2 := by
            intro lk
            induction lk with
            | nil => intro s _; exact ⟨rfl, fun _ => rfl⟩
            | cons k r ih =>
              intro s hk
              obtain ⟨ft, fl, bs⟩ := s
              simp only [rsv]
              split
              · exact ih (_, _, bs) (fun x hx => hk x (by simp [hx]))
              · rename_i t _
                have := ih (ft, fl, q_setB bs k.2.2.2.1 k.2.2.2.2 t) (fun x hx => by simp only; rw [setB_len]; exact hk x (by simp [hx]))
                have hkt : k.2.2.2.1 < bs.length := hk k (by simp)
                exact ⟨by rw [this.1, setB_len], fun u => by rw [this.2, setB_bdl hkt]⟩
          have hsh1 := hsh (clP a).2.2.2.2.1 ((clP a).2.2.2.2.2.1, (clP a).2.2.2.2.2.2.1, (clP a).2.1) (fun k hk => by
            obtain ⟨i, hi, e⟩ := List.mem_iff_getElem.mp hk
            have := (z11.2.2 i hi).2.2.2.2.1
            rw [List.getD_eq_getElem?_getD, List.getElem?_eq_getElem hi] at this
            simpa [e] using this)
          refine ⟨by simp only; rw [hsh1.1]; exact z4, by simp only; rw [hsh1.1, ← hcl.1]; exact z5, hM, by rw [← hcl.1]; exact z8, by rw [← hcl.2.1]; exact z10⟩
      · have hr := rsv_ft (L := L) (ns := (clP a).1) (lk := (clP a).2.2.2.2.1) (fl := (clP a).2.2.2.2.2.2.1) (bs := (clP a).2.1) h8
        have hc : ∀ (n : Nat) (r : Nat × Nat × List (List Nat)), r.1 = (clP a).2.2.2.2.2.1 → r.2.1 = (clP a).2.2.2.2.2.2.1 → endT n (q_chk r.2.2 (clP a).2.2.1 r.2.2.length (r.1, r.2.1)) = ((clP a).2.2.2.2.2.1, (clP a).2.2.2.2.2.2.1) := by
          intro n r e1 e2
          rw [e1, e2, chk_ft h8]
          simp only [endT, h8, if_false]
          split <;> rfl
        rw [hc _ _ hr.1 hr.2]
        obtain ⟨q, hq⟩ := m_rsvF (sE := sE) (Nm := m1.2.2.2.1) (Le := m1.2.2.2.2.2.1) (Hg := m1.2.2.2.2.2.2.1) (lA := m1.2.2.2.2.2.2.2.2.2.2.2.2.1) (lL := m1.2.2.2.2.2.2.2.2.2.2.2.2.2.1) (lI := m1.2.2.2.2.2.2.2.2.2.2.2.2.2.2.1) (lT := m1.2.2.2.2.2.2.2.2.2.2.2.2.2.2.2.1) (n := m1.2.2.2.2.2.2.2.2.2.2.2.1) h7 m1.2.2.2.2.1 (fl := (clP a).2.2.2.2.2.2.1) h4 h8 0
        refine ⟨nI (clP a).2.2.2.2.2.2.1, nI (clP a).2.2.2.2.2.1, m1.2.2.2.2.1, ⟨q, ?_⟩, rfl, by simp only [ftI, h8, if_false], fun h9 => absurd h9 h8⟩
        rw [h5, h6, h3]; exact hq
    by_cases h2 : a.2.2.2.2.2.1 = 0
    · have hMI : MI L m a := by
        rcases h with ⟨_, h8⟩ | ⟨h8, _⟩
        · exact h8
        · exact absurd h2 h8
      obtain ⟨FL1, F1, Bo1, Le1, d1, d2⟩ := mi_end hMI (hX h2) (by have := hA.2.2.1; omega)
      obtain ⟨FL2, F2, Bo2, g1, g2, g3, g4⟩ := hres _ d2
      refine ⟨((FL2, F2, m.2.2.1, m.2.2.2.1, Bo2, Le1, m.2.2.2.2.2.2.1, m.2.2.2.2.2.2.2.1, m.2.2.2.2.2.2.2.2.1, m.2.2.2.2.2.2.2.2.2.1, m.2.2.2.2.2.2.2.2.2.2.1, m.2.2.2.2.2.2.2.2.2.2.2.1, m.2.2.2.2.2.2.2.2.2.2.2.2.1, m.2.2.2.2.2.2.2.2.2.2.2.2.2.1, m.2.2.2.2.2.2.2.2.2.2.2.2.2.2.1, m.2.2.2.2.2.2.2.2.2.2.2.2.2.2.2.1, false, false, false, m.2.2.2.2.2.2.2.2.2.2.2.2.2.2.2.2.2.2.2.1, m.2.2.2.2.2.2.2.2.2.2.2.2.2.2.2.2.2.2.2.2.1, m.2.2.2.2.2.2.2.2.2.2.2.2.2.2.2.2.2.2.2.2.2) : q_MM), ⟨3, hgo _ 2 ?_⟩, g2, g3, g4⟩
      have hF0 := hMI.1
      rw [hF0] at d1 ⊢
      simp (disch := omega) only [T_Model_readSource, S_Model_readSource, B_Model_readSource_82, B_Model_readSource_93, q_lit, le_T, le_F, lt_T, lt_F, eq_T, eq_F, m1_lt, m1_le, lt_m1, le_m1, eq_m1, m1_eq, nI_add, nI_sub, nI_dec, nI_mul, nI_or, nI_and, nI_div, nI_mod, and_255, and_31, and_1, and_63, nI_shl, nI_shr, bI_F, bI_1, vp_T, cl_T, true_implies, false_implies, not_true_eq_false, not_false_eq_true, true_and, and_true, false_and, and_false, Bool.false_eq_true, Bool.true_eq_false, reduceCtorEq, implies_true, q_lc_eq, q_lc_ge, q_lc_gt, q_lc_le, lN_or, lN_and, lN_shl, lN_shr, nI_L, lN_I, l_0]
      exact ⟨FL1, F1, Bo1, Le1, false, false, false, d1, FL2, F2, Bo2, g1, by repeat' constructor⟩
    · have hm : MR L m (clP a) := by
        refine MR.fault h h2 ?_ ?_
        · unfold clP; split
          · simp only; split
            · simp [blm, h2]
            · rfl
          · rfl
        · unfold clP; split
          · simp only; split
            · simp [blm, h2]
            · rfl
          · rfl
      obtain ⟨FL2, F2, Bo2, g1, g2, g3, g4⟩ := hres m hm
      refine ⟨((FL2, F2, m.2.2.1, m.2.2.2.1, Bo2, m.2.2.2.2.2.1, m.2.2.2.2.2.2.1, m.2.2.2.2.2.2.2.1, m.2.2.2.2.2.2.2.2.1, m.2.2.2.2.2.2.2.2.2.1, m.2.2.2.2.2.2.2.2.2.2.1, m.2.2.2.2.2.2.2.2.2.2.2.1, m.2.2.2.2.2.2.2.2.2.2.2.2.1, m.2.2.2.2.2.2.2.2.2.2.2.2.2.1, m.2.2.2.2.2.2.2.2.2.2.2.2.2.2.1, m.2.2.2.2.2.2.2.2.2.2.2.2.2.2.2.1, m.2.2.2.2.2.2.2.2.2.2.2.2.2.2.2.2.1, m.2.2.2.2.2.2.2.2.2.2.2.2.2.2.2.2.2.1, m.2.2.2.2.2.2.2.2.2.2.2.2.2.2.2.2.2.2.1, m.2.2.2.2.2.2.2.2.2.2.2.2.2.2.2.2.2.2.2.1, m.2.2.2.2.2.2.2.2.2.2.2.2.2.2.2.2.2.2.2.2.1, m.2.2.2.2.2.2.2.2.2.2.2.2.2.2.2.2.2.2.2.2.2) : q_MM), ⟨3, hgo _ 2 ?_⟩, g2, g3, g4⟩
      have hF : m.2.1 = nI a.2.2.2.2.2.1 ∧ a.2.2.2.2.2.1 < 100 := by
        rcases h with ⟨h8, _⟩ | ⟨_, h4, h5, _⟩
        · exact absurd h8 h2
        · exact ⟨h5, h4⟩
      have hF2 := hF.2
      rw [hF.1] at g1 ⊢
      simp (disch := omega) only [T_Model_readSource, S_Model_readSource, B_Model_readSource_82, B_Model_readSource_93, q_lit, le_T, le_F, lt_T, lt_F, eq_T, eq_F, m1_lt, m1_le, lt_m1, le_m1, eq_m1, m1_eq, nI_add, nI_sub, nI_dec, nI_mul, nI_or, nI_and, nI_div, nI_mod, and_255, and_31, and_1, and_63, nI_shl, nI_shr, bI_F, bI_1, vp_T, cl_T, true_implies, false_implies, not_true_eq_false, not_false_eq_true, true_and, and_true, false_and, and_false, Bool.false_eq_true, Bool.true_eq_false, reduceCtorEq, implies_true, q_lc_eq, q_lc_ge, q_lc_gt, q_lc_le, lN_or, lN_and, lN_shl, lN_shr, nI_L, lN_I, l_0]
      exact ⟨FL2, F2, Bo2, g1, by repeat' constructor⟩
termination_by L.length + 1 - s
decreasing_by have := lnE_ge L s; omega
