/-! Pure: the class writes the tree and the index. -/
def bcF (k0 : Int32) : Int32 := ((((((((k0 - (((Int32.toUInt32 k0 >>> (Int32.toUInt32 1 &&& Int32.toUInt32 31)).toInt32) &&& 1431655765)) &&& 858993459) + (((Int32.toUInt32 (k0 - (((Int32.toUInt32 k0 >>> (Int32.toUInt32 1 &&& Int32.toUInt32 31)).toInt32) &&& 1431655765)) >>> (Int32.toUInt32 2 &&& Int32.toUInt32 31)).toInt32) &&& 858993459)) + ((Int32.toUInt32 (((k0 - (((Int32.toUInt32 k0 >>> (Int32.toUInt32 1 &&& Int32.toUInt32 31)).toInt32) &&& 1431655765)) &&& 858993459) + (((Int32.toUInt32 (k0 - (((Int32.toUInt32 k0 >>> (Int32.toUInt32 1 &&& Int32.toUInt32 31)).toInt32) &&& 1431655765)) >>> (Int32.toUInt32 2 &&& Int32.toUInt32 31)).toInt32) &&& 858993459)) >>> (Int32.toUInt32 4 &&& Int32.toUInt32 31)).toInt32)) &&& 252645135) + ((Int32.toUInt32 (((((k0 - (((Int32.toUInt32 k0 >>> (Int32.toUInt32 1 &&& Int32.toUInt32 31)).toInt32) &&& 1431655765)) &&& 858993459) + (((Int32.toUInt32 (k0 - (((Int32.toUInt32 k0 >>> (Int32.toUInt32 1 &&& Int32.toUInt32 31)).toInt32) &&& 1431655765)) >>> (Int32.toUInt32 2 &&& Int32.toUInt32 31)).toInt32) &&& 858993459)) + ((Int32.toUInt32 (((k0 - (((Int32.toUInt32 k0 >>> (Int32.toUInt32 1 &&& Int32.toUInt32 31)).toInt32) &&& 1431655765)) &&& 858993459) + (((Int32.toUInt32 (k0 - (((Int32.toUInt32 k0 >>> (Int32.toUInt32 1 &&& Int32.toUInt32 31)).toInt32) &&& 1431655765)) >>> (Int32.toUInt32 2 &&& Int32.toUInt32 31)).toInt32) &&& 858993459)) >>> (Int32.toUInt32 4 &&& Int32.toUInt32 31)).toInt32)) &&& 252645135) >>> (Int32.toUInt32 8 &&& Int32.toUInt32 31)).toInt32)) + ((Int32.toUInt32 ((((((k0 - (((Int32.toUInt32 k0 >>> (Int32.toUInt32 1 &&& Int32.toUInt32 31)).toInt32) &&& 1431655765)) &&& 858993459) + (((Int32.toUInt32 (k0 - (((Int32.toUInt32 k0 >>> (Int32.toUInt32 1 &&& Int32.toUInt32 31)).toInt32) &&& 1431655765)) >>> (Int32.toUInt32 2 &&& Int32.toUInt32 31)).toInt32) &&& 858993459)) + ((Int32.toUInt32 (((k0 - (((Int32.toUInt32 k0 >>> (Int32.toUInt32 1 &&& Int32.toUInt32 31)).toInt32) &&& 1431655765)) &&& 858993459) + (((Int32.toUInt32 (k0 - (((Int32.toUInt32 k0 >>> (Int32.toUInt32 1 &&& Int32.toUInt32 31)).toInt32) &&& 1431655765)) >>> (Int32.toUInt32 2 &&& Int32.toUInt32 31)).toInt32) &&& 858993459)) >>> (Int32.toUInt32 4 &&& Int32.toUInt32 31)).toInt32)) &&& 252645135) + ((Int32.toUInt32 (((((k0 - (((Int32.toUInt32 k0 >>> (Int32.toUInt32 1 &&& Int32.toUInt32 31)).toInt32) &&& 1431655765)) &&& 858993459) + (((Int32.toUInt32 (k0 - (((Int32.toUInt32 k0 >>> (Int32.toUInt32 1 &&& Int32.toUInt32 31)).toInt32) &&& 1431655765)) >>> (Int32.toUInt32 2 &&& Int32.toUInt32 31)).toInt32) &&& 858993459)) + ((Int32.toUInt32 (((k0 - (((Int32.toUInt32 k0 >>> (Int32.toUInt32 1 &&& Int32.toUInt32 31)).toInt32) &&& 1431655765)) &&& 858993459) + (((Int32.toUInt32 (k0 - (((Int32.toUInt32 k0 >>> (Int32.toUInt32 1 &&& Int32.toUInt32 31)).toInt32) &&& 1431655765)) >>> (Int32.toUInt32 2 &&& Int32.toUInt32 31)).toInt32) &&& 858993459)) >>> (Int32.toUInt32 4 &&& Int32.toUInt32 31)).toInt32)) &&& 252645135) >>> (Int32.toUInt32 8 &&& Int32.toUInt32 31)).toInt32)) >>> (Int32.toUInt32 16 &&& Int32.toUInt32 31)).toInt32)) &&& 63)
theorem bc_all : ∀ b : Fin 1024, bcF (nI b.val) = nI (tpD b.val 10).length := by decide +kernel
theorem wr_rowN {k s : Nat} (hk : k < 1000000) (hs : 1 ≤ s) (hs2 : s < 1000000) : D_Tree_rowNodes (nI k) (nI s) (nI (up4 k s)) := by
  unfold D_Tree_rowNodes
  have e : (if nI s < 1 then (1 : Int32) else nI s) = nI s := by
    rw [if_neg]
    simp (disch := omega) only [q_lit, le_T, le_F, lt_T, lt_F, eq_T, eq_F, m1_lt, m1_le, lt_m1, le_m1, eq_m1, m1_eq, nI_add, nI_sub, nI_dec, nI_mul, nI_or, nI_and, nI_div, nI_mod, and_255, and_31, and_1, and_63, nI_shl, nI_shr, bI_F, bI_1, vp_T, cl_T, true_implies, false_implies, not_true_eq_false, not_false_eq_true, true_and, and_true, false_and, and_false, Bool.false_eq_true, Bool.true_eq_false, reduceCtorEq, implies_true]
  rw [e]
  refine ⟨?_, ?_⟩
  · simp (disch := omega) only [q_lit, le_T, le_F, lt_T, lt_F, eq_T, eq_F, m1_lt, m1_le, lt_m1, le_m1, eq_m1, m1_eq, nI_add, nI_sub, nI_dec, nI_mul, nI_or, nI_and, nI_div, nI_mod, and_255, and_31, and_1, and_63, nI_shl, nI_shr, bI_F, bI_1, vp_T, cl_T, true_implies, false_implies, not_true_eq_false, not_false_eq_true, true_and, and_true, false_and, and_false, Bool.false_eq_true, Bool.true_eq_false, reduceCtorEq, implies_true]
  · simp (disch := omega) only [q_lit, le_T, le_F, lt_T, lt_F, eq_T, eq_F, m1_lt, m1_le, lt_m1, le_m1, eq_m1, m1_eq, nI_add, nI_sub, nI_dec, nI_mul, nI_or, nI_and, nI_div, nI_mod, and_255, and_31, and_1, and_63, nI_shl, nI_shr, bI_F, bI_1, vp_T, cl_T, true_implies, false_implies, not_true_eq_false, not_false_eq_true, true_and, and_true, false_and, and_false, Bool.false_eq_true, Bool.true_eq_false, reduceCtorEq, implies_true]
    rfl
theorem tr_nodesN {k : Nat} (hk : k ≤ 256) : D_Tree_nodes (nI k) (nI (treeN k)) := by
  have r1 := wr_rowN (k := k) (s := 4) (by omega) (by omega) (by omega)
  have r2 := wr_rowN (k := k) (s := 16) (by omega) (by omega) (by omega)
  have r3 := wr_rowN (k := k) (s := 64) (by omega) (by omega) (by omega)
  have r4 := wr_rowN (k := k) (s := 256) (by omega) (by omega) (by omega)
  refine ⟨4, _, r1, ?_⟩
  by_cases h1 : 4 < k
  · by_cases h2 : 16 < k
    · by_cases h3 : 64 < k
      · simp (disch := omega) only [T_Tree_nodes, S_Tree_nodes, B_Tree_nodes_8, q_lit, le_T, le_F, lt_T, lt_F, eq_T, eq_F, m1_lt, m1_le, lt_m1, le_m1, eq_m1, m1_eq, nI_add, nI_sub, nI_dec, nI_mul, nI_or, nI_and, nI_div, nI_mod, and_255, and_31, and_1, and_63, nI_shl, nI_shr, bI_F, bI_1, vp_T, cl_T, true_implies, false_implies, not_true_eq_false, not_false_eq_true, true_and, and_true, false_and, and_false, Bool.false_eq_true, Bool.true_eq_false, reduceCtorEq, implies_true, q_lc_eq, q_lc_ge, q_lc_gt, q_lc_le, lN_or, lN_and, lN_shl, lN_shr, nI_L, lN_I, l_0]
        refine ⟨_, r2, _, r3, _, r4, ?_⟩
        simp (disch := omega) only [treeN, h1, h2, h3, if_true, q_lit, le_T, le_F, lt_T, lt_F, eq_T, eq_F, m1_lt, m1_le, lt_m1, le_m1, eq_m1, m1_eq, nI_add, nI_sub, nI_dec, nI_mul, nI_or, nI_and, nI_div, nI_mod, and_255, and_31, and_1, and_63, nI_shl, nI_shr, bI_F, bI_1, vp_T, cl_T, true_implies, false_implies, not_true_eq_false, not_false_eq_true, true_and, and_true, false_and, and_false, Bool.false_eq_true, Bool.true_eq_false, reduceCtorEq, implies_true]
      · simp (disch := omega) only [T_Tree_nodes, S_Tree_nodes, B_Tree_nodes_8, q_lit, le_T, le_F, lt_T, lt_F, eq_T, eq_F, m1_lt, m1_le, lt_m1, le_m1, eq_m1, m1_eq, nI_add, nI_sub, nI_dec, nI_mul, nI_or, nI_and, nI_div, nI_mod, and_255, and_31, and_1, and_63, nI_shl, nI_shr, bI_F, bI_1, vp_T, cl_T, true_implies, false_implies, not_true_eq_false, not_false_eq_true, true_and, and_true, false_and, and_false, Bool.false_eq_true, Bool.true_eq_false, reduceCtorEq, implies_true, q_lc_eq, q_lc_ge, q_lc_gt, q_lc_le, lN_or, lN_and, lN_shl, lN_shr, nI_L, lN_I, l_0]
        refine ⟨_, r2, _, r3, ?_⟩
        simp (disch := omega) only [treeN, h1, h2, h3, if_true, if_false, q_lit, le_T, le_F, lt_T, lt_F, eq_T, eq_F, m1_lt, m1_le, lt_m1, le_m1, eq_m1, m1_eq, nI_add, nI_sub, nI_dec, nI_mul, nI_or, nI_and, nI_div, nI_mod, and_255, and_31, and_1, and_63, nI_shl, nI_shr, bI_F, bI_1, vp_T, cl_T, true_implies, false_implies, not_true_eq_false, not_false_eq_true, true_and, and_true, false_and, and_false, Bool.false_eq_true, Bool.true_eq_false, reduceCtorEq, implies_true]
    · simp (disch := omega) only [T_Tree_nodes, S_Tree_nodes, B_Tree_nodes_8, q_lit, le_T, le_F, lt_T, lt_F, eq_T, eq_F, m1_lt, m1_le, lt_m1, le_m1, eq_m1, m1_eq, nI_add, nI_sub, nI_dec, nI_mul, nI_or, nI_and, nI_div, nI_mod, and_255, and_31, and_1, and_63, nI_shl, nI_shr, bI_F, bI_1, vp_T, cl_T, true_implies, false_implies, not_true_eq_false, not_false_eq_true, true_and, and_true, false_and, and_false, Bool.false_eq_true, Bool.true_eq_false, reduceCtorEq, implies_true, q_lc_eq, q_lc_ge, q_lc_gt, q_lc_le, lN_or, lN_and, lN_shl, lN_shr, nI_L, lN_I, l_0]
      refine ⟨_, r2, ?_⟩
      simp (disch := omega) only [treeN, h1, h2, if_true, if_false, q_lit, le_T, le_F, lt_T, lt_F, eq_T, eq_F, m1_lt, m1_le, lt_m1, le_m1, eq_m1, m1_eq, nI_add, nI_sub, nI_dec, nI_mul, nI_or, nI_and, nI_div, nI_mod, and_255, and_31, and_1, and_63, nI_shl, nI_shr, bI_F, bI_1, vp_T, cl_T, true_implies, false_implies, not_true_eq_false, not_false_eq_true, true_and, and_true, false_and, and_false, Bool.false_eq_true, Bool.true_eq_false, reduceCtorEq, implies_true]
  · simp (disch := omega) only [T_Tree_nodes, S_Tree_nodes, B_Tree_nodes_8, treeN, h1, if_false, q_lit, le_T, le_F, lt_T, lt_F, eq_T, eq_F, m1_lt, m1_le, lt_m1, le_m1, eq_m1, m1_eq, nI_add, nI_sub, nI_dec, nI_mul, nI_or, nI_and, nI_div, nI_mod, and_255, and_31, and_1, and_63, nI_shl, nI_shr, bI_F, bI_1, vp_T, cl_T, true_implies, false_implies, not_true_eq_false, not_false_eq_true, true_and, and_true, false_and, and_false, Bool.false_eq_true, Bool.true_eq_false, reduceCtorEq, implies_true, q_lc_eq, q_lc_ge, q_lc_gt, q_lc_le, lN_or, lN_and, lN_shl, lN_shr, nI_L, lN_I, l_0]
theorem min4 {a : Nat} (ha : a < 1000000) : (if nI a < 4 then nI a else 4 : Int32) = nI (if a < 4 then a else 4) := by
  by_cases h : a < 4
  · rw [if_pos h, if_pos]
    simp (disch := omega) only [q_lit, le_T, le_F, lt_T, lt_F, eq_T, eq_F, m1_lt, m1_le, lt_m1, le_m1, eq_m1, m1_eq, nI_add, nI_sub, nI_dec, nI_mul, nI_or, nI_and, nI_div, nI_mod, and_255, and_31, and_1, and_63, nI_shl, nI_shr, bI_F, bI_1, vp_T, cl_T, true_implies, false_implies, not_true_eq_false, not_false_eq_true, true_and, and_true, false_and, and_false, Bool.false_eq_true, Bool.true_eq_false, reduceCtorEq, implies_true]
  · rw [if_neg h, if_neg]
    · rfl
    · simp (disch := omega) only [q_lit, le_T, le_F, lt_T, lt_F, eq_T, eq_F, m1_lt, m1_le, lt_m1, le_m1, eq_m1, m1_eq, nI_add, nI_sub, nI_dec, nI_mul, nI_or, nI_and, nI_div, nI_mod, and_255, and_31, and_1, and_63, nI_shl, nI_shr, bI_F, bI_1, vp_T, cl_T, true_implies, false_implies, not_true_eq_false, not_false_eq_true, true_and, and_true, false_and, and_false, Bool.false_eq_true, Bool.true_eq_false, reduceCtorEq, implies_true]
/-- keywords that may be written -/
def KsOk (m : List (List Nat × Nat)) : Prop := ∀ i, i < m.length → q_Wd (mw m i) ∧ (mw m i).length ≤ 12 ∧ mb m i < 65536
theorem wl_wordM {n : Nat} {W : Nat → Int64} {T : Nat → Int32} {C : Int32} {m : List (List Nat × Nat)} (h : CW n W T C (codes m)) {k : Nat} (hk : k < m.length) : D_WordList_word n (nI k) W C (lN (enc (mw m k))) := by
  have := wl_word h (k := k) (by rw [codes_len]; exact hk)
  rwa [codes_ce] at this
theorem wl_topicsM {n : Nat} {W : Nat → Int64} {T : Nat → Int32} {C : Int32} {m : List (List Nat × Nat)} (h : CW n W T C (codes m)) {k : Nat} (hk : k < m.length) : D_WordList_topics n (nI k) T C (nI (mb m k)) := by
  have := wl_topics h (k := k) (by rw [codes_len]; exact hk)
  rwa [codes_cb] at this
theorem t_leaf {W : Nat → Int64} {T : Nat → Int32} {Kc : Int32} {m : List (List Nat × Nat)} (h : CW 252 W T Kc (codes m)) (hok : KsOk m) {f e : Nat} (he : f + e ≤ m.length) (h4 : f % 4 = 0) (he4 : e ≤ 4) (k : Nat) (hk : f + 1 ≤ k) (hk2 : k ≤ f + e) (E : Nat → Int32) (C : Int32) (O : Bool) (L : List Nat) (hR : RO E C O (L ++ lvs m k)) :
    ∃ E' C' O', (∃ q, T_ImageWriter_writeLeaf 252 3000 W T Kc E' C' O' q (nI f) (nI e) (nI k) E C O) ∧ RO E' C' O' (L ++ lvs m (f + e)) := by
  have hml : m.length ≤ 252 := by have := h.2.1; rwa [codes_len] at this
  by_cases h1 : k < f + e
  · obtain ⟨o1, o2, o3⟩ := hok k (by omega)
    obtain ⟨E1, C1, O1, a1, a2⟩ := wr_word o1 o2 hR
    obtain ⟨E2, C2, O2, b1, b2⟩ := ro_pair a2 (n := mb m k) (by omega)
    obtain ⟨E', C', O', ⟨q, hq⟩, c2⟩ := t_leaf h hok he h4 he4 (k + 1) (by omega) h1 E2 C2 O2 L (by
      simp only [lvs]; rw [if_neg (by omega)]; simpa using b2)
    refine ⟨E', C', O', ⟨q + 1, ?_⟩, c2⟩
    simp (disch := omega) only [T_ImageWriter_writeLeaf, S_ImageWriter_writeLeaf, B_ImageWriter_writeLeaf_19, q_lit, le_T, le_F, lt_T, lt_F, eq_T, eq_F, m1_lt, m1_le, lt_m1, le_m1, eq_m1, m1_eq, nI_add, nI_sub, nI_dec, nI_mul, nI_or, nI_and, nI_div, nI_mod, and_255, and_31, and_1, and_63, nI_shl, nI_shr, bI_F, bI_1, vp_T, cl_T, true_implies, false_implies, not_true_eq_false, not_false_eq_true, true_and, and_true, false_and, and_false, Bool.false_eq_true, Bool.true_eq_false, reduceCtorEq, implies_true, q_lc_eq, q_lc_ge, q_lc_gt, q_lc_le, lN_or, lN_and, lN_shl, lN_shr, nI_L, lN_I, l_0]
    exact ⟨_, wl_wordM h (by omega), E1, C1, O1, a1, _, wl_topicsM h (by omega), E2, C2, O2, b1, hq⟩
  · have hke : k = f + e := by omega
    subst hke
    refine ⟨E, C, O, ⟨1, ?_⟩, hR⟩
    simp (disch := omega) only [T_ImageWriter_writeLeaf, S_ImageWriter_writeLeaf, B_ImageWriter_writeLeaf_19, q_lit, le_T, le_F, lt_T, lt_F, eq_T, eq_F, m1_lt, m1_le, lt_m1, le_m1, eq_m1, m1_eq, nI_add, nI_sub, nI_dec, nI_mul, nI_or, nI_and, nI_div, nI_mod, and_255, and_31, and_1, and_63, nI_shl, nI_shr, bI_F, bI_1, vp_T, cl_T, true_implies, false_implies, not_true_eq_false, not_false_eq_true, true_and, and_true, false_and, and_false, Bool.false_eq_true, Bool.true_eq_false, reduceCtorEq, implies_true, q_lc_eq, q_lc_ge, q_lc_gt, q_lc_le, lN_or, lN_and, lN_shl, lN_shr, nI_L, lN_I, l_0]
termination_by f + e - k
decreasing_by all_goals omega
theorem wr_leaf {W : Nat → Int64} {T : Nat → Int32} {Kc : Int32} {m : List (List Nat × Nat)} (h : CW 252 W T Kc (codes m)) (hok : KsOk m) {f : Nat} (hf : f < m.length) (h4 : f % 4 = 0) {E : Nat → Int32} {C : Int32} {O : Bool} {L : List Nat} (hR : RO E C O (L ++ lvs m f)) :
    ∃ E' C' O', D_ImageWriter_writeLeaf 252 3000 (nI f) W T Kc E C O E' C' O' ∧ RO E' C' O' (L ++ lvs m (f + (if m.length - f < 4 then m.length - f else 4))) := by
  have hml : m.length ≤ 252 := by have := h.2.1; rwa [codes_len] at this
  have hKc : Kc = nI m.length := by rw [h.1, codes_len]
  obtain ⟨o1, o2, o3⟩ := hok f hf
  have hmin := min4 (a := m.length - f) (by omega)
  have he : 1 ≤ (if m.length - f < 4 then m.length - f else 4) ∧ (if m.length - f < 4 then m.length - f else 4) ≤ 4 ∧ f + (if m.length - f < 4 then m.length - f else 4) ≤ m.length := by split <;> omega
  obtain ⟨E0, C0, O0, z1, z2⟩ := ro_app hR (if m.length - f < 4 then m.length - f else 4)
  obtain ⟨E1, C1, O1, a1, a2⟩ := wr_word o1 o2 z2
  obtain ⟨E2, C2, O2, b1, b2⟩ := ro_pair a2 (n := mb m f) (by omega)
  obtain ⟨E', C', O', ⟨q, hq⟩, c2⟩ := t_leaf h hok he.2.2 h4 he.2.1 (f + 1) (by omega) (by omega) E2 C2 O2 L (by
    simp only [lvs]; rw [if_pos h4]; simpa using b2)
  have hsub : (Kc - nI f : Int32) = nI (m.length - f) := by rw [hKc]; exact nI_sub (by omega)
  refine ⟨E', C', O', ⟨q + 1, E0, C0, O0, ?_, ?_⟩, c2⟩
  · rw [hsub, hmin]; exact z1
  · rw [hsub, hmin]
    have he1 := he.1
    generalize (if m.length - f < 4 then m.length - f else 4) = e at *
    simp (disch := omega) only [T_ImageWriter_writeLeaf, S_ImageWriter_writeLeaf, B_ImageWriter_writeLeaf_19, q_lit, le_T, le_F, lt_T, lt_F, eq_T, eq_F, m1_lt, m1_le, lt_m1, le_m1, eq_m1, m1_eq, nI_add, nI_sub, nI_dec, nI_mul, nI_or, nI_and, nI_div, nI_mod, and_255, and_31, and_1, and_63, nI_shl, nI_shr, bI_F, bI_1, vp_T, cl_T, true_implies, false_implies, not_true_eq_false, not_false_eq_true, true_and, and_true, false_and, and_false, Bool.false_eq_true, Bool.true_eq_false, reduceCtorEq, implies_true, q_lc_eq, q_lc_ge, q_lc_gt, q_lc_le, lN_or, lN_and, lN_shl, lN_shr, nI_L, lN_I, l_0]
    exact ⟨_, wl_wordM h hf, E1, C1, O1, a1, _, wl_topicsM h hf, E2, C2, O2, b1, hq⟩
theorem mod4 {k : Nat} (hk : k < 1000000) : (nI k - nI k / 4 * 4 : Int32) = nI (k % 4) := by
  simp (disch := omega) only [q_lit, le_T, le_F, lt_T, lt_F, eq_T, eq_F, m1_lt, m1_le, lt_m1, le_m1, eq_m1, m1_eq, nI_add, nI_sub, nI_dec, nI_mul, nI_or, nI_and, nI_div, nI_mod, and_255, and_31, and_1, and_63, nI_shl, nI_shr, bI_F, bI_1, vp_T, cl_T, true_implies, false_implies, not_true_eq_false, not_false_eq_true, true_and, and_true, false_and, and_false, Bool.false_eq_true, Bool.true_eq_false, reduceCtorEq, implies_true]
theorem t_rowA {W : Nat → Int64} {T : Nat → Int32} {Kc : Int32} {m : List (List Nat × Nat)} (h : CW 252 W T Kc (codes m)) (hok : KsOk m) {f s n : Nat} (hs : s < 1000) (hf : f < 1000) (hn : n < 1000) (hns : ∀ k, k < n → k * s < m.length) (k : Nat) (hk : k ≤ n) (E : Nat → Int32) (C : Int32) (O : Bool) (L : List Nat) (hR : RO E C O (L ++ rowA m f s n k)) :
    ∃ E' C' O', (∃ q, T_ImageWriter_writeRowAbove 252 3000 W Kc E' C' O' q 0 (nI f) (nI s) (nI n) (nI k) E C O) ∧ RO E' C' O' (L ++ rowA m f s n n) := by
  have hml : m.length ≤ 252 := by have := h.2.1; rwa [codes_len] at this
  by_cases h1 : k < n
  · have hks := hns k h1
    obtain ⟨o1, o2, o3⟩ := hok (k * s) hks
    have hm4 := mod4 (k := k) (by omega)
    have hmin := min4 (a := n - k) (by omega)
    -- behind the head of a node
    have mid : ∀ (E0 : Nat → Int32) (C0 : Int32) (O0 : Bool), RO E0 C0 O0 (L ++ rowA m f s n k ++ (if k % 4 = 0 then [if n - k < 4 then n - k else 4] else [])) → ∃ E' C' O', (∃ q, T_ImageWriter_writeRowAbove 252 3000 W Kc E' C' O' q 1 (nI f) (nI s) (nI n) (nI k) E0 C0 O0) ∧ RO E' C' O' (L ++ rowA m f s n n) := by
      intro E0 C0 O0 h0
      obtain ⟨E1, C1, O1, a1, a2⟩ := ro_app h0 (f + k)
      obtain ⟨E2, C2, O2, b1, b2⟩ := wr_word o1 o2 a2
      obtain ⟨E', C', O', ⟨q, hq⟩, c2⟩ := t_rowA h hok hs hf hn hns (k + 1) h1 E2 C2 O2 L (by simp only [rowA]; simpa using b2)
      refine ⟨E', C', O', ⟨q + 1, ?_⟩, c2⟩
      simp (disch := omega) only [T_ImageWriter_writeRowAbove, S_ImageWriter_writeRowAbove, B_ImageWriter_writeRowAbove_40, q_lit, le_T, le_F, lt_T, lt_F, eq_T, eq_F, m1_lt, m1_le, lt_m1, le_m1, eq_m1, m1_eq, nI_add, nI_sub, nI_dec, nI_mul, nI_or, nI_and, nI_div, nI_mod, and_255, and_31, and_1, and_63, nI_shl, nI_shr, bI_F, bI_1, vp_T, cl_T, true_implies, false_implies, not_true_eq_false, not_false_eq_true, true_and, and_true, false_and, and_false, Bool.false_eq_true, Bool.true_eq_false, reduceCtorEq, implies_true, q_lc_eq, q_lc_ge, q_lc_gt, q_lc_le, lN_or, lN_and, lN_shl, lN_shr, nI_L, lN_I, l_0]
      exact ⟨E1, C1, O1, a1, _, wl_wordM h hks, E2, C2, O2, b1, hq⟩
    by_cases h2 : k % 4 = 0
    · obtain ⟨E0, C0, O0, z1, z2⟩ := ro_app hR (if n - k < 4 then n - k else 4)
      obtain ⟨E', C', O', ⟨q, hq⟩, c2⟩ := mid E0 C0 O0 (by rw [if_pos h2]; exact z2)
      refine ⟨E', C', O', ⟨q + 1, fun h9 => ?_, fun _ => ⟨fun _ => ⟨E0, C0, O0, ?_, hq⟩, fun h9 => ?_⟩⟩, c2⟩
      · exfalso; revert h9; simp (disch := omega) only [q_lit, le_T, le_F, lt_T, lt_F, eq_T, eq_F, m1_lt, m1_le, lt_m1, le_m1, eq_m1, m1_eq, nI_add, nI_sub, nI_dec, nI_mul, nI_or, nI_and, nI_div, nI_mod, and_255, and_31, and_1, and_63, nI_shl, nI_shr, bI_F, bI_1, vp_T, cl_T, true_implies, false_implies, not_true_eq_false, not_false_eq_true, true_and, and_true, false_and, and_false, Bool.false_eq_true, Bool.true_eq_false, reduceCtorEq, implies_true]
      · rw [nI_sub (by omega), hmin]; exact z1
      · exfalso; rw [hm4, h2] at h9; exact h9 rfl
    · obtain ⟨E', C', O', ⟨q, hq⟩, c2⟩ := mid E C O (by rw [if_neg h2, List.append_nil]; exact hR)
      refine ⟨E', C', O', ⟨q + 1, fun h9 => ?_, fun _ => ⟨fun h9 => ?_, fun _ => hq⟩⟩, c2⟩
      · exfalso; revert h9; simp (disch := omega) only [q_lit, le_T, le_F, lt_T, lt_F, eq_T, eq_F, m1_lt, m1_le, lt_m1, le_m1, eq_m1, m1_eq, nI_add, nI_sub, nI_dec, nI_mul, nI_or, nI_and, nI_div, nI_mod, and_255, and_31, and_1, and_63, nI_shl, nI_shr, bI_F, bI_1, vp_T, cl_T, true_implies, false_implies, not_true_eq_false, not_false_eq_true, true_and, and_true, false_and, and_false, Bool.false_eq_true, Bool.true_eq_false, reduceCtorEq, implies_true]
      · exfalso
        rw [hm4] at h9
        exact h2 ((nI_eq (by omega) (by omega)).mp h9)
  · have hke : k = n := by omega
    subst hke
    refine ⟨E, C, O, ⟨1, ?_⟩, hR⟩
    simp (disch := omega) only [T_ImageWriter_writeRowAbove, S_ImageWriter_writeRowAbove, B_ImageWriter_writeRowAbove_13, q_lit, le_T, le_F, lt_T, lt_F, eq_T, eq_F, m1_lt, m1_le, lt_m1, le_m1, eq_m1, m1_eq, nI_add, nI_sub, nI_dec, nI_mul, nI_or, nI_and, nI_div, nI_mod, and_255, and_31, and_1, and_63, nI_shl, nI_shr, bI_F, bI_1, vp_T, cl_T, true_implies, false_implies, not_true_eq_false, not_false_eq_true, true_and, and_true, false_and, and_false, Bool.false_eq_true, Bool.true_eq_false, reduceCtorEq, implies_true, q_lc_eq, q_lc_ge, q_lc_gt, q_lc_le, lN_or, lN_and, lN_shl, lN_shr, nI_L, lN_I, l_0]
termination_by n - k
decreasing_by all_goals omega
theorem up4_mul {k s i : Nat} (hs : 1 ≤ s) (h : i < up4 k s) : i * s < k := by
  unfold up4 at h
  have h1 := (Nat.le_div_iff_mul_le (by omega)).mp h
  rw [Nat.succ_mul] at h1
  omega
theorem up4_lt {k s : Nat} (hs : 1 ≤ s) : up4 k s ≤ k := by
  unfold up4
  rcases Nat.eq_zero_or_pos k with h | h
  · subst h; rw [Nat.zero_add, Nat.div_eq_of_lt (by omega)]; omega
  · apply Nat.div_le_of_le_mul
    have : k - 1 ≤ s * (k - 1) := Nat.le_mul_of_pos_left _ (by omega)
    have e : s * k = s * (k - 1) + s := by rw [← Nat.mul_succ]; congr 1; omega
    omega
theorem wr_rowA {W : Nat → Int64} {T : Nat → Int32} {Kc : Int32} {m : List (List Nat × Nat)} (h : CW 252 W T Kc (codes m)) (hok : KsOk m) {f s : Nat} (hs0 : 1 ≤ s) (hs : s < 1000) (hf : f < 1000) {E : Nat → Int32} {C : Int32} {O : Bool} {L : List Nat} (hR : RO E C O L) :
    ∃ E' C' O', D_ImageWriter_writeRowAbove 252 3000 (nI f) (nI s) W Kc E C O E' C' O' ∧ RO E' C' O' (L ++ rowA m f s (up4 m.length s) (up4 m.length s)) := by
  have hml : m.length ≤ 252 := by have := h.2.1; rwa [codes_len] at this
  have hKc : Kc = nI m.length := by rw [h.1, codes_len]
  have hup := up4_lt (k := m.length) hs0
  obtain ⟨E', C', O', ⟨q, hq⟩, c2⟩ := t_rowA h hok hs hf (n := up4 m.length s) (by omega) (fun k hk => up4_mul hs0 hk) 0 (by omega) E C O L (by simpa [rowA] using hR)
  exact ⟨E', C', O', ⟨q, _, by rw [hKc]; exact wr_rowN (by omega) hs0 (by omega), by simpa [q_lit] using hq⟩, c2⟩
theorem t_tree0 {W : Nat → Int64} {T : Nat → Int32} {Kc : Int32} {m : List (List Nat × Nat)} (h : CW 252 W T Kc (codes m)) (hok : KsOk m) (k : Nat) (hk : k ≤ m.length) (h4 : k % 4 = 0 ∨ k = m.length) (E : Nat → Int32) (C : Int32) (O : Bool) (L : List Nat) (hR : RO E C O (L ++ lvs m k)) :
    ∃ E2 C2 O2 x3, RO E2 C2 O2 (L ++ lvs m m.length) ∧ m.length ≤ x3 ∧ x3 < 300 ∧ ∀ E' C' O', (∃ q, T_ImageWriter_writeTree 252 3000 W T Kc E' C' O' q 0 (nI m.length) (nI x3) (nI 0) E2 C2 O2) → ∃ q, T_ImageWriter_writeTree 252 3000 W T Kc E' C' O' q 0 (nI m.length) (nI k) (nI 0) E C O := by
  have hml : m.length ≤ 252 := by have := h.2.1; rwa [codes_len] at this
  by_cases h1 : k < m.length
  · have h4' : k % 4 = 0 := by omega
    obtain ⟨E1, C1, O1, a1, a2⟩ := wr_leaf h hok h1 h4' hR
    by_cases h5 : m.length - k < 4
    · rw [if_pos h5, show k + (m.length - k) = m.length by omega] at a2
      refine ⟨E1, C1, O1, k + 4, a2, by omega, by omega, fun E' C' O' h9 => ?_⟩
      obtain ⟨q, hq⟩ := h9
      refine ⟨q + 1, ?_⟩
      simp (disch := omega) only [T_ImageWriter_writeTree, S_ImageWriter_writeTree, B_ImageWriter_writeTree_15, q_lit, le_T, le_F, lt_T, lt_F, eq_T, eq_F, m1_lt, m1_le, lt_m1, le_m1, eq_m1, m1_eq, nI_add, nI_sub, nI_dec, nI_mul, nI_or, nI_and, nI_div, nI_mod, and_255, and_31, and_1, and_63, nI_shl, nI_shr, bI_F, bI_1, vp_T, cl_T, true_implies, false_implies, not_true_eq_false, not_false_eq_true, true_and, and_true, false_and, and_false, Bool.false_eq_true, Bool.true_eq_false, reduceCtorEq, implies_true, q_lc_eq, q_lc_ge, q_lc_gt, q_lc_le, lN_or, lN_and, lN_shl, lN_shr, nI_L, lN_I, l_0]
      exact ⟨E1, C1, O1, a1, hq⟩
    · rw [if_neg h5] at a2
      obtain ⟨E2, C2, O2, x3, b1, b2, b3, b4⟩ := t_tree0 h hok (k + 4) (by omega) (by omega) E1 C1 O1 L a2
      refine ⟨E2, C2, O2, x3, b1, b2, b3, fun E' C' O' h9 => ?_⟩
      obtain ⟨q, hq⟩ := b4 E' C' O' h9
      refine ⟨q + 1, ?_⟩
      simp (disch := omega) only [T_ImageWriter_writeTree, S_ImageWriter_writeTree, B_ImageWriter_writeTree_15, q_lit, le_T, le_F, lt_T, lt_F, eq_T, eq_F, m1_lt, m1_le, lt_m1, le_m1, eq_m1, m1_eq, nI_add, nI_sub, nI_dec, nI_mul, nI_or, nI_and, nI_div, nI_mod, and_255, and_31, and_1, and_63, nI_shl, nI_shr, bI_F, bI_1, vp_T, cl_T, true_implies, false_implies, not_true_eq_false, not_false_eq_true, true_and, and_true, false_and, and_false, Bool.false_eq_true, Bool.true_eq_false, reduceCtorEq, implies_true, q_lc_eq, q_lc_ge, q_lc_gt, q_lc_le, lN_or, lN_and, lN_shl, lN_shr, nI_L, lN_I, l_0]
      exact ⟨E1, C1, O1, a1, hq⟩
  · have hke : k = m.length := by omega
    subst hke
    exact ⟨E, C, O, m.length, hR, Nat.le_refl _, by omega, fun E' C' O' h9 => h9⟩
termination_by m.length - k
decreasing_by all_goals omega
theorem wr_tree {W : Nat → Int64} {T : Nat → Int32} {Kc : Int32} {m : List (List Nat × Nat)} (h : CW 252 W T Kc (codes m)) (hok : KsOk m) {E : Nat → Int32} {C : Int32} {O : Bool} {L : List Nat} (hR : RO E C O L) :
    ∃ E' C' O', D_ImageWriter_writeTree 252 3000 W T Kc E C O E' C' O' ∧ RO E' C' O' (L ++ tree m) := by
  have hml : m.length ≤ 252 := by have := h.2.1; rwa [codes_len] at this
  have hKc : Kc = nI m.length := by rw [h.1, codes_len]
  obtain ⟨E0, C0, O0, z1, z2⟩ := ro_app hR (treeN m.length)
  obtain ⟨E1, C1, O1, x3, a1, a2, a3, a4⟩ := t_tree0 h hok 0 (by omega) (Or.inl rfl) E0 C0 O0 (L ++ [treeN m.length]) (by simpa [lvs] using z2)
  have u1 := up4_lt (k := m.length) (s := 4) (by omega)
  have u2 := up4_lt (k := m.length) (s := 16) (by omega)
  have r1 := wr_rowN (k := m.length) (s := 4) (by omega) (by omega) (by omega)
  have r2 := wr_rowN (k := m.length) (s := 16) (by omega) (by omega) (by omega)
  have r3 := wr_rowN (k := m.length) (s := 64) (by omega) (by omega) (by omega)
  -- from the rows above on
  have rows : ∃ E' C' O', (∃ q, T_ImageWriter_writeTree 252 3000 W T Kc E' C' O' q 1 (nI m.length) (nI 0) (nI 4) E1 C1 O1) ∧ RO E' C' O' (L ++ tree m) := by
    by_cases h1 : 4 < m.length
    · obtain ⟨E2, C2, O2, b1, b2⟩ := wr_rowA h hok (f := 0) (s := 4) (by omega) (by omega) (by omega) a1
      by_cases h2 : 16 < m.length
      · obtain ⟨E3, C3, O3, c1, c2⟩ := wr_rowA h hok (f := up4 m.length 4) (s := 16) (by omega) (by omega) (by omega) b2
        by_cases h3 : 64 < m.length
        · obtain ⟨E4, C4, O4, d1, d2⟩ := wr_rowA h hok (f := up4 m.length 4 + up4 m.length 16) (s := 64) (by omega) (by omega) (by omega) c2
          refine ⟨E4, C4, O4, ⟨4, ?_⟩, ?_⟩
          · simp (disch := omega) only [T_ImageWriter_writeTree, S_ImageWriter_writeTree, B_ImageWriter_writeTree_37, q_lit, le_T, le_F, lt_T, lt_F, eq_T, eq_F, m1_lt, m1_le, lt_m1, le_m1, eq_m1, m1_eq, nI_add, nI_sub, nI_dec, nI_mul, nI_or, nI_and, nI_div, nI_mod, and_255, and_31, and_1, and_63, nI_shl, nI_shr, bI_F, bI_1, vp_T, cl_T, true_implies, false_implies, not_true_eq_false, not_false_eq_true, true_and, and_true, false_and, and_false, Bool.false_eq_true, Bool.true_eq_false, reduceCtorEq, implies_true, q_lc_eq, q_lc_ge, q_lc_gt, q_lc_le, lN_or, lN_and, lN_shl, lN_shr, nI_L, lN_I, l_0]
            refine ⟨E2, C2, O2, b1, _, r1, ?_⟩
            simp (disch := omega) only [q_lit, le_T, le_F, lt_T, lt_F, eq_T, eq_F, m1_lt, m1_le, lt_m1, le_m1, eq_m1, m1_eq, nI_add, nI_sub, nI_dec, nI_mul, nI_or, nI_and, nI_div, nI_mod, and_255, and_31, and_1, and_63, nI_shl, nI_shr, bI_F, bI_1, vp_T, cl_T, true_implies, false_implies, not_true_eq_false, not_false_eq_true, true_and, and_true, false_and, and_false, Bool.false_eq_true, Bool.true_eq_false, reduceCtorEq, implies_true]
            refine ⟨E3, C3, O3, by simpa using c1, _, r2, ?_⟩
            simp (disch := omega) only [q_lit, le_T, le_F, lt_T, lt_F, eq_T, eq_F, m1_lt, m1_le, lt_m1, le_m1, eq_m1, m1_eq, nI_add, nI_sub, nI_dec, nI_mul, nI_or, nI_and, nI_div, nI_mod, and_255, and_31, and_1, and_63, nI_shl, nI_shr, bI_F, bI_1, vp_T, cl_T, true_implies, false_implies, not_true_eq_false, not_false_eq_true, true_and, and_true, false_and, and_false, Bool.false_eq_true, Bool.true_eq_false, reduceCtorEq, implies_true]
            refine ⟨E4, C4, O4, by simpa using d1, _, r3, ?_⟩
            simp (disch := omega) only [q_lit, le_T, le_F, lt_T, lt_F, eq_T, eq_F, m1_lt, m1_le, lt_m1, le_m1, eq_m1, m1_eq, nI_add, nI_sub, nI_dec, nI_mul, nI_or, nI_and, nI_div, nI_mod, and_255, and_31, and_1, and_63, nI_shl, nI_shr, bI_F, bI_1, vp_T, cl_T, true_implies, false_implies, not_true_eq_false, not_false_eq_true, true_and, and_true, false_and, and_false, Bool.false_eq_true, Bool.true_eq_false, reduceCtorEq, implies_true]
          · simp only [tree, h1, h2, h3, if_true]
            simpa using d2
        · refine ⟨E3, C3, O3, ⟨3, ?_⟩, ?_⟩
          · simp (disch := omega) only [T_ImageWriter_writeTree, S_ImageWriter_writeTree, B_ImageWriter_writeTree_37, q_lit, le_T, le_F, lt_T, lt_F, eq_T, eq_F, m1_lt, m1_le, lt_m1, le_m1, eq_m1, m1_eq, nI_add, nI_sub, nI_dec, nI_mul, nI_or, nI_and, nI_div, nI_mod, and_255, and_31, and_1, and_63, nI_shl, nI_shr, bI_F, bI_1, vp_T, cl_T, true_implies, false_implies, not_true_eq_false, not_false_eq_true, true_and, and_true, false_and, and_false, Bool.false_eq_true, Bool.true_eq_false, reduceCtorEq, implies_true, q_lc_eq, q_lc_ge, q_lc_gt, q_lc_le, lN_or, lN_and, lN_shl, lN_shr, nI_L, lN_I, l_0]
            refine ⟨E2, C2, O2, b1, _, r1, ?_⟩
            simp (disch := omega) only [q_lit, le_T, le_F, lt_T, lt_F, eq_T, eq_F, m1_lt, m1_le, lt_m1, le_m1, eq_m1, m1_eq, nI_add, nI_sub, nI_dec, nI_mul, nI_or, nI_and, nI_div, nI_mod, and_255, and_31, and_1, and_63, nI_shl, nI_shr, bI_F, bI_1, vp_T, cl_T, true_implies, false_implies, not_true_eq_false, not_false_eq_true, true_and, and_true, false_and, and_false, Bool.false_eq_true, Bool.true_eq_false, reduceCtorEq, implies_true]
            refine ⟨E3, C3, O3, by simpa using c1, _, r2, ?_⟩
            simp (disch := omega) only [q_lit, le_T, le_F, lt_T, lt_F, eq_T, eq_F, m1_lt, m1_le, lt_m1, le_m1, eq_m1, m1_eq, nI_add, nI_sub, nI_dec, nI_mul, nI_or, nI_and, nI_div, nI_mod, and_255, and_31, and_1, and_63, nI_shl, nI_shr, bI_F, bI_1, vp_T, cl_T, true_implies, false_implies, not_true_eq_false, not_false_eq_true, true_and, and_true, false_and, and_false, Bool.false_eq_true, Bool.true_eq_false, reduceCtorEq, implies_true]
          · simp only [tree, h1, h2, h3, if_true, if_false, List.append_nil]
            simpa using c2
      · refine ⟨E2, C2, O2, ⟨2, ?_⟩, ?_⟩
        · simp (disch := omega) only [T_ImageWriter_writeTree, S_ImageWriter_writeTree, B_ImageWriter_writeTree_37, q_lit, le_T, le_F, lt_T, lt_F, eq_T, eq_F, m1_lt, m1_le, lt_m1, le_m1, eq_m1, m1_eq, nI_add, nI_sub, nI_dec, nI_mul, nI_or, nI_and, nI_div, nI_mod, and_255, and_31, and_1, and_63, nI_shl, nI_shr, bI_F, bI_1, vp_T, cl_T, true_implies, false_implies, not_true_eq_false, not_false_eq_true, true_and, and_true, false_and, and_false, Bool.false_eq_true, Bool.true_eq_false, reduceCtorEq, implies_true, q_lc_eq, q_lc_ge, q_lc_gt, q_lc_le, lN_or, lN_and, lN_shl, lN_shr, nI_L, lN_I, l_0]
          refine ⟨E2, C2, O2, b1, _, r1, ?_⟩
          simp (disch := omega) only [q_lit, le_T, le_F, lt_T, lt_F, eq_T, eq_F, m1_lt, m1_le, lt_m1, le_m1, eq_m1, m1_eq, nI_add, nI_sub, nI_dec, nI_mul, nI_or, nI_and, nI_div, nI_mod, and_255, and_31, and_1, and_63, nI_shl, nI_shr, bI_F, bI_1, vp_T, cl_T, true_implies, false_implies, not_true_eq_false, not_false_eq_true, true_and, and_true, false_and, and_false, Bool.false_eq_true, Bool.true_eq_false, reduceCtorEq, implies_true]
        · simp only [tree, h1, h2, if_true, if_false, List.append_nil]
          simpa using b2
    · refine ⟨E1, C1, O1, ⟨1, ?_⟩, ?_⟩
      · simp (disch := omega) only [T_ImageWriter_writeTree, S_ImageWriter_writeTree, B_ImageWriter_writeTree_37, q_lit, le_T, le_F, lt_T, lt_F, eq_T, eq_F, m1_lt, m1_le, lt_m1, le_m1, eq_m1, m1_eq, nI_add, nI_sub, nI_dec, nI_mul, nI_or, nI_and, nI_div, nI_mod, and_255, and_31, and_1, and_63, nI_shl, nI_shr, bI_F, bI_1, vp_T, cl_T, true_implies, false_implies, not_true_eq_false, not_false_eq_true, true_and, and_true, false_and, and_false, Bool.false_eq_true, Bool.true_eq_false, reduceCtorEq, implies_true, q_lc_eq, q_lc_ge, q_lc_gt, q_lc_le, lN_or, lN_and, lN_shl, lN_shr, nI_L, lN_I, l_0]
      · simp only [tree, h1, if_false, List.append_nil]
        simpa using a1
  obtain ⟨E', C', O', ⟨q, hq⟩, c2⟩ := rows
  obtain ⟨q2, hq2⟩ := a4 E' C' O' ⟨q + 1, by
    simp (disch := omega) only [T_ImageWriter_writeTree, S_ImageWriter_writeTree, B_ImageWriter_writeTree_15, q_lit, le_T, le_F, lt_T, lt_F, eq_T, eq_F, m1_lt, m1_le, lt_m1, le_m1, eq_m1, m1_eq, nI_add, nI_sub, nI_dec, nI_mul, nI_or, nI_and, nI_div, nI_mod, and_255, and_31, and_1, and_63, nI_shl, nI_shr, bI_F, bI_1, vp_T, cl_T, true_implies, false_implies, not_true_eq_false, not_false_eq_true, true_and, and_true, false_and, and_false, Bool.false_eq_true, Bool.true_eq_false, reduceCtorEq, implies_true, q_lc_eq, q_lc_ge, q_lc_gt, q_lc_le, lN_or, lN_and, lN_shl, lN_shr, nI_L, lN_I, l_0]
    exact hq⟩
  exact ⟨E', C', O', ⟨q2, _, by rw [hKc]; exact tr_nodesN (by omega), E0, C0, O0, z1, by rw [hKc] at hq2 ⊢; simpa [q_lit] using hq2⟩, c2⟩
theorem t_topics {b : Nat} (hb : b < 1024) (d : Nat) (hd : d ≤ 10) (p : Nat) (hp : p ≤ 10 - d) (E : Nat → Int32) (C : Int32) (O : Bool) (L : List Nat) (hR : RO E C O L) : ∃ E' C' O', (∃ q, T_ImageWriter_writeTopics 3000 E' C' O' q (nI b) (nI p) (nI (10 - d)) E C O) ∧ RO E' C' O' (L ++ dlt p (tpD b d)) := by
  cases d with
  | zero =>
    refine ⟨E, C, O, ⟨1, ?_⟩, by simpa [tpD, dlt] using hR⟩
    simp (disch := omega) only [T_ImageWriter_writeTopics, S_ImageWriter_writeTopics, B_ImageWriter_writeTopics_12, q_lit, le_T, le_F, lt_T, lt_F, eq_T, eq_F, m1_lt, m1_le, lt_m1, le_m1, eq_m1, m1_eq, nI_add, nI_sub, nI_dec, nI_mul, nI_or, nI_and, nI_div, nI_mod, and_255, and_31, and_1, and_63, nI_shl, nI_shr, bI_F, bI_1, vp_T, cl_T, true_implies, false_implies, not_true_eq_false, not_false_eq_true, true_and, and_true, false_and, and_false, Bool.false_eq_true, Bool.true_eq_false, reduceCtorEq, implies_true, q_lc_eq, q_lc_ge, q_lc_gt, q_lc_le, lN_or, lN_and, lN_shl, lN_shr, nI_L, lN_I, l_0]
  | succ d =>
    have e9 : 10 - (d + 1) = 9 - d := by omega
    have e8 : 9 - d + 1 = 10 - d := by omega
    rw [e9]
    by_cases h1 : b >>> (9 - d) % 2 = 1
    · obtain ⟨E1, C1, O1, a1, a2⟩ := ro_app hR (9 - d - p)
      obtain ⟨E', C', O', ⟨q, hq⟩, c2⟩ := t_topics hb d (by omega) (9 - d) (by omega) E1 C1 O1 _ a2
      refine ⟨E', C', O', ⟨q + 1, ?_⟩, ?_⟩
      · simp (disch := omega) only [T_ImageWriter_writeTopics, S_ImageWriter_writeTopics, B_ImageWriter_writeTopics_12, h1, Nat.mod_eq_of_lt (show 9 - d < 32 by omega), q_lit, le_T, le_F, lt_T, lt_F, eq_T, eq_F, m1_lt, m1_le, lt_m1, le_m1, eq_m1, m1_eq, nI_add, nI_sub, nI_dec, nI_mul, nI_or, nI_and, nI_div, nI_mod, and_255, and_31, and_1, and_63, nI_shl, nI_shr, bI_F, bI_1, vp_T, cl_T, true_implies, false_implies, not_true_eq_false, not_false_eq_true, true_and, and_true, false_and, and_false, Bool.false_eq_true, Bool.true_eq_false, reduceCtorEq, implies_true, q_lc_eq, q_lc_ge, q_lc_gt, q_lc_le, lN_or, lN_and, lN_shl, lN_shr, nI_L, lN_I, l_0]
        rw [e8]
        exact ⟨E1, C1, O1, a1, hq⟩
      · simp only [tpD, h1, if_true, List.singleton_append, dlt]
        simpa using c2
    · obtain ⟨E', C', O', ⟨q, hq⟩, c2⟩ := t_topics hb d (by omega) p (by omega) E C O L hR
      refine ⟨E', C', O', ⟨q + 1, ?_⟩, ?_⟩
      · have h2 : b >>> (9 - d) % 2 = 0 := by omega
        simp (disch := omega) only [T_ImageWriter_writeTopics, S_ImageWriter_writeTopics, B_ImageWriter_writeTopics_12, h2, Nat.mod_eq_of_lt (show 9 - d < 32 by omega), q_lit, le_T, le_F, lt_T, lt_F, eq_T, eq_F, m1_lt, m1_le, lt_m1, le_m1, eq_m1, m1_eq, nI_add, nI_sub, nI_dec, nI_mul, nI_or, nI_and, nI_div, nI_mod, and_255, and_31, and_1, and_63, nI_shl, nI_shr, bI_F, bI_1, vp_T, cl_T, true_implies, false_implies, not_true_eq_false, not_false_eq_true, true_and, and_true, false_and, and_false, Bool.false_eq_true, Bool.true_eq_false, reduceCtorEq, implies_true, q_lc_eq, q_lc_ge, q_lc_gt, q_lc_le, lN_or, lN_and, lN_shl, lN_shr, nI_L, lN_I, l_0]
        rw [e8]
        exact hq
      · simp only [tpD, h1, if_false, List.nil_append]; exact c2
theorem wr_topics {b : Nat} (hb : b < 1024) {E : Nat → Int32} {C : Int32} {O : Bool} {L : List Nat} (hR : RO E C O L) : ∃ E' C' O', D_ImageWriter_writeTopics 3000 (nI b) E C O E' C' O' ∧ RO E' C' O' (L ++ tpB b) := by
  obtain ⟨E1, C1, O1, a1, a2⟩ := ro_app hR (tpD b 10).length
  obtain ⟨E', C', O', ⟨q, hq⟩, c2⟩ := t_topics hb 10 (by omega) 0 (by omega) E1 C1 O1 _ a2
  refine ⟨E', C', O', ⟨q, E1, C1, O1, ?_, by simpa [q_lit] using hq⟩, by simpa [tpB] using c2⟩
  have := bc_all ⟨b, hb⟩
  simp only [bcF] at this
  rw [this]; exact a1
