/-! Pure: compile, both sides. -/
def rs (L : List Nat) : q_Cs := lns L 0 cs0 0
def rf (L : List Nat) : Nat × Nat × List (List Nat) := q_fin L (lns L 0 cs0 0)
def rJ (L J : List Nat) : List Nat := if (rf L).1 = 0 then img (rs L).1 (rf L).2.2 (rs L).2.2.2.1 (gwA (rf L).2.2 0 []) else J
theorem wa_0 (L : List Nat) : WA L cs0 0 := ⟨fun v hv => by simp [cs0] at hv, fun k hk => by simp [cs0] at hk, by simp [cs0], by simp [cs0], by simp [cs0], fun h => by simp [cs0] at h, rfl⟩
theorem src_v {L : List Nat} (h : SrcOk L) (i : Nat) : L.getD i 0 < 2147483648 := by
  by_cases hi : i < L.length
  · have := h i hi; omega
  · rw [getD_ge (by omega)]; omega
theorem rs_vb {L : List Nat} (hL : SrcOk L) (h7 : L.length ≤ 700) (h : (rf L).1 = 0) : VB (rs L).1 (rf L).2.2 (rs L).2.2.2.1 ∧ (img (rs L).1 (rf L).2.2 (rs L).2.2.2.1 (gwA (rf L).2.2 0 [])).length ≤ 3000 := by
  have hw := wa_lns 0 cs0 0 (wa_0 L) (by omega)
  obtain ⟨h1, h2⟩ := src_vb hL h7 h hw.1
  exact ⟨h1, img_len2 h1 h2⟩
theorem rJ_ok {L J : List Nat} (hL : SrcOk L) (h7 : L.length ≤ 700) (hJ : q_By J) (hJ3 : J.length ≤ 3000) : q_By (rJ L J) ∧ (rJ L J).length ≤ 3000 := by
  unfold rJ
  split
  · rename_i h
    have := rs_vb hL h7 h
    exact ⟨by_img this.1, this.2⟩
  · exact ⟨hJ, hJ3⟩
theorem co_trans {L : List Nat} {sE : Nat → Int32} {sC : Int32} (hs : Rw 700 sE sC L) (hL : SrcOk L) {n : Nat} (hn : n ≤ 2550) (H : Nat → Int32) (N : Nat → Int64) (Li P : Nat → Int32) (K F E W X : Int32) (I D M : Bool) (bN : Nat → Int64) (bS bE : Nat → Int32) (bO : Bool) (kW : Nat → Int64) (kT : Nat → Int32) (kC T : Int32) :
    ∃ c' : q_CC, D_Compiler_translate 700 2550 252 H N Li P K F E W X I D M sE sC bN bS bE (nI n) bO kW kT kC T (nI (rf L).1) c'.1 c'.2.1 c'.2.2.1 c'.2.2.2.1 c'.2.2.2.2.1 c'.2.2.2.2.2.1 c'.2.2.2.2.2.2.1 c'.2.2.2.2.2.2.2.1 c'.2.2.2.2.2.2.2.2.1 c'.2.2.2.2.2.2.2.2.2.1 c'.2.2.2.2.2.2.2.2.2.2.1 c'.2.2.2.2.2.2.2.2.2.2.2.1 c'.2.2.2.2.2.2.2.2.2.2.2.2.1 c'.2.2.2.2.2.2.2.2.2.2.2.2.2.1 c'.2.2.2.2.2.2.2.2.2.2.2.2.2.2.1 c'.2.2.2.2.2.2.2.2.2.2.2.2.2.2.2.1 c'.2.2.2.2.2.2.2.2.2.2.2.2.2.2.2.2.1 c'.2.2.2.2.2.2.2.2.2.2.2.2.2.2.2.2.2.1 c'.2.2.2.2.2.2.2.2.2.2.2.2.2.2.2.2.2.2.1 c'.2.2.2.2.2.2.2.2.2.2.2.2.2.2.2.2.2.2.2.1 c'.2.2.2.2.2.2.2.2.2.2.2.2.2.2.2.2.2.2.2.2 ∧ c'.2.2.2.2.2.2.1 = ftI (rf L).1 (rf L).2.1 ∧ (∃ n, n ≤ 2550 ∧ c'.2.2.2.2.2.2.2.2.2.2.2.2.2.2.2.1 = nI n) ∧ (rf L).1 < 100 ∧ ((rf L).1 = 0 → q_DB c'.2.2.2.2.2.2.2.2.2.2.2.2.1 c'.2.2.2.2.2.2.2.2.2.2.2.2.2.1 c'.2.2.2.2.2.2.2.2.2.2.2.2.2.2.1 c'.2.2.2.2.2.2.2.2.2.2.2.2.2.2.2.1 c'.2.2.2.2.2.2.2.2.2.2.2.2.2.2.2.2.2.1 c'.2.2.2.2.2.2.2.2.2.2.2.2.2.2.2.2.2.2.1 c'.2.2.2.2.2.2.2.2.2.2.2.2.2.2.2.2.2.2.2.1 c'.2.2.2.2.2.2.2.2.2.2.2.2.2.2.2.2.2.2.2.2 (rs L).1 (rf L).2.2 (rs L).2.2.2.1) := by
  have hcut : D_Row_shorten 0 (nI n) bO (nI 0) false := by simp (disch := omega) only [D_Row_shorten, q_lit, le_T, le_F, lt_T, lt_F, eq_T, eq_F, m1_lt, m1_le, lt_m1, le_m1, eq_m1, m1_eq, nI_add, nI_sub, nI_dec, nI_mul, nI_or, nI_and, nI_div, nI_mod, and_255, and_31, and_1, and_63, nI_shl, nI_shr, bI_F, bI_1, vp_T, cl_T, true_implies, false_implies, not_true_eq_false, not_false_eq_true, true_and, and_true, false_and, and_false, Bool.false_eq_true, Bool.true_eq_false, reduceCtorEq, implies_true]
  let c : q_CC := ⟨H, N, Li, P, nI 0, nI 0, -nI 1, nI 0, nI 0, false, false, false, bN, bS, bE, nI 0, false, kW, kT, nI 0, nI 0⟩
  have hc : q_CI L c cs0 := by
    refine ⟨rfl, by simp [cs0], rfl, rfl, rfl, rfl, rfl, ⟨rfl, by simp [cs0], rw_nil (by decide) _, fun t _ h => by simp [cs0] at h, by simp [cs0]⟩, ⟨rfl, rfl, fun t ht => by simp [cs0] at ht, ⟨rfl, by simp [cs0, codes], by omega, fun i hi => by simp [cs0, codes] at hi⟩, srt_nil, fun h => by simp [cs0] at h⟩, ⟨rfl, by simp [cs0], fun i hi => by simp [cs0] at hi⟩⟩
  obtain ⟨c', ⟨m, hm⟩, h1, h2, h3, h4, h5⟩ := t_trans hs (src_v hL) 0 cs0 0 c hc rfl (wa_0 L) (by omega) (by omega)
  refine ⟨c', ⟨m, nI 0, nI 0, -nI 1, nI 0, nI 0, false, false, false, nI 0, false, nI 0, nI 0, ⟨nI 0, false, nI 0, nI 0, ⟨nI 0, false, hcut, rfl, rfl, rfl, rfl⟩, rfl, rfl, rfl, rfl, rfl, rfl, rfl, rfl, rfl, rfl, rfl, rfl⟩, hm⟩, h2, h3, h4, h5⟩
theorem hf_compile {L : List Nat} {sE : Nat → Int32} {sC : Int32} (hs : Rw 700 sE sC L) (hL : SrcOk L) {J : List Nat} {iE : Nat → Int32} {iC : Int32} (hJ : Rw 3000 iE iC J) {n : Nat} (hn : n ≤ 2550) (hF : Int32) (H : Nat → Int32) (N : Nat → Int64) (Li P : Nat → Int32) (K F E W X : Int32) (I D M : Bool) (bN : Nat → Int64) (bS bE : Nat → Int32) (bO : Bool) (kW : Nat → Int64) (kT : Nat → Int32) (kC : Int32) (vW : Nat → Int64) (vT : Nat → Int32) (vC T : Int32) :
    ∃ (c' : q_CC) (vW' : Nat → Int64) (vT' : Nat → Int32) (vC' : Int32) (iE' : Nat → Int32) (iC' : Int32), D_HelpFile_compile 700 3000 2550 252 1275 hF sE sC iE iC false H N Li P K F E W X I D M bN bS bE (nI n) bO kW kT kC vW vT vC T (nI (rf L).1) (ftI (rf L).1 (rf L).2.1) iE' iC' false c'.1 c'.2.1 c'.2.2.1 c'.2.2.2.1 c'.2.2.2.2.1 c'.2.2.2.2.2.1 c'.2.2.2.2.2.2.1 c'.2.2.2.2.2.2.2.1 c'.2.2.2.2.2.2.2.2.1 c'.2.2.2.2.2.2.2.2.2.1 c'.2.2.2.2.2.2.2.2.2.2.1 c'.2.2.2.2.2.2.2.2.2.2.2.1 c'.2.2.2.2.2.2.2.2.2.2.2.2.1 c'.2.2.2.2.2.2.2.2.2.2.2.2.2.1 c'.2.2.2.2.2.2.2.2.2.2.2.2.2.2.1 c'.2.2.2.2.2.2.2.2.2.2.2.2.2.2.2.1 c'.2.2.2.2.2.2.2.2.2.2.2.2.2.2.2.2.1 c'.2.2.2.2.2.2.2.2.2.2.2.2.2.2.2.2.2.1 c'.2.2.2.2.2.2.2.2.2.2.2.2.2.2.2.2.2.2.1 c'.2.2.2.2.2.2.2.2.2.2.2.2.2.2.2.2.2.2.2.1 vW' vT' vC' c'.2.2.2.2.2.2.2.2.2.2.2.2.2.2.2.2.2.2.2.2 ∧ (∃ n, n ≤ 2550 ∧ c'.2.2.2.2.2.2.2.2.2.2.2.2.2.2.2.1 = nI n) ∧ Rw 3000 iE' iC' (rJ L J) := by
  obtain ⟨c', a1, a2, a3, a4, a5⟩ := co_trans hs hL hn H N Li P K F E W X I D M bN bS bE bO kW kT kC T
  unfold rJ
  by_cases h0 : (rf L).1 = 0
  · rw [if_pos h0]
    obtain ⟨b1, b2⟩ := rs_vb hL hs.2.1 h0
    obtain ⟨d1, d2, d3, d4, d5⟩ := a5 h0
    obtain ⟨W', T', C', e1, e2, e3⟩ := cb_gather d1 (fun t ht => (b1.body ht).2.1) vW vT vC
    obtain ⟨E', C2, O', f1, f2⟩ := wr_write d1 (b1.wrok d3) d4 e2 (img_sum b1) (E := iE) (C := iC) (O := false) hJ.1 hJ.2.1
    rcases f2 with ⟨rfl, f2⟩ | ⟨_, f3, _⟩
    · refine ⟨c', W', T', C', E', C2, ⟨_, c'.1, c'.2.1, c'.2.2.1, c'.2.2.2.1, c'.2.2.2.2.1, c'.2.2.2.2.2.1, c'.2.2.2.2.2.2.1, c'.2.2.2.2.2.2.2.1, c'.2.2.2.2.2.2.2.2.1, c'.2.2.2.2.2.2.2.2.2.1, c'.2.2.2.2.2.2.2.2.2.2.1, c'.2.2.2.2.2.2.2.2.2.2.2.1, c'.2.2.2.2.2.2.2.2.2.2.2.2.1, c'.2.2.2.2.2.2.2.2.2.2.2.2.2.1, c'.2.2.2.2.2.2.2.2.2.2.2.2.2.2.1, c'.2.2.2.2.2.2.2.2.2.2.2.2.2.2.2.1, c'.2.2.2.2.2.2.2.2.2.2.2.2.2.2.2.2.1, c'.2.2.2.2.2.2.2.2.2.2.2.2.2.2.2.2.2.1, c'.2.2.2.2.2.2.2.2.2.2.2.2.2.2.2.2.2.2.1, c'.2.2.2.2.2.2.2.2.2.2.2.2.2.2.2.2.2.2.2.1, c'.2.2.2.2.2.2.2.2.2.2.2.2.2.2.2.2.2.2.2.2, a1, fun _ => ⟨W', T', C', e1, E', C2, false, f1, rfl, a2.symm, rfl, rfl, rfl, rfl, rfl, rfl, rfl, rfl, rfl, rfl, rfl, rfl, rfl, rfl, rfl, rfl, rfl, rfl, rfl, rfl, rfl, rfl, rfl, rfl, rfl, rfl, rfl⟩, fun h9 => ?_⟩, a3, f2⟩
      exact absurd (by rw [h0]; rfl) h9
    · omega
  · rw [if_neg h0]
    refine ⟨c', vW, vT, vC, iE, iC, ⟨_, c'.1, c'.2.1, c'.2.2.1, c'.2.2.2.1, c'.2.2.2.2.1, c'.2.2.2.2.2.1, c'.2.2.2.2.2.2.1, c'.2.2.2.2.2.2.2.1, c'.2.2.2.2.2.2.2.2.1, c'.2.2.2.2.2.2.2.2.2.1, c'.2.2.2.2.2.2.2.2.2.2.1, c'.2.2.2.2.2.2.2.2.2.2.2.1, c'.2.2.2.2.2.2.2.2.2.2.2.2.1, c'.2.2.2.2.2.2.2.2.2.2.2.2.2.1, c'.2.2.2.2.2.2.2.2.2.2.2.2.2.2.1, c'.2.2.2.2.2.2.2.2.2.2.2.2.2.2.2.1, c'.2.2.2.2.2.2.2.2.2.2.2.2.2.2.2.2.1, c'.2.2.2.2.2.2.2.2.2.2.2.2.2.2.2.2.2.1, c'.2.2.2.2.2.2.2.2.2.2.2.2.2.2.2.2.2.2.1, c'.2.2.2.2.2.2.2.2.2.2.2.2.2.2.2.2.2.2.2.1, c'.2.2.2.2.2.2.2.2.2.2.2.2.2.2.2.2.2.2.2.2, a1, fun h9 => ?_, fun _ => ⟨rfl, a2.symm, rfl, rfl, rfl, rfl, rfl, rfl, rfl, rfl, rfl, rfl, rfl, rfl, rfl, rfl, rfl, rfl, rfl, rfl, rfl, rfl, rfl, rfl, rfl, rfl, rfl, rfl, rfl⟩⟩, a3, hJ⟩
    exact absurd h9 (nI_ne0 (by omega) (by omega))
theorem mo_read {L : List Nat} {sE : Nat → Int32} {sC : Int32} (hs : Rw 700 sE sC L) (hL : SrcOk L) (FL F T : Int32) (Nm Bo Le Hg : Nat → Int32) (K : Int32) (KL KG KB : Nat → Int32) (n : Int32) (lA lL lI lT : Nat → Int32) (I M B : Bool) (X hL0 : Int32) (hN : Nat → Int32) :
    ∃ m' : q_MM, D_Model_readSource sE sC FL F T Nm Bo Le Hg K KL KG KB n lA lL lI lT I M B X hL0 hN m'.1 m'.2.1 m'.2.2.1 m'.2.2.2.1 m'.2.2.2.2.1 m'.2.2.2.2.2.1 m'.2.2.2.2.2.2.1 m'.2.2.2.2.2.2.2.1 m'.2.2.2.2.2.2.2.2.1 m'.2.2.2.2.2.2.2.2.2.1 m'.2.2.2.2.2.2.2.2.2.2.1 m'.2.2.2.2.2.2.2.2.2.2.2.1 m'.2.2.2.2.2.2.2.2.2.2.2.2.1 m'.2.2.2.2.2.2.2.2.2.2.2.2.2.1 m'.2.2.2.2.2.2.2.2.2.2.2.2.2.2.1 m'.2.2.2.2.2.2.2.2.2.2.2.2.2.2.2.1 m'.2.2.2.2.2.2.2.2.2.2.2.2.2.2.2.2.1 m'.2.2.2.2.2.2.2.2.2.2.2.2.2.2.2.2.2.1 m'.2.2.2.2.2.2.2.2.2.2.2.2.2.2.2.2.2.2.1 m'.2.2.2.2.2.2.2.2.2.2.2.2.2.2.2.2.2.2.2.1 m'.2.2.2.2.2.2.2.2.2.2.2.2.2.2.2.2.2.2.2.2.1 m'.2.2.2.2.2.2.2.2.2.2.2.2.2.2.2.2.2.2.2.2.2 ∧ m'.2.1 = nI (rf L).1 ∧ m'.1 = ftI (rf L).1 (rf L).2.1 ∧ ((rf L).1 = 0 → RB m' (rs L).1 (rf L).2.2 (rs L).2.2.2.1) := by
  let m : q_MM := ⟨-nI 1, nI 0, nI 0, Nm, Bo, Le, Hg, nI 0, KL, KG, KB, nI 0, lA, lL, lI, lT, false, false, false, X, hL0, hN⟩
  have hm : MR L m cs0 := by
    refine Or.inl ⟨rfl, rfl, rfl, rfl, rfl, rfl, rfl, ⟨by simp [cs0], fun t ht => by simp [cs0] at ht⟩, fun t ht => by simp [cs0] at ht, fun t ht => by simp [cs0] at ht, ⟨rfl, by simp [cs0], fun i hi => by simp [cs0] at hi⟩, ⟨rfl, by simp [cs0], fun i hi => by simp [cs0] at hi⟩, rfl, rfl, fun h => by simp [cs0] at h, fun _ => rfl⟩
  obtain ⟨m', h1, h2, h3, h4⟩ := m_src hs (src_v hL) 0 cs0 0 m hm (fun _ h => by simp [cs0] at h) (wa_0 L) (by omega)
  exact ⟨m', h1, h2, h3, h4⟩
theorem rb_mb {m : q_MM} {ns bs : List (List Nat)} {ks : List (List Nat × Nat)} (h : RB m ns bs ks) (hv : VB ns bs ks) : MB m.2.2.2.2.1 m.2.2.2.2.2.1 bs := by
  refine ⟨hv.2.2.1, fun t ht => ?_⟩
  obtain ⟨h1, h2⟩ := h.2.2.1.2 t ht
  have h3 := (hv.2.2.2.2.2.1 t ht).2
  refine ⟨h1, h3, fun i hi => ⟨h2 i hi (by omega), ?_⟩⟩
  have := (hv.body ht).1 _ (getD_mem hi 0)
  omega
theorem VB.nv {ns bs : List (List Nat)} {ks : List (List Nat × Nat)} (h : VB ns bs ks) : ∀ t, t < ns.length → ∀ k, (bd ns t).getD k 0 < 2147483648 := fun t ht k => by
  have := (by_wd (h.2.2.2.1 _ (bd_mem ht)).1).getD k
  omega
theorem mo_compile {L : List Nat} {sE : Nat → Int32} {sC : Int32} (hs : Rw 700 sE sC L) (hL : SrcOk L) {J : List Nat} {iE : Nat → Int32} {iC : Int32} (hJ : Rw 8000 iE iC J) (th FL F T : Int32) (Nm Bo Le Hg : Nat → Int32) (K : Int32) (KL KG KB : Nat → Int32) (WC : Int32) (WL WG WB : Nat → Int32) (n : Int32) (lA lL lI lT : Nat → Int32) (I M B : Bool) (X : Int32) (cm un : Bool) (Ot To li hL0 : Int32) (hN : Nat → Int32) :
    ∃ (m' : q_MM) (WC' : Int32) (WL' WG' WB' : Nat → Int32) (iE' : Nat → Int32) (iC' : Int32) (cm' un' : Bool) (Ot' To' li' hL' : Int32) (hN' : Nat → Int32), D_Model_compile th sE sC FL F T Nm Bo Le Hg K KL KG KB WC WL WG WB n lA lL lI lT I M B X iC iE cm un Ot To li hL0 hN (nI (rf L).1) (nI 0) (ftI (rf L).1 (rf L).2.1) (nI (rf L).1) m'.2.2.1 m'.2.2.2.1 m'.2.2.2.2.1 m'.2.2.2.2.2.1 m'.2.2.2.2.2.2.1 m'.2.2.2.2.2.2.2.1 m'.2.2.2.2.2.2.2.2.1 m'.2.2.2.2.2.2.2.2.2.1 m'.2.2.2.2.2.2.2.2.2.2.1 WC' WL' WG' WB' m'.2.2.2.2.2.2.2.2.2.2.2.1 m'.2.2.2.2.2.2.2.2.2.2.2.2.1 m'.2.2.2.2.2.2.2.2.2.2.2.2.2.1 m'.2.2.2.2.2.2.2.2.2.2.2.2.2.2.1 m'.2.2.2.2.2.2.2.2.2.2.2.2.2.2.2.1 m'.2.2.2.2.2.2.2.2.2.2.2.2.2.2.2.2.1 m'.2.2.2.2.2.2.2.2.2.2.2.2.2.2.2.2.2.1 m'.2.2.2.2.2.2.2.2.2.2.2.2.2.2.2.2.2.2.1 m'.2.2.2.2.2.2.2.2.2.2.2.2.2.2.2.2.2.2.2.1 iC' iE' cm' un' Ot' To' li' hL' hN' ∧ Rw 8000 iE' iC' (rJ L J) := by
  obtain ⟨m', a1, a2, a3, a4⟩ := mo_read hs hL FL F T Nm Bo Le Hg K KL KG KB n lA lL lI lT I M B X hL0 hN
  rw [a2, a3] at a1
  have h100 : (rf L).1 < 100 := by
    obtain ⟨_, _, _, _, h, _⟩ := co_trans hs hL (n := 0) (by omega) Bo (fun _ => 0) Bo Bo 0 0 0 0 0 false false false (fun _ => 0) Bo Bo false (fun _ => 0) Bo 0 0
    exact h
  unfold rJ
  by_cases h0 : (rf L).1 = 0
  · rw [if_pos h0]
    obtain ⟨b1, b2⟩ := rs_vb hL hs.2.1 h0
    have hr := a4 h0
    have hB := rb_mb hr b1
    obtain ⟨d1, d2, d3, d4, d5⟩ := hr
    obtain ⟨C1, L1, G1, B1, I1, U1, O1, T1, l1, HL1, HN1, e1, e2, e3, e4⟩ := mo_write (cmp := false) (iS := iC) (J := []) (B := 3000) (Im := iE) hB d4 b1.1 b1.nv d5 (fun i hi => (b1.ksok i hi).2.2) (fun t ht => (b1.body ht).2.1) (fun i hi => ((gwA_kw _).at hi).2.2.2.2) (img_sum b1) b2 (fun t ht => b1.pk ht) (by omega) (fun _ => by omega) (fun h => by cases h) WC WL WG WB cm un Ot To li m'.2.2.2.2.2.2.2.2.2.2.2.2.2.2.2.2.2.2.2.2.1 m'.2.2.2.2.2.2.2.2.2.2.2.2.2.2.2.2.2.2.2.2.2
    rw [← d1] at e1
    refine ⟨m', C1, L1, G1, B1, I1, O1, false, U1, O1, T1, l1, HL1, HN1, ⟨_, _, _, _, _, _, _, _, _, _, _, _, _, _, _, _, _, _, _, _, _, _, a1, fun _ => ⟨_, _, _, _, _, _, _, _, _, _, _, _, e1, ?_, rfl, rfl, rfl, rfl, rfl, rfl, rfl, rfl, rfl, rfl, rfl, rfl, rfl, rfl, rfl, rfl, rfl, rfl, rfl, rfl, rfl, rfl, rfl, rfl, rfl, rfl, rfl, rfl, rfl, rfl, rfl, rfl, rfl, rfl⟩, fun h9 => ?_⟩, (e4.2.2.2.2.1 rfl).2⟩
    · rw [h0]; rfl
    · exfalso; rw [h0] at h9; exact h9 (by simp (disch := omega) only [q_lit, le_T, le_F, lt_T, lt_F, eq_T, eq_F, m1_lt, m1_le, lt_m1, le_m1, eq_m1, m1_eq, nI_add, nI_sub, nI_dec, nI_mul, nI_or, nI_and, nI_div, nI_mod, and_255, and_31, and_1, and_63, nI_shl, nI_shr, bI_F, bI_1, vp_T, cl_T, true_implies, false_implies, not_true_eq_false, not_false_eq_true, true_and, and_true, false_and, and_false, Bool.false_eq_true, Bool.true_eq_false, reduceCtorEq, implies_true])
  · rw [if_neg h0]
    refine ⟨m', WC, WL, WG, WB, iE, iC, cm, un, Ot, To, li, m'.2.2.2.2.2.2.2.2.2.2.2.2.2.2.2.2.2.2.2.2.1, m'.2.2.2.2.2.2.2.2.2.2.2.2.2.2.2.2.2.2.2.2.2, ⟨_, _, _, _, _, _, _, _, _, _, _, _, _, _, _, _, _, _, _, _, _, _, a1, fun h9 => ?_, fun _ => ⟨rfl, rfl, rfl, rfl, rfl, rfl, rfl, rfl, rfl, rfl, rfl, rfl, rfl, rfl, rfl, rfl, rfl, rfl, rfl, rfl, rfl, rfl, rfl, rfl, rfl, rfl, rfl, rfl, rfl, rfl, rfl, rfl, rfl, rfl, rfl⟩⟩, hJ⟩
    exfalso
    revert h9
    simp (disch := omega) only [q_lit, le_T, le_F, lt_T, lt_F, eq_T, eq_F, m1_lt, m1_le, lt_m1, le_m1, eq_m1, m1_eq, nI_add, nI_sub, nI_dec, nI_mul, nI_or, nI_and, nI_div, nI_mod, and_255, and_31, and_1, and_63, nI_shl, nI_shr, bI_F, bI_1, vp_T, cl_T, true_implies, false_implies, not_true_eq_false, not_false_eq_true, true_and, and_true, false_and, and_false, Bool.false_eq_true, Bool.true_eq_false, reduceCtorEq, implies_true]
