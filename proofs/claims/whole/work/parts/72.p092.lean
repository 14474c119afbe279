/-! Pure: the class translates a source. -/
def lnE (L : List Nat) (k : Nat) : Nat := if k < L.length ∧ ¬ L.getD k 0 = 10 then lnE L (k + 1) else k
termination_by L.length - k
decreasing_by all_goals omega
theorem lnE_ge (L : List Nat) (k : Nat) : k ≤ lnE L k := by
  rw [lnE]; split
  · have := lnE_ge L (k + 1); omega
  · omega
termination_by L.length - k
decreasing_by all_goals omega
theorem lnE_le (L : List Nat) {k : Nat} (h : k ≤ L.length) : lnE L k ≤ L.length := by
  rw [lnE]; split
  · exact lnE_le L (by omega)
  · exact h
termination_by L.length - k
decreasing_by all_goals omega
theorem t_lnE {L : List Nat} {sE : Nat → Int32} {sC : Int32} (hs : Rw 700 sE sC L) (hv : ∀ i, L.getD i 0 < 2147483648) (k : Nat) (hk : k ≤ L.length) : ∃ m, T_Compiler_lineEnd 700 sE sC (nI (lnE L k)) m (nI k) := by
  have hL7 := hs.2.1
  have hC := hs.1
  rw [lnE]
  by_cases h : k < L.length
  · have hel := row_el hs (k := k) (by omega)
    have hvk := hv k
    by_cases h2 : L.getD k 0 = 10
    · rw [if_neg (fun h9 => h9.2 h2)]
      refine ⟨1, ?_⟩
      rw [hC] at hel ⊢
      simp (disch := omega) only [T_Compiler_lineEnd, S_Compiler_lineEnd, B_Compiler_lineEnd_2, q_lit, le_T, le_F, lt_T, lt_F, eq_T, eq_F, m1_lt, m1_le, lt_m1, le_m1, eq_m1, m1_eq, nI_add, nI_sub, nI_dec, nI_mul, nI_or, nI_and, nI_div, nI_mod, and_255, and_31, and_1, and_63, nI_shl, nI_shr, bI_F, bI_1, vp_T, cl_T, true_implies, false_implies, not_true_eq_false, not_false_eq_true, true_and, and_true, false_and, and_false, Bool.false_eq_true, Bool.true_eq_false, reduceCtorEq, implies_true, q_lc_eq, q_lc_ge, q_lc_gt, q_lc_le, lN_or, lN_and, lN_shl, lN_shr, nI_L, lN_I, l_0]
      refine ⟨_, hel, ?_⟩
      simp (disch := omega) only [h2, q_lit, le_T, le_F, lt_T, lt_F, eq_T, eq_F, m1_lt, m1_le, lt_m1, le_m1, eq_m1, m1_eq, nI_add, nI_sub, nI_dec, nI_mul, nI_or, nI_and, nI_div, nI_mod, and_255, and_31, and_1, and_63, nI_shl, nI_shr, bI_F, bI_1, vp_T, cl_T, true_implies, false_implies, not_true_eq_false, not_false_eq_true, true_and, and_true, false_and, and_false, Bool.false_eq_true, Bool.true_eq_false, reduceCtorEq, implies_true]
    · rw [if_pos ⟨h, h2⟩]
      obtain ⟨m, hm⟩ := t_lnE hs hv (k + 1) h
      refine ⟨m + 1, ?_⟩
      rw [hC] at hel hm ⊢
      simp (disch := omega) only [T_Compiler_lineEnd, S_Compiler_lineEnd, B_Compiler_lineEnd_2, q_lit, le_T, le_F, lt_T, lt_F, eq_T, eq_F, m1_lt, m1_le, lt_m1, le_m1, eq_m1, m1_eq, nI_add, nI_sub, nI_dec, nI_mul, nI_or, nI_and, nI_div, nI_mod, and_255, and_31, and_1, and_63, nI_shl, nI_shr, bI_F, bI_1, vp_T, cl_T, true_implies, false_implies, not_true_eq_false, not_false_eq_true, true_and, and_true, false_and, and_false, Bool.false_eq_true, Bool.true_eq_false, reduceCtorEq, implies_true, q_lc_eq, q_lc_ge, q_lc_gt, q_lc_le, lN_or, lN_and, lN_shl, lN_shr, nI_L, lN_I, l_0]
      refine ⟨_, hel, ?_⟩
      simp (disch := omega) only [q_lit, le_T, le_F, lt_T, lt_F, eq_T, eq_F, m1_lt, m1_le, lt_m1, le_m1, eq_m1, m1_eq, nI_add, nI_sub, nI_dec, nI_mul, nI_or, nI_and, nI_div, nI_mod, and_255, and_31, and_1, and_63, nI_shl, nI_shr, bI_F, bI_1, vp_T, cl_T, true_implies, false_implies, not_true_eq_false, not_false_eq_true, true_and, and_true, false_and, and_false, Bool.false_eq_true, Bool.true_eq_false, reduceCtorEq, implies_true]
      exact hm
  · rw [if_neg (fun h9 => h h9.1)]
    refine ⟨1, ?_⟩
    rw [hC]
    simp (disch := omega) only [T_Compiler_lineEnd, S_Compiler_lineEnd, B_Compiler_lineEnd_2, q_lit, le_T, le_F, lt_T, lt_F, eq_T, eq_F, m1_lt, m1_le, lt_m1, le_m1, eq_m1, m1_eq, nI_add, nI_sub, nI_dec, nI_mul, nI_or, nI_and, nI_div, nI_mod, and_255, and_31, and_1, and_63, nI_shl, nI_shr, bI_F, bI_1, vp_T, cl_T, true_implies, false_implies, not_true_eq_false, not_false_eq_true, true_and, and_true, false_and, and_false, Bool.false_eq_true, Bool.true_eq_false, reduceCtorEq, implies_true, q_lc_eq, q_lc_ge, q_lc_gt, q_lc_le, lN_or, lN_and, lN_shl, lN_shr, nI_L, lN_I, l_0]
termination_by L.length - k
decreasing_by all_goals omega
/-- what holds of a source half read -/
def WA (L : List Nat) (a : q_Cs) (s : Nat) : Prop := NmOk a.1 ∧ LkOk L a.2.2.2.2.1 ∧ a.2.1.flatten.length ≤ 2 * s + 2 ∧ 3 * a.2.2.2.2.1.length ≤ s ∧ 3 * a.2.2.2.1.length ≤ s ∧ (a.2.2.2.2.2.2.2.1 = true → a.2.1 ≠ []) ∧ a.1.length = a.2.1.length
theorem wa_blm {L : List Nat} {a : q_Cs} {s s' : Nat} (h : WA L a s) (hs : s ≤ s') (k l : Nat) : WA L (blm k l a) s' := ⟨h.1, h.2.1, by have := h.2.2.1; simp only [blm]; omega, by have := h.2.2.2.1; simp only [blm]; omega, by have := h.2.2.2.2.1; simp only [blm]; omega, h.2.2.2.2.2.1, h.2.2.2.2.2.2⟩
theorem wa_clP {L : List Nat} {a : q_Cs} {s s' : Nat} (h : WA L a s) (hs : s < s') : WA L (clP a) s' := by
  obtain ⟨h1, h2, h3, h4, h5, h6, h7⟩ := h
  have a1 := clP_ns a
  have a2 := clP_len h6
  refine ⟨by rw [a1.1]; exact h1, by rw [a1.2.2.1]; exact h2, by omega, by rw [a1.2.2.1]; omega, by rw [a1.2.1]; omega, (fun h9 => by rw [a1.2.2.2.1] at h9; cases h9), ?_⟩
  rw [a1.1, h7]
  unfold clP
  split
  · rename_i h8
    simp only
    rw [addB_len (h6 h8)]
  · rfl
theorem insW_len (w : List Nat) (b : Nat) (m : List (List Nat × Nat)) : (insW w b m).length ≤ m.length + 1 := by
  have := (ins_len (enc w) b (codes m)).1
  rw [← codes_ins, codes_len, codes_len] at this
  exact this
theorem wa_lin {L : List Nat} {a : q_Cs} {s f ln : Nat} (h : WA L a s) (hsf : s ≤ f) (hf : f ≤ L.length) : WA L (lin L s f ln a) (f + 1) := by
  have hc : WA L (clP a) (f + 1) := wa_clP h (by omega)
  have hcl := clP_ns a
  unfold lin
  split
  · exact hc
  · rename_i hbk
    have hlt := blk_lt (Bool.eq_false_iff.mpr hbk)
    split
    · unfold hdg
      split
      · exact wa_blm hc (Nat.le_refl _) _ _
      · rename_i h3
        split
        · exact wa_blm hc (Nat.le_refl _) _ _
        · split
          · exact wa_blm hc (Nat.le_refl _) _ _
          · obtain ⟨z1, z2, z3, z4, z5, z6, z7⟩ := hc
            have hsm : smAll L (s + 1) f = true ∧ s + 1 < f ∧ f - (s + 1) ≤ 6 := by
              have h4 : isWdS L (s + 1) f 6 = true := by cases hh : isWdS L (s + 1) f 6 <;> simp_all
              simp only [isWdS, Bool.and_eq_true, decide_eq_true_eq] at h4; exact ⟨h4.1.1, h4.1.2, h4.2⟩
            have hrun := smAll_run hsm.1 hf (by omega)
            refine ⟨?_, z2, by simpa using z3, z4, z5, fun _ => by simp, by simp [z7]⟩
            intro v hv
            simp only [List.mem_append, List.mem_singleton] at hv
            rcases hv with hv | hv
            · exact z1 v hv
            · rw [hv]; unfold wrdS; exact ⟨hrun.2.1, by rw [hrun.2.2]; omega, by rw [hrun.2.2]; omega⟩
    · split
      · unfold kwd
        split
        · exact wa_blm hc (Nat.le_refl _) _ _
        · split
          · exact wa_blm hc (Nat.le_refl _) _ _
          · rename_i h3
            obtain ⟨z1, z2, z3, z4, z5, z6, z7⟩ := hc
            have hsm : s + 1 < f := by
              have h4 : isWdS L (s + 1) f 8 = true := by cases hh : isWdS L (s + 1) f 8 <;> simp_all
              simp only [isWdS, Bool.and_eq_true, decide_eq_true_eq] at h4; exact h4.1.2
            have := insW_len (wrdS L (s + 1) f) (1 <<< ((clP a).2.1.length - 1)) (clP a).2.2.2.1
            have h5 := h.2.2.2.2.1
            rw [hcl.2.1] at this
            exact ⟨z1, z2, z3, z4, by simp only [hcl.2.1]; omega, z6, z7⟩
      · split
        · exact wa_blm h (by omega) _ _
        · rename_i h0
          have key := txt_ind (L := L) (f := f) (ln := ln) (fun a k => NmOk a.1 ∧ LkOk L a.2.2.2.2.1 ∧ a.2.1.flatten.length ≤ 2 * k + 2 ∧ 3 * a.2.2.2.2.1.length ≤ k ∧ 3 * a.2.2.2.1.length ≤ s ∧ a.2.1 ≠ [] ∧ a.1.length = a.2.1.length) (fun a k hk _ _ h => ⟨h.1, h.2.1, by simp only; omega, by simp only; omega, h.2.2.2.2⟩) (fun a k hk _ _ hok h => by
            obtain ⟨z1, z2, z3, z4, z5, z6, z7⟩ := h
            have hne := dueB_ne z6
            have hl1 := dueB_len z6
            have hge := letEnd_ge L (k + 1) f
            simp only [lkOkS, isWdS, Bool.and_eq_true, decide_eq_true_eq] at hok
            have hrun := smAll_run hok.2.1.1 (by omega) hge
            refine ⟨z1, ?_, ?_, by simp only [lnkA, dueB, List.length_append, List.length_cons, List.length_nil]; omega, z5, addB_ne _ _, ?_⟩
            · intro x hx
              simp only [lnkA, dueB, List.mem_append, List.mem_singleton] at hx
              rcases hx with hx | hx
              · exact z2 x hx
              · rw [hx]; unfold nmL; exact ⟨hrun.2.1, by simp only [hrun.2.2]; omega⟩
            · simp only [lnkA]
              rw [addB_flat (addB_ne _ _), addB_flat hne]
              simp only [List.length_append, List.length_cons, List.length_nil]
              omega
            · simp only [lnkA]
              rw [addB_len (addB_ne _ _), addB_len hne]
              simp only [dueB]; split
              · rw [addB_len z6]; exact z7
              · exact z7) (fun a k hk _ _ _ h => by
            obtain ⟨z1, z2, z3, z4, z5, z6, z7⟩ := h
            have hne := dueB_ne z6
            have hl1 := dueB_len z6
            refine ⟨z1, z2, by simp only [blm]; omega, by simp only [blm, dueB]; omega, z5, hne, ?_⟩
            simp only [blm, dueB]; split
            · rw [addB_len z6]; exact z7
            · exact z7) (fun a k hk _ _ _ h => by
            obtain ⟨z1, z2, z3, z4, z5, z6, z7⟩ := h
            have hne := dueB_ne z6
            have hl1 := dueB_len z6
            have hl2 := sgn_len hne (L.getD k 0) ln
            have hd : (dueB a).1.length = (dueB a).2.1.length := by
              simp only [dueB]; split
              · rw [addB_len z6]; exact z7
              · exact z7
            have hn : (q_sgn (L.getD k 0) ln (dueB a)).1 = a.1 ∧ (q_sgn (L.getD k 0) ln (dueB a)).2.2.2.1 = a.2.2.2.1 ∧ (q_sgn (L.getD k 0) ln (dueB a)).2.1.length = (dueB a).2.1.length := by
              unfold q_sgn; split
              · exact ⟨rfl, rfl, rfl⟩
              · split
                · exact ⟨rfl, rfl, addB_len hne _⟩
                · exact ⟨rfl, rfl, addB_len hne _⟩
            exact ⟨by rw [hn.1]; exact z1, by rw [sgn_lk]; exact z2, by omega, by rw [sgn_lk]; simp only [dueB]; omega, by rw [hn.2.1]; exact z5, sgn_ne hne _ _, by rw [hn.1, hn.2.2, ← hd]; rfl⟩) ((a.1, a.2.1, a.2.2.1, a.2.2.2.1, a.2.2.2.2.1, a.2.2.2.2.2.1, a.2.2.2.2.2.2.1, a.2.2.2.2.2.2.2.1, a.2.2.2.2.2.2.2.2.1, a.2.2.2.2.2.2.2.1, ln) : q_Cs) s hsf ⟨h.1, h.2.1, h.2.2.1, h.2.2.2.1, h.2.2.2.2.1, h0, h.2.2.2.2.2.2⟩
          obtain ⟨k', a1, a2, a3, _⟩ := key
          exact ⟨a3.1, a3.2.1, by have := a3.2.2.1; omega, by have := a3.2.2.2.1; omega, by have := a3.2.2.2.2.1; omega, fun _ => a3.2.2.2.2.2.1, a3.2.2.2.2.2.2⟩
def lns (L : List Nat) (ln : Nat) (a : q_Cs) (s : Nat) : q_Cs := if s ≤ L.length ∧ a.2.2.2.2.2.1 = 0 then lns L (ln + 1) (lin L s (lnE L s) ln a) (lnE L s + 1) else a
termination_by L.length + 1 - s
decreasing_by have := lnE_ge L s; omega
theorem wa_lns {L : List Nat} (ln : Nat) (a : q_Cs) (s : Nat) (h : WA L a s) (hs : s ≤ L.length + 1) : WA L (lns L ln a s) (L.length + 1) := by
  rw [lns]
  split
  · rename_i h1
    have hge := lnE_ge L s
    have hle := lnE_le L h1.1
    exact wa_lns (ln + 1) _ (lnE L s + 1) (wa_lin h hge hle) (by omega)
  · obtain ⟨z1, z2, z3, z4, z5, z6, z7⟩ := h
    exact ⟨z1, z2, by omega, by omega, by omega, z6, z7⟩
termination_by L.length + 1 - s
decreasing_by all_goals omega
/-- how it ends: fault, its line, and the bodies -/
def q_fin (L : List Nat) (a0 : q_Cs) : Nat × Nat × List (List Nat) :=
  let a := clP a0
  let r := rsv L a.1 a.2.2.2.2.1 (a.2.2.2.2.2.1, a.2.2.2.2.2.2.1, a.2.1)
  let q := q_chk r.2.2 a.2.2.1 r.2.2.length (r.1, r.2.1)
  if a.2.1 = [] then (if q.1 = 0 then 10 else q.1, if q.1 = 0 then 0 else q.2, r.2.2) else (q.1, q.2, r.2.2)
def cs0 : q_Cs := ⟨[], [], [], [], [], 0, 0, false, false, false, 0⟩
/-- what the draft holds of a source without fault -/
def q_DB (bN : Nat → Int64) (bS bE : Nat → Int32) (bC : Int32) (kW : Nat → Int64) (kT : Nat → Int32) (kC T : Int32) (ns bs : List (List Nat)) (ks : List (List Nat × Nat)) : Prop := CB bS bE bC T bs ∧ ns.length = bs.length ∧ (∀ t, t < bs.length → bN t = lN (enc (bd ns t))) ∧ CW 252 kW kT kC (codes ks) ∧ Srt (codes ks)
theorem t_trans {L : List Nat} {sE : Nat → Int32} {sC : Int32} (hs : Rw 700 sE sC L) (hv : ∀ i, L.getD i 0 < 2147483648) (ln : Nat) (a : q_Cs) (s : Nat) (c : q_CC) (h : q_CI L c a) (hW : c.2.2.2.2.2.2.2.1 = nI ln) (hA : WA L a s) (hsl : s ≤ L.length + 1) (hln : ln ≤ s) :
    ∃ c' : q_CC, (∃ m, T_Compiler_translate 700 2550 252 sE sC (nI (q_fin L (lns L ln a s)).1) c'.1 c'.2.1 c'.2.2.1 c'.2.2.2.1 c'.2.2.2.2.1 c'.2.2.2.2.2.1 c'.2.2.2.2.2.2.1 c'.2.2.2.2.2.2.2.1 c'.2.2.2.2.2.2.2.2.1 c'.2.2.2.2.2.2.2.2.2.1 c'.2.2.2.2.2.2.2.2.2.2.1 c'.2.2.2.2.2.2.2.2.2.2.2.1 c'.2.2.2.2.2.2.2.2.2.2.2.2.1 c'.2.2.2.2.2.2.2.2.2.2.2.2.2.1 c'.2.2.2.2.2.2.2.2.2.2.2.2.2.2.1 c'.2.2.2.2.2.2.2.2.2.2.2.2.2.2.2.1 c'.2.2.2.2.2.2.2.2.2.2.2.2.2.2.2.2.1 c'.2.2.2.2.2.2.2.2.2.2.2.2.2.2.2.2.2.1 c'.2.2.2.2.2.2.2.2.2.2.2.2.2.2.2.2.2.2.1 c'.2.2.2.2.2.2.2.2.2.2.2.2.2.2.2.2.2.2.2.1 c'.2.2.2.2.2.2.2.2.2.2.2.2.2.2.2.2.2.2.2.2 m 0 (nI s) c.1 c.2.1 c.2.2.1 c.2.2.2.1 c.2.2.2.2.1 c.2.2.2.2.2.1 c.2.2.2.2.2.2.1 c.2.2.2.2.2.2.2.1 c.2.2.2.2.2.2.2.2.1 c.2.2.2.2.2.2.2.2.2.1 c.2.2.2.2.2.2.2.2.2.2.1 c.2.2.2.2.2.2.2.2.2.2.2.1 c.2.2.2.2.2.2.2.2.2.2.2.2.1 c.2.2.2.2.2.2.2.2.2.2.2.2.2.1 c.2.2.2.2.2.2.2.2.2.2.2.2.2.2.1 c.2.2.2.2.2.2.2.2.2.2.2.2.2.2.2.1 c.2.2.2.2.2.2.2.2.2.2.2.2.2.2.2.2.1 c.2.2.2.2.2.2.2.2.2.2.2.2.2.2.2.2.2.1 c.2.2.2.2.2.2.2.2.2.2.2.2.2.2.2.2.2.2.1 c.2.2.2.2.2.2.2.2.2.2.2.2.2.2.2.2.2.2.2.1 c.2.2.2.2.2.2.2.2.2.2.2.2.2.2.2.2.2.2.2.2) ∧ c'.2.2.2.2.2.1 = nI (q_fin L (lns L ln a s)).1 ∧ c'.2.2.2.2.2.2.1 = ftI (q_fin L (lns L ln a s)).1 (q_fin L (lns L ln a s)).2.1 ∧ (∃ n, n ≤ 2550 ∧ c'.2.2.2.2.2.2.2.2.2.2.2.2.2.2.2.1 = nI n) ∧ (q_fin L (lns L ln a s)).1 < 100 ∧ ((q_fin L (lns L ln a s)).1 = 0 → q_DB c'.2.2.2.2.2.2.2.2.2.2.2.2.1 c'.2.2.2.2.2.2.2.2.2.2.2.2.2.1 c'.2.2.2.2.2.2.2.2.2.2.2.2.2.2.1 c'.2.2.2.2.2.2.2.2.2.2.2.2.2.2.2.1 c'.2.2.2.2.2.2.2.2.2.2.2.2.2.2.2.2.2.1 c'.2.2.2.2.2.2.2.2.2.2.2.2.2.2.2.2.2.2.1 c'.2.2.2.2.2.2.2.2.2.2.2.2.2.2.2.2.2.2.2.1 c'.2.2.2.2.2.2.2.2.2.2.2.2.2.2.2.2.2.2.2.2 (lns L ln a s).1 (q_fin L (lns L ln a s)).2.2 (lns L ln a s).2.2.2.1) := by
  have hL7 := hs.2.1
  have hC := hs.1
  have hF := h.1
  have hF2 := h.2.1
  by_cases h1 : s ≤ L.length ∧ a.2.2.2.2.2.1 = 0
  · have hge := lnE_ge L s
    have hle := lnE_le L h1.1
    obtain ⟨m1, hm1⟩ := t_lnE hs hv s h1.1
    obtain ⟨c1, d1, d2, d3⟩ := ci_line hs hv (ln := ln) h hA.1 hge hle hW hA.2.2.1 hA.2.2.2.1 hA.2.2.2.2.1
    obtain ⟨c', ⟨m, hm⟩, e2⟩ := t_trans hs hv (ln + 1) (lin L s (lnE L s) ln a) (lnE L s + 1) ((c1.1, c1.2.1, c1.2.2.1, c1.2.2.2.1, c1.2.2.2.2.1, c1.2.2.2.2.2.1, c1.2.2.2.2.2.2.1, nI (ln + 1), c1.2.2.2.2.2.2.2.2.1, c1.2.2.2.2.2.2.2.2.2.1, c1.2.2.2.2.2.2.2.2.2.2.1, c1.2.2.2.2.2.2.2.2.2.2.2.1, c1.2.2.2.2.2.2.2.2.2.2.2.2.1, c1.2.2.2.2.2.2.2.2.2.2.2.2.2.1, c1.2.2.2.2.2.2.2.2.2.2.2.2.2.2.1, c1.2.2.2.2.2.2.2.2.2.2.2.2.2.2.2.1, c1.2.2.2.2.2.2.2.2.2.2.2.2.2.2.2.2.1, c1.2.2.2.2.2.2.2.2.2.2.2.2.2.2.2.2.2.1, c1.2.2.2.2.2.2.2.2.2.2.2.2.2.2.2.2.2.2.1, c1.2.2.2.2.2.2.2.2.2.2.2.2.2.2.2.2.2.2.2.1, c1.2.2.2.2.2.2.2.2.2.2.2.2.2.2.2.2.2.2.2.2) : q_CC) d2 rfl (wa_lin hA hge hle) (by omega) (by omega)
    have el : lns L ln a s = lns L (ln + 1) (lin L s (lnE L s) ln a) (lnE L s + 1) := by
      conv => lhs; rw [lns]
      rw [if_pos h1]
    rw [el]
    refine ⟨c', ⟨m + 1, ?_⟩, e2⟩
    have hF0 : c.2.2.2.2.2.1 = nI 0 := by rw [hF, h1.2]
    have h1' := h1.1
    rw [hF0, hC, hW] at d1 ⊢
    rw [hC] at hm1 hm
    simp (disch := omega) only [T_Compiler_translate, S_Compiler_translate, B_Compiler_translate_19, q_lit, le_T, le_F, lt_T, lt_F, eq_T, eq_F, m1_lt, m1_le, lt_m1, le_m1, eq_m1, m1_eq, nI_add, nI_sub, nI_dec, nI_mul, nI_or, nI_and, nI_div, nI_mod, and_255, and_31, and_1, and_63, nI_shl, nI_shr, bI_F, bI_1, vp_T, cl_T, true_implies, false_implies, not_true_eq_false, not_false_eq_true, true_and, and_true, false_and, and_false, Bool.false_eq_true, Bool.true_eq_false, reduceCtorEq, implies_true, q_lc_eq, q_lc_ge, q_lc_gt, q_lc_le, lN_or, lN_and, lN_shl, lN_shr, nI_L, lN_I, l_0]
    exact ⟨_, ⟨m1, hm1⟩, c1.1, c1.2.1, c1.2.2.1, c1.2.2.2.1, c1.2.2.2.2.1, c1.2.2.2.2.2.1, c1.2.2.2.2.2.2.1, c1.2.2.2.2.2.2.2.2.1, c1.2.2.2.2.2.2.2.2.2.1, c1.2.2.2.2.2.2.2.2.2.2.1, c1.2.2.2.2.2.2.2.2.2.2.2.1, c1.2.2.2.2.2.2.2.2.2.2.2.2.1, c1.2.2.2.2.2.2.2.2.2.2.2.2.2.1, c1.2.2.2.2.2.2.2.2.2.2.2.2.2.2.1, c1.2.2.2.2.2.2.2.2.2.2.2.2.2.2.2.1, c1.2.2.2.2.2.2.2.2.2.2.2.2.2.2.2.2.1, c1.2.2.2.2.2.2.2.2.2.2.2.2.2.2.2.2.2.1, c1.2.2.2.2.2.2.2.2.2.2.2.2.2.2.2.2.2.2.1, c1.2.2.2.2.2.2.2.2.2.2.2.2.2.2.2.2.2.2.2.1, c1.2.2.2.2.2.2.2.2.2.2.2.2.2.2.2.2.2.2.2.2, d1, by rw [nI_add]; exact hm⟩
  · have el : lns L ln a s = a := by rw [lns, if_neg h1]
    rw [el]
    have hAc : WA L (clP a) (L.length + 2) := wa_clP hA (by omega)
    obtain ⟨F1, E1, I1, M1, S1, BE1, BC1, d1, d2⟩ := ci_close h (by have := hA.2.2.1; omega)
    obtain ⟨y1, y2, y3, y4, y5, y6, y7, y8, y9, y10⟩ := d2
    have d2 : q_CI L ((c.1, c.2.1, c.2.2.1, c.2.2.2.1, c.2.2.2.2.1, F1, E1, c.2.2.2.2.2.2.2.1, c.2.2.2.2.2.2.2.2.1, I1, c.2.2.2.2.2.2.2.2.2.2.1, M1, c.2.2.2.2.2.2.2.2.2.2.2.2.1, S1, BE1, BC1, c.2.2.2.2.2.2.2.2.2.2.2.2.2.2.2.2.1, c.2.2.2.2.2.2.2.2.2.2.2.2.2.2.2.2.2.1, c.2.2.2.2.2.2.2.2.2.2.2.2.2.2.2.2.2.2.1, c.2.2.2.2.2.2.2.2.2.2.2.2.2.2.2.2.2.2.2.1, c.2.2.2.2.2.2.2.2.2.2.2.2.2.2.2.2.2.2.2.2) : q_CC) (clP a) := ⟨y1, y2, y3, y4, y5, y6, y7, y8, y9, y10⟩
    obtain ⟨BE2, ⟨m2, hm2⟩, g1, g2, g3⟩ := t_rsv d2 hAc.1 hAc.2.1 0 (by omega) (clP a).2.2.2.2.2.1 (clP a).2.2.2.2.2.2.1 y2 (clP a).2.1 ⟨rfl, fun _ => rfl⟩ BE1 (fun _ => ⟨y8.2.2.1, y8.2.2.2.2⟩)
    simp only [List.drop_zero] at hm2 g1 g2 g3
    have hT1 : c.2.2.2.2.2.2.2.2.2.2.2.2.2.2.2.2.2.2.2.2 = nI (clP a).2.1.length := y8.1
    have h10 := y8.2.1
    have hBl := y8.2.2.1.2.1
    obtain ⟨⟨m3, hm3⟩, g4⟩ := t_chk (BE := BE2) (BC := BC1) (S := S1) (T := c.2.2.2.2.2.2.2.2.2.2.2.2.2.2.2.2.2.2.2.2) (bs := (rsv L (clP a).1 (clP a).2.2.2.2.1 ((clP a).2.2.2.2.2.1, (clP a).2.2.2.2.2.2.1, (clP a).2.1)).2.2) (by rw [g2.1]; exact hT1) (by rw [g2.1]; exact h10) (by rw [shp_flat g2]; exact hBl) (fun t ht h0 => by rw [g2.1] at ht h0; rw [shp_off g2 t ht]; exact y8.2.2.2.1 t ht h0) (H := c.1) (hs := (clP a).2.2.1) (fun t ht => by rw [g2.1] at ht; exact (y9.2.2.1 t ht).2) (rsv L (clP a).1 (clP a).2.2.2.2.1 ((clP a).2.2.2.2.2.1, (clP a).2.2.2.2.2.2.1, (clP a).2.1)).2.2.length (Nat.le_refl _) (rsv L (clP a).1 (clP a).2.2.2.2.1 ((clP a).2.2.2.2.2.1, (clP a).2.2.2.2.2.2.1, (clP a).2.1)).1 (rsv L (clP a).1 (clP a).2.2.2.2.1 ((clP a).2.2.2.2.2.1, (clP a).2.2.2.2.2.2.1, (clP a).2.1)).2.1 g1
    rw [Nat.sub_self] at hm3
    generalize hr : rsv L (clP a).1 (clP a).2.2.2.2.1 ((clP a).2.2.2.2.2.1, (clP a).2.2.2.2.2.2.1, (clP a).2.1) = r at hm2 g1 g2 g3 hm3 g4
    have hres : D_Compiler_resolveLinks 2550 c.2.1 c.2.2.1 c.2.2.2.1 c.2.2.2.2.1 F1 E1 c.2.2.2.2.2.2.2.2.2.2.2.2.1 BE1 BC1 c.2.2.2.2.2.2.2.2.2.2.2.2.2.2.2.2.2.2.2.2 (nI r.1) (ftI r.1 r.2.1) BE2 := by
      refine ⟨m2, ?_⟩
      have e1 : F1 = nI (clP a).2.2.2.2.2.1 := y1
      have e2 : E1 = ftI (clP a).2.2.2.2.2.1 (clP a).2.2.2.2.2.2.1 := y3
      rw [e1, e2]
      simpa [q_lit] using hm2
    have hchk : D_Compiler_checkBodies c.1 (nI r.1) (ftI r.1 r.2.1) S1 c.2.2.2.2.2.2.2.2.2.2.2.2.2.2.2.2.2.2.2.2 (nI (q_chk r.2.2 (clP a).2.2.1 r.2.2.length (r.1, r.2.1)).1) (ftI (q_chk r.2.2 (clP a).2.2.1 r.2.2.length (r.1, r.2.1)).1 (q_chk r.2.2 (clP a).2.2.1 r.2.2.length (r.1, r.2.1)).2) := ⟨m3, by simpa [q_lit] using hm3⟩
    have hfin : q_fin L a = if (clP a).2.1 = [] then (if (q_chk r.2.2 (clP a).2.2.1 r.2.2.length (r.1, r.2.1)).1 = 0 then 10 else (q_chk r.2.2 (clP a).2.2.1 r.2.2.length (r.1, r.2.1)).1, if (q_chk r.2.2 (clP a).2.2.1 r.2.2.length (r.1, r.2.1)).1 = 0 then 0 else (q_chk r.2.2 (clP a).2.2.1 r.2.2.length (r.1, r.2.1)).2, r.2.2) else ((q_chk r.2.2 (clP a).2.2.1 r.2.2.length (r.1, r.2.1)).1, (q_chk r.2.2 (clP a).2.2.1 r.2.2.length (r.1, r.2.1)).2, r.2.2) := by
      simp only [q_fin, hr]
    generalize hq : q_chk r.2.2 (clP a).2.2.1 r.2.2.length (r.1, r.2.1) = q at hchk hfin g4
    rw [hfin]
    have hgo : ∀ c' : q_CC, ∀ R : Int32, T_Compiler_translate 700 2550 252 sE sC R c'.1 c'.2.1 c'.2.2.1 c'.2.2.2.1 c'.2.2.2.2.1 c'.2.2.2.2.2.1 c'.2.2.2.2.2.2.1 c'.2.2.2.2.2.2.2.1 c'.2.2.2.2.2.2.2.2.1 c'.2.2.2.2.2.2.2.2.2.1 c'.2.2.2.2.2.2.2.2.2.2.1 c'.2.2.2.2.2.2.2.2.2.2.2.1 c'.2.2.2.2.2.2.2.2.2.2.2.2.1 c'.2.2.2.2.2.2.2.2.2.2.2.2.2.1 c'.2.2.2.2.2.2.2.2.2.2.2.2.2.2.1 c'.2.2.2.2.2.2.2.2.2.2.2.2.2.2.2.1 c'.2.2.2.2.2.2.2.2.2.2.2.2.2.2.2.2.1 c'.2.2.2.2.2.2.2.2.2.2.2.2.2.2.2.2.2.1 c'.2.2.2.2.2.2.2.2.2.2.2.2.2.2.2.2.2.2.1 c'.2.2.2.2.2.2.2.2.2.2.2.2.2.2.2.2.2.2.2.1 c'.2.2.2.2.2.2.2.2.2.2.2.2.2.2.2.2.2.2.2.2 1 1 0 c.1 c.2.1 c.2.2.1 c.2.2.2.1 c.2.2.2.2.1 c.2.2.2.2.2.1 c.2.2.2.2.2.2.1 c.2.2.2.2.2.2.2.1 c.2.2.2.2.2.2.2.2.1 c.2.2.2.2.2.2.2.2.2.1 c.2.2.2.2.2.2.2.2.2.2.1 c.2.2.2.2.2.2.2.2.2.2.2.1 c.2.2.2.2.2.2.2.2.2.2.2.2.1 c.2.2.2.2.2.2.2.2.2.2.2.2.2.1 c.2.2.2.2.2.2.2.2.2.2.2.2.2.2.1 c.2.2.2.2.2.2.2.2.2.2.2.2.2.2.2.1 c.2.2.2.2.2.2.2.2.2.2.2.2.2.2.2.2.1 c.2.2.2.2.2.2.2.2.2.2.2.2.2.2.2.2.2.1 c.2.2.2.2.2.2.2.2.2.2.2.2.2.2.2.2.2.2.1 c.2.2.2.2.2.2.2.2.2.2.2.2.2.2.2.2.2.2.2.1 c.2.2.2.2.2.2.2.2.2.2.2.2.2.2.2.2.2.2.2.2 → T_Compiler_translate 700 2550 252 sE sC R c'.1 c'.2.1 c'.2.2.1 c'.2.2.2.1 c'.2.2.2.2.1 c'.2.2.2.2.2.1 c'.2.2.2.2.2.2.1 c'.2.2.2.2.2.2.2.1 c'.2.2.2.2.2.2.2.2.1 c'.2.2.2.2.2.2.2.2.2.1 c'.2.2.2.2.2.2.2.2.2.2.1 c'.2.2.2.2.2.2.2.2.2.2.2.1 c'.2.2.2.2.2.2.2.2.2.2.2.2.1 c'.2.2.2.2.2.2.2.2.2.2.2.2.2.1 c'.2.2.2.2.2.2.2.2.2.2.2.2.2.2.1 c'.2.2.2.2.2.2.2.2.2.2.2.2.2.2.2.1 c'.2.2.2.2.2.2.2.2.2.2.2.2.2.2.2.2.1 c'.2.2.2.2.2.2.2.2.2.2.2.2.2.2.2.2.2.1 c'.2.2.2.2.2.2.2.2.2.2.2.2.2.2.2.2.2.2.1 c'.2.2.2.2.2.2.2.2.2.2.2.2.2.2.2.2.2.2.2.1 c'.2.2.2.2.2.2.2.2.2.2.2.2.2.2.2.2.2.2.2.2 2 0 (nI s) c.1 c.2.1 c.2.2.1 c.2.2.2.1 c.2.2.2.2.1 c.2.2.2.2.2.1 c.2.2.2.2.2.2.1 c.2.2.2.2.2.2.2.1 c.2.2.2.2.2.2.2.2.1 c.2.2.2.2.2.2.2.2.2.1 c.2.2.2.2.2.2.2.2.2.2.1 c.2.2.2.2.2.2.2.2.2.2.2.1 c.2.2.2.2.2.2.2.2.2.2.2.2.1 c.2.2.2.2.2.2.2.2.2.2.2.2.2.1 c.2.2.2.2.2.2.2.2.2.2.2.2.2.2.1 c.2.2.2.2.2.2.2.2.2.2.2.2.2.2.2.1 c.2.2.2.2.2.2.2.2.2.2.2.2.2.2.2.2.1 c.2.2.2.2.2.2.2.2.2.2.2.2.2.2.2.2.2.1 c.2.2.2.2.2.2.2.2.2.2.2.2.2.2.2.2.2.2.1 c.2.2.2.2.2.2.2.2.2.2.2.2.2.2.2.2.2.2.2.1 c.2.2.2.2.2.2.2.2.2.2.2.2.2.2.2.2.2.2.2.2 := by
      intro c' R h9
      refine ⟨fun _ => h9, fun h8 => ⟨fun h7 => ?_, fun _ => h9⟩⟩
      exfalso
      rw [hC] at h8
      rw [hF] at h7
      have : s ≤ L.length := by
        rcases Nat.lt_or_ge L.length s with h6 | h6
        · exact absurd (nI_lt h6 (by omega)) h8
        · exact h6
      exact h1 ⟨this, (nI_eq (by omega) (by omega)).mp h7⟩
    by_cases h0 : (clP a).2.1 = []
    · rw [if_pos h0]
      refine ⟨((c.1, c.2.1, c.2.2.1, c.2.2.2.1, c.2.2.2.2.1, nI (if q.1 = 0 then 10 else q.1), ftI (if q.1 = 0 then 10 else q.1) (if q.1 = 0 then 0 else q.2), c.2.2.2.2.2.2.2.1, c.2.2.2.2.2.2.2.2.1, I1, c.2.2.2.2.2.2.2.2.2.2.1, M1, c.2.2.2.2.2.2.2.2.2.2.2.2.1, S1, BE2, BC1, c.2.2.2.2.2.2.2.2.2.2.2.2.2.2.2.2.1, c.2.2.2.2.2.2.2.2.2.2.2.2.2.2.2.2.2.1, c.2.2.2.2.2.2.2.2.2.2.2.2.2.2.2.2.2.2.1, c.2.2.2.2.2.2.2.2.2.2.2.2.2.2.2.2.2.2.2.1, c.2.2.2.2.2.2.2.2.2.2.2.2.2.2.2.2.2.2.2.2) : q_CC), ⟨2, hgo _ _ ?_⟩, rfl, rfl, ⟨_, hBl, y8.2.2.1.1⟩, by simp only; split <;> omega, fun h9 => by simp only at h9; split at h9 <;> omega⟩
      have e0 : c.2.2.2.2.2.2.2.2.2.2.2.2.2.2.2.2.2.2.2.2 = nI 0 := by rw [hT1, h0]; rfl
      rw [e0] at d1 hres hchk ⊢
      simp (disch := omega) only [T_Compiler_translate, S_Compiler_translate, B_Compiler_translate_70, q_lit, le_T, le_F, lt_T, lt_F, eq_T, eq_F, m1_lt, m1_le, lt_m1, le_m1, eq_m1, m1_eq, nI_add, nI_sub, nI_dec, nI_mul, nI_or, nI_and, nI_div, nI_mod, and_255, and_31, and_1, and_63, nI_shl, nI_shr, bI_F, bI_1, vp_T, cl_T, true_implies, false_implies, not_true_eq_false, not_false_eq_true, true_and, and_true, false_and, and_false, Bool.false_eq_true, Bool.true_eq_false, reduceCtorEq, implies_true, q_lc_eq, q_lc_ge, q_lc_gt, q_lc_le, lN_or, lN_and, lN_shl, lN_shr, nI_L, lN_I, l_0]
      exact ⟨F1, E1, I1, M1, S1, BE1, BC1, c.2.2.2.2.2.2.2.2.2.2.2.2.2.2.2.2.1, d1, _, _, BE2, hres, _, _, hchk, _, _, co_blame (k := 10) (l := 0) (by omega) (by omega) g4, rfl, rfl, rfl, rfl, rfl, rfl, rfl, rfl, rfl⟩
    · rw [if_neg h0]
      have hpos : 0 < (clP a).2.1.length := List.length_pos_iff.mpr h0
      refine ⟨((c.1, c.2.1, c.2.2.1, c.2.2.2.1, c.2.2.2.2.1, nI q.1, ftI q.1 q.2, c.2.2.2.2.2.2.2.1, c.2.2.2.2.2.2.2.2.1, I1, c.2.2.2.2.2.2.2.2.2.2.1, M1, c.2.2.2.2.2.2.2.2.2.2.2.2.1, S1, BE2, BC1, c.2.2.2.2.2.2.2.2.2.2.2.2.2.2.2.2.1, c.2.2.2.2.2.2.2.2.2.2.2.2.2.2.2.2.2.1, c.2.2.2.2.2.2.2.2.2.2.2.2.2.2.2.2.2.2.1, c.2.2.2.2.2.2.2.2.2.2.2.2.2.2.2.2.2.2.2.1, c.2.2.2.2.2.2.2.2.2.2.2.2.2.2.2.2.2.2.2.2) : q_CC), ⟨2, hgo _ _ ?_⟩, rfl, rfl, ⟨_, hBl, y8.2.2.1.1⟩, g4, fun h9 => ?_⟩
      · rw [hT1] at d1 hres hchk ⊢
        simp (disch := omega) only [T_Compiler_translate, S_Compiler_translate, B_Compiler_translate_70, q_lit, le_T, le_F, lt_T, lt_F, eq_T, eq_F, m1_lt, m1_le, lt_m1, le_m1, eq_m1, m1_eq, nI_add, nI_sub, nI_dec, nI_mul, nI_or, nI_and, nI_div, nI_mod, and_255, and_31, and_1, and_63, nI_shl, nI_shr, bI_F, bI_1, vp_T, cl_T, true_implies, false_implies, not_true_eq_false, not_false_eq_true, true_and, and_true, false_and, and_false, Bool.false_eq_true, Bool.true_eq_false, reduceCtorEq, implies_true, q_lc_eq, q_lc_ge, q_lc_gt, q_lc_le, lN_or, lN_and, lN_shl, lN_shr, nI_L, lN_I, l_0]
        exact ⟨F1, E1, I1, M1, S1, BE1, BC1, c.2.2.2.2.2.2.2.2.2.2.2.2.2.2.2.2.1, d1, _, _, BE2, hres, _, _, hchk, rfl, rfl, rfl, rfl, rfl, rfl, rfl, rfl, rfl⟩
      · have hchk0 : ∀ (d : Nat) (ft fl : Nat), (q_chk r.2.2 (clP a).2.2.1 d (ft, fl)).1 = 0 → ft = 0 := by
          intro d
          induction d with
          | zero => intro ft fl h8; exact h8
          | succ d ih =>
            intro ft fl h8
            simp only [q_chk] at h8
            split at h8
            · have := ih _ _ h8
              split at this <;> omega
            · exact ih _ _ h8
        have hr0 : r.1 = 0 := hchk0 _ r.1 r.2.1 (by rw [hq]; exact h9)
        have hR := g3 hr0
        have hcl := clP_ns a
        refine ⟨⟨by rw [g2.1]; exact hT1, by rw [g2.1]; exact h10, hR.1, fun t ht h8 => by rw [g2.1] at ht h8; rw [shp_off g2 t ht]; exact y8.2.2.2.1 t ht h8, hR.2⟩, by rw [g2.1, ← hcl.1]; exact y9.1, fun t ht => by rw [g2.1] at ht; have := (y9.2.2.1 t ht).1; rw [hcl.1] at this; exact this, by rw [← hcl.2.1]; exact y9.2.2.2.1, by rw [← hcl.2.1]; exact y9.2.2.2.2.1⟩
termination_by L.length + 1 - s
decreasing_by have := lnE_ge L s; omega
