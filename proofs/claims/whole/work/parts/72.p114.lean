/-! Pure: the keywords of an image are read, the class. -/
def lvO (x : Nat) (l : Nat) : Option Nat := if l ≤ 63 then (if treeN (4 * l) = x then some l else lvO x (l + 1)) else none
termination_by 64 - l
decreasing_by all_goals omega
set_option maxRecDepth 100000 in
theorem lvO_le {x l r : Nat} (h : lvO x l = some r) : r ≤ 63 ∧ treeN (4 * r) = x ∧ l ≤ r := by
  rw [lvO] at h
  split at h
  · split at h
    · rename_i h1 h2
      simp only [Option.some.injEq] at h; subst h; exact ⟨h1, h2, Nat.le_refl _⟩
    · have := lvO_le h; exact ⟨this.1, this.2.1, by omega⟩
  · cases h
termination_by 64 - l
decreasing_by all_goals omega
theorem treeN_inj : ∀ a b : Fin 64, treeN (4 * a.val) = treeN (4 * b.val) → a = b := by decide +kernel
set_option maxRecDepth 100000 in
theorem lvO_eq {r : Nat} (hr : r ≤ 63) (l : Nat) (hl : l ≤ r) : lvO (treeN (4 * r)) l = some r := by
  rw [lvO, if_pos (by omega)]
  by_cases h : l = r
  · rw [h, if_pos rfl]
  · rw [if_neg (fun h2 => h (by have := treeN_inj ⟨l, by omega⟩ ⟨r, by omega⟩ h2; simpa using this))]
    exact lvO_eq hr (l + 1) (by omega)
termination_by r - l
decreasing_by all_goals omega
set_option maxRecDepth 100000 in
theorem t_leaves (x : Nat) (hx : x < 2147483648) (l : Nat) (hl : l ≤ 64) : ∃ q, T_Tree_leaves (oI (lvO x l)) q (nI x) (nI l) := by
  rw [lvO]
  by_cases h : l ≤ 63
  · rw [if_pos h]
    have hn := tr_nodesN (k := 4 * l) (by omega)
    have ht : treeN (4 * l) < 2147483648 := by unfold treeN up4; split <;> (try split) <;> (try split) <;> omega
    rw [Nat.mul_comm] at hn
    by_cases h2 : treeN (4 * l) = x
    · rw [if_pos h2]
      refine ⟨1, ?_⟩
      simp (disch := omega) only [T_Tree_leaves, S_Tree_leaves, B_Tree_leaves_2, q_lit, le_T, le_F, lt_T, lt_F, eq_T, eq_F, m1_lt, m1_le, lt_m1, le_m1, eq_m1, m1_eq, nI_add, nI_sub, nI_dec, nI_mul, nI_or, nI_and, nI_div, nI_mod, and_255, and_31, and_1, and_63, nI_shl, nI_shr, bI_F, bI_1, vp_T, cl_T, true_implies, false_implies, not_true_eq_false, not_false_eq_true, true_and, and_true, false_and, and_false, Bool.false_eq_true, Bool.true_eq_false, reduceCtorEq, implies_true, q_lc_eq, q_lc_ge, q_lc_gt, q_lc_le, lN_or, lN_and, lN_shl, lN_shr, nI_L, lN_I, l_0]
      refine ⟨_, hn, ?_⟩
      rw [Nat.mul_comm l 4]
      simp (disch := omega) only [oI, q_lit, le_T, le_F, lt_T, lt_F, eq_T, eq_F, m1_lt, m1_le, lt_m1, le_m1, eq_m1, m1_eq, nI_add, nI_sub, nI_dec, nI_mul, nI_or, nI_and, nI_div, nI_mod, and_255, and_31, and_1, and_63, nI_shl, nI_shr, bI_F, bI_1, vp_T, cl_T, true_implies, false_implies, not_true_eq_false, not_false_eq_true, true_and, and_true, false_and, and_false, Bool.false_eq_true, Bool.true_eq_false, reduceCtorEq, implies_true]
    · rw [if_neg h2]
      obtain ⟨q, hq⟩ := t_leaves x hx (l + 1) (by omega)
      refine ⟨q + 1, ?_⟩
      simp (disch := omega) only [T_Tree_leaves, S_Tree_leaves, B_Tree_leaves_2, q_lit, le_T, le_F, lt_T, lt_F, eq_T, eq_F, m1_lt, m1_le, lt_m1, le_m1, eq_m1, m1_eq, nI_add, nI_sub, nI_dec, nI_mul, nI_or, nI_and, nI_div, nI_mod, and_255, and_31, and_1, and_63, nI_shl, nI_shr, bI_F, bI_1, vp_T, cl_T, true_implies, false_implies, not_true_eq_false, not_false_eq_true, true_and, and_true, false_and, and_false, Bool.false_eq_true, Bool.true_eq_false, reduceCtorEq, implies_true, q_lc_eq, q_lc_ge, q_lc_gt, q_lc_le, lN_or, lN_and, lN_shl, lN_shr, nI_L, lN_I, l_0]
      refine ⟨_, hn, ?_⟩
      rw [Nat.mul_comm l 4]
      simp (disch := omega) only [q_lit, le_T, le_F, lt_T, lt_F, eq_T, eq_F, m1_lt, m1_le, lt_m1, le_m1, eq_m1, m1_eq, nI_add, nI_sub, nI_dec, nI_mul, nI_or, nI_and, nI_div, nI_mod, and_255, and_31, and_1, and_63, nI_shl, nI_shr, bI_F, bI_1, vp_T, cl_T, true_implies, false_implies, not_true_eq_false, not_false_eq_true, true_and, and_true, false_and, and_false, Bool.false_eq_true, Bool.true_eq_false, reduceCtorEq, implies_true]
      exact hq
  · rw [if_neg h]
    refine ⟨1, ?_⟩
    simp (disch := omega) only [T_Tree_leaves, S_Tree_leaves, B_Tree_leaves_2, oI, q_lit, le_T, le_F, lt_T, lt_F, eq_T, eq_F, m1_lt, m1_le, lt_m1, le_m1, eq_m1, m1_eq, nI_add, nI_sub, nI_dec, nI_mul, nI_or, nI_and, nI_div, nI_mod, and_255, and_31, and_1, and_63, nI_shl, nI_shr, bI_F, bI_1, vp_T, cl_T, true_implies, false_implies, not_true_eq_false, not_false_eq_true, true_and, and_true, false_and, and_false, Bool.false_eq_true, Bool.true_eq_false, reduceCtorEq, implies_true, q_lc_eq, q_lc_ge, q_lc_gt, q_lc_le, lN_or, lN_and, lN_shl, lN_shr, nI_L, lN_I, l_0]
termination_by 64 - l
decreasing_by all_goals omega
theorem tr_leaves {x : Nat} (hx : x < 2147483648) : D_Tree_leaves (nI x) (oI (lvO x 0)) := t_leaves x hx 0 (by omega)
abbrev q_M2 := List (List Nat × Nat)
def pr (J : List Nat) (q : Nat) : Nat := J.getD q 0 + 256 * J.getD (q + 1) 0
def ents (J : List Nat) : Nat → Nat → q_M2 → Option (Nat × q_M2)
  | 0, p, m => some (p, m)
  | n + 1, p, m => if 8 < J.getD p 0 then none else ents J n (p + 1 + J.getD p 0 + 2) (insW ((letRun J (p + 1) (p + 1 + J.getD p 0)).map smL) (pr J (p + 1 + J.getD p 0)) m)
def lfs (J : List Nat) : Nat → Nat → q_M2 → Option q_M2
  | 0, _, m => some m
  | n + 1, p, m => if 4 < J.getD p 0 then none else (ents J (J.getD p 0) (p + 1) m).bind fun q => lfs J n q.1 q.2
theorem enc_sm (w : List Nat) : enc (w.map smL) = enc w := encA_sm 12 w
theorem codes_len2 (m : q_M2) : (codes m).length = m.length := by simp [codes]
set_option maxRecDepth 100000 in
theorem it1 {J : List Nat} {iE : Nat → Int32} {iC : Int32} (hJ : Rw 3000 iE iC J) (hy : q_By J) {lv leaf : Nat} (hlv : lv ≤ 63) (hlf : leaf < lv)
    (ih : ∀ (p : Nat) (m : q_M2) (KW : Nat → Int64) (KT : Nat → Int32) (KC : Int32), p + 45 * (lv - (leaf + 1)) < 30000 → m.length ≤ 4 * (leaf + 1) → CW 252 KW KT KC (codes m) → Srt (codes m) → ∃ (res : Bool) (p' : Nat) (KW' : Nat → Int64) (KT' : Nat → Int32) (KC' : Int32) (m' : q_M2), (∃ q, T_ImageReader_readTree 3000 252 iE iC res (nI p') KW' KT' KC' q 0 (nI lv) (nI (leaf + 1)) (nI 0) (nI 0) (nI p) KW KT KC) ∧ CW 252 KW' KT' KC' (codes m') ∧ Srt (codes m') ∧ res = (lfs J (lv - (leaf + 1)) p m).isSome ∧ ∀ r, lfs J (lv - (leaf + 1)) p m = some r → m' = r)
    {e : Nat} (he : e ≤ 4) (j : Nat) (hj : j ≤ e) (p : Nat) (m : q_M2) (KW : Nat → Int64) (KT : Nat → Int32) (KC : Int32) (hp : p + 11 * (e - j) + 45 * (lv - (leaf + 1)) < 30000) (hm : m.length ≤ 4 * leaf + j) (hc : CW 252 KW KT KC (codes m)) (hs : Srt (codes m)) :
    ∃ (res : Bool) (p' : Nat) (KW' : Nat → Int64) (KT' : Nat → Int32) (KC' : Int32) (m' : q_M2), (∃ q, T_ImageReader_readTree 3000 252 iE iC res (nI p') KW' KT' KC' q 1 (nI lv) (nI leaf) (nI e) (nI j) (nI p) KW KT KC) ∧ CW 252 KW' KT' KC' (codes m') ∧ Srt (codes m') ∧ res = ((ents J (e - j) p m).bind fun q => lfs J (lv - (leaf + 1)) q.1 q.2).isSome ∧ ∀ r, ((ents J (e - j) p m).bind fun q => lfs J (lv - (leaf + 1)) q.1 q.2) = some r → m' = r := by
  by_cases h1 : j < e
  · have hnx := ir_next hJ (p := p) (by omega)
    have hv := hy.getD p
    rw [show e - j = (e - (j + 1)) + 1 by omega, ents]
    by_cases h8 : 8 < J.getD p 0
    · rw [if_pos h8]
      refine ⟨false, p + 1, KW, KT, KC, m, ⟨1, ?_⟩, hc, hs, rfl, fun r hr => by cases hr⟩
      rw [T_ImageReader_readTree]
      simp (disch := omega) only [S_ImageReader_readTree, B_ImageReader_readTree_30, q_lit, le_T, le_F, lt_T, lt_F, eq_T, eq_F, m1_lt, m1_le, lt_m1, le_m1, eq_m1, m1_eq, nI_add, nI_sub, nI_dec, nI_mul, nI_or, nI_and, nI_div, nI_mod, and_255, and_31, and_1, and_63, nI_shl, nI_shr, bI_F, bI_1, vp_T, cl_T, true_implies, false_implies, not_true_eq_false, not_false_eq_true, true_and, and_true, false_and, and_false, Bool.false_eq_true, Bool.true_eq_false, reduceCtorEq, implies_true]
      refine ⟨_, _, hnx, ?_⟩
      simp (disch := omega) only [q_lit, le_T, le_F, lt_T, lt_F, eq_T, eq_F, m1_lt, m1_le, lt_m1, le_m1, eq_m1, m1_eq, nI_add, nI_sub, nI_dec, nI_mul, nI_or, nI_and, nI_div, nI_mod, and_255, and_31, and_1, and_63, nI_shl, nI_shr, bI_F, bI_1, vp_T, cl_T, true_implies, false_implies, not_true_eq_false, not_false_eq_true, true_and, and_true, false_and, and_false, Bool.false_eq_true, Bool.true_eq_false, reduceCtorEq, implies_true]
    · rw [if_neg h8]
      have hq1 := hy.getD (p + 1 + J.getD p 0)
      have hq2 := hy.getD (p + 1 + J.getD p 0 + 1)
      have hw := let_word hJ (fun i => by have := hy.getD i; omega) (s := p + 1) (f := p + 1 + J.getD p 0) (by omega) (by omega)
      have hpr : D_Row_pair 3000 (nI (p + 1 + J.getD p 0)) iE iC (nI (pr J (p + 1 + J.getD p 0))) := ⟨_, row_el hJ (by omega), _, by rw [show (nI (p + 1 + J.getD p 0) + 1 : Int32) = nI (p + 1 + J.getD p 0 + 1) by simp (disch := omega) only [q_lit, le_T, le_F, lt_T, lt_F, eq_T, eq_F, m1_lt, m1_le, lt_m1, le_m1, eq_m1, m1_eq, nI_add, nI_sub, nI_dec, nI_mul, nI_or, nI_and, nI_div, nI_mod, and_255, and_31, and_1, and_63, nI_shl, nI_shr, bI_F, bI_1, vp_T, cl_T, true_implies, false_implies, not_true_eq_false, not_false_eq_true, true_and, and_true, false_and, and_false, Bool.false_eq_true, Bool.true_eq_false, reduceCtorEq, implies_true]]; exact row_el hJ (by omega), by unfold pr; simp (disch := omega) only [q_lit, le_T, le_F, lt_T, lt_F, eq_T, eq_F, m1_lt, m1_le, lt_m1, le_m1, eq_m1, m1_eq, nI_add, nI_sub, nI_dec, nI_mul, nI_or, nI_and, nI_div, nI_mod, and_255, and_31, and_1, and_63, nI_shl, nI_shr, bI_F, bI_1, vp_T, cl_T, true_implies, false_implies, not_true_eq_false, not_false_eq_true, true_and, and_true, false_and, and_false, Bool.false_eq_true, Bool.true_eq_false, reduceCtorEq, implies_true]⟩
      obtain ⟨W1, T1, C1, a1, a2⟩ := wl_note hc hs (Sml.codes m) (x := enc (letRun J (p + 1) (p + 1 + J.getD p 0))) (b := pr J (p + 1 + J.getD p 0)) (enc_lt _) (by rw [codes_len2]; omega)
      have a2' : CW 252 W1 T1 C1 (codes (insW ((letRun J (p + 1) (p + 1 + J.getD p 0)).map smL) (pr J (p + 1 + J.getD p 0)) m)) := by rw [codes_ins, enc_sm]; exact a2
      have hl := insW_len ((letRun J (p + 1) (p + 1 + J.getD p 0)).map smL) (pr J (p + 1 + J.getD p 0)) m
      obtain ⟨res, p', KW', KT', KC', m', ⟨q, hq⟩, g1, g2, g3, g4⟩ := it1 hJ hy hlv hlf ih he (j + 1) (by omega) (p + 1 + J.getD p 0 + 2) _ W1 T1 C1 (by omega) (by omega) a2' (insW_srt hs)
      refine ⟨res, p', KW', KT', KC', m', ⟨q + 1, ?_⟩, g1, g2, g3, g4⟩
      rw [T_ImageReader_readTree]
      simp (disch := omega) only [S_ImageReader_readTree, B_ImageReader_readTree_30, q_lit, le_T, le_F, lt_T, lt_F, eq_T, eq_F, m1_lt, m1_le, lt_m1, le_m1, eq_m1, m1_eq, nI_add, nI_sub, nI_dec, nI_mul, nI_or, nI_and, nI_div, nI_mod, and_255, and_31, and_1, and_63, nI_shl, nI_shr, bI_F, bI_1, vp_T, cl_T, true_implies, false_implies, not_true_eq_false, not_false_eq_true, true_and, and_true, false_and, and_false, Bool.false_eq_true, Bool.true_eq_false, reduceCtorEq, implies_true]
      refine ⟨_, _, hnx, ?_⟩
      simp (disch := omega) only [q_lit, le_T, le_F, lt_T, lt_F, eq_T, eq_F, m1_lt, m1_le, lt_m1, le_m1, eq_m1, m1_eq, nI_add, nI_sub, nI_dec, nI_mul, nI_or, nI_and, nI_div, nI_mod, and_255, and_31, and_1, and_63, nI_shl, nI_shr, bI_F, bI_1, vp_T, cl_T, true_implies, false_implies, not_true_eq_false, not_false_eq_true, true_and, and_true, false_and, and_false, Bool.false_eq_true, Bool.true_eq_false, reduceCtorEq, implies_true]
      exact ⟨_, hw, _, hpr, W1, T1, C1, a1, hq⟩
  · rw [show e - j = 0 by omega, ents]
    obtain ⟨res, p', KW', KT', KC', m', ⟨q, hq⟩, g1, g2, g3, g4⟩ := ih p m KW KT KC (by omega) (by omega) hc hs
    refine ⟨res, p', KW', KT', KC', m', ⟨q + 1, ?_⟩, g1, g2, g3, g4⟩
    rw [T_ImageReader_readTree]
    simp (disch := omega) only [S_ImageReader_readTree, B_ImageReader_readTree_30, q_lit, le_T, le_F, lt_T, lt_F, eq_T, eq_F, m1_lt, m1_le, lt_m1, le_m1, eq_m1, m1_eq, nI_add, nI_sub, nI_dec, nI_mul, nI_or, nI_and, nI_div, nI_mod, and_255, and_31, and_1, and_63, nI_shl, nI_shr, bI_F, bI_1, vp_T, cl_T, true_implies, false_implies, not_true_eq_false, not_false_eq_true, true_and, and_true, false_and, and_false, Bool.false_eq_true, Bool.true_eq_false, reduceCtorEq, implies_true]
    exact hq
termination_by e - j
decreasing_by all_goals omega
set_option maxRecDepth 100000 in
theorem it0 {J : List Nat} {iE : Nat → Int32} {iC : Int32} (hJ : Rw 3000 iE iC J) (hy : q_By J) {lv : Nat} (hlv : lv ≤ 63) (leaf : Nat) (hlf : leaf ≤ lv) (p : Nat) (m : q_M2) (KW : Nat → Int64) (KT : Nat → Int32) (KC : Int32) (hp : p + 45 * (lv - leaf) < 30000) (hm : m.length ≤ 4 * leaf) (hc : CW 252 KW KT KC (codes m)) (hs : Srt (codes m)) :
    ∃ (res : Bool) (p' : Nat) (KW' : Nat → Int64) (KT' : Nat → Int32) (KC' : Int32) (m' : q_M2), (∃ q, T_ImageReader_readTree 3000 252 iE iC res (nI p') KW' KT' KC' q 0 (nI lv) (nI leaf) (nI 0) (nI 0) (nI p) KW KT KC) ∧ CW 252 KW' KT' KC' (codes m') ∧ Srt (codes m') ∧ res = (lfs J (lv - leaf) p m).isSome ∧ ∀ r, lfs J (lv - leaf) p m = some r → m' = r := by
  by_cases h1 : leaf < lv
  · have hnx := ir_next hJ (p := p) (by omega)
    have hv := hy.getD p
    rw [show lv - leaf = (lv - (leaf + 1)) + 1 by omega, lfs]
    by_cases h4 : 4 < J.getD p 0
    · rw [if_pos h4]
      refine ⟨false, p + 1, KW, KT, KC, m, ⟨1, ?_⟩, hc, hs, rfl, fun r hr => by cases hr⟩
      rw [T_ImageReader_readTree]
      simp (disch := omega) only [S_ImageReader_readTree, B_ImageReader_readTree_10, q_lit, le_T, le_F, lt_T, lt_F, eq_T, eq_F, m1_lt, m1_le, lt_m1, le_m1, eq_m1, m1_eq, nI_add, nI_sub, nI_dec, nI_mul, nI_or, nI_and, nI_div, nI_mod, and_255, and_31, and_1, and_63, nI_shl, nI_shr, bI_F, bI_1, vp_T, cl_T, true_implies, false_implies, not_true_eq_false, not_false_eq_true, true_and, and_true, false_and, and_false, Bool.false_eq_true, Bool.true_eq_false, reduceCtorEq, implies_true]
      refine ⟨_, _, hnx, ?_⟩
      simp (disch := omega) only [q_lit, le_T, le_F, lt_T, lt_F, eq_T, eq_F, m1_lt, m1_le, lt_m1, le_m1, eq_m1, m1_eq, nI_add, nI_sub, nI_dec, nI_mul, nI_or, nI_and, nI_div, nI_mod, and_255, and_31, and_1, and_63, nI_shl, nI_shr, bI_F, bI_1, vp_T, cl_T, true_implies, false_implies, not_true_eq_false, not_false_eq_true, true_and, and_true, false_and, and_false, Bool.false_eq_true, Bool.true_eq_false, reduceCtorEq, implies_true]
    · rw [if_neg h4]
      obtain ⟨res, p', KW', KT', KC', m', ⟨q, hq⟩, g1, g2, g3, g4⟩ := it1 hJ hy hlv h1 (fun p m KW KT KC h2 h3 h4 h5 => it0 hJ hy hlv (leaf + 1) h1 p m KW KT KC h2 h3 h4 h5) (e := J.getD p 0) (by omega) 0 (by omega) (p + 1) m KW KT KC (by omega) (by omega) hc hs
      refine ⟨res, p', KW', KT', KC', m', ⟨q + 1, ?_⟩, g1, g2, g3, g4⟩
      rw [T_ImageReader_readTree]
      simp (disch := omega) only [S_ImageReader_readTree, B_ImageReader_readTree_10, q_lit, le_T, le_F, lt_T, lt_F, eq_T, eq_F, m1_lt, m1_le, lt_m1, le_m1, eq_m1, m1_eq, nI_add, nI_sub, nI_dec, nI_mul, nI_or, nI_and, nI_div, nI_mod, and_255, and_31, and_1, and_63, nI_shl, nI_shr, bI_F, bI_1, vp_T, cl_T, true_implies, false_implies, not_true_eq_false, not_false_eq_true, true_and, and_true, false_and, and_false, Bool.false_eq_true, Bool.true_eq_false, reduceCtorEq, implies_true]
      refine ⟨_, _, hnx, ?_⟩
      simp (disch := omega) only [q_lit, le_T, le_F, lt_T, lt_F, eq_T, eq_F, m1_lt, m1_le, lt_m1, le_m1, eq_m1, m1_eq, nI_add, nI_sub, nI_dec, nI_mul, nI_or, nI_and, nI_div, nI_mod, and_255, and_31, and_1, and_63, nI_shl, nI_shr, bI_F, bI_1, vp_T, cl_T, true_implies, false_implies, not_true_eq_false, not_false_eq_true, true_and, and_true, false_and, and_false, Bool.false_eq_true, Bool.true_eq_false, reduceCtorEq, implies_true]
      exact hq
  · rw [show lv - leaf = 0 by omega, lfs]
    refine ⟨true, p, KW, KT, KC, m, ⟨1, ?_⟩, hc, hs, rfl, fun r hr => by simpa using hr⟩
    rw [T_ImageReader_readTree]
    simp (disch := omega) only [S_ImageReader_readTree, B_ImageReader_readTree_10, q_lit, le_T, le_F, lt_T, lt_F, eq_T, eq_F, m1_lt, m1_le, lt_m1, le_m1, eq_m1, m1_eq, nI_add, nI_sub, nI_dec, nI_mul, nI_or, nI_and, nI_div, nI_mod, and_255, and_31, and_1, and_63, nI_shl, nI_shr, bI_F, bI_1, vp_T, cl_T, true_implies, false_implies, not_true_eq_false, not_false_eq_true, true_and, and_true, false_and, and_false, Bool.false_eq_true, Bool.true_eq_false, reduceCtorEq, implies_true]
termination_by lv - leaf
decreasing_by all_goals omega
/-- the keywords, as the class reads them -/
def trO (J : List Nat) (p : Nat) : Option q_M2 := (lvO (J.getD p 0) 0).bind fun l => lfs J l (p + 1) []
theorem ir_tree {J : List Nat} {iE : Nat → Int32} {iC : Int32} (hJ : Rw 3000 iE iC J) (hy : q_By J) {p : Nat} (hp : p < 20000) (KW : Nat → Int64) (KT : Nat → Int32) :
    ∃ (res : Bool) (p' : Nat) (KW' : Nat → Int64) (KT' : Nat → Int32) (KC' : Int32) (m' : q_M2), D_ImageReader_readTree 3000 252 (nI p) iE iC KW KT (nI 0) res (nI p') KW' KT' KC' ∧ CW 252 KW' KT' KC' (codes m') ∧ Srt (codes m') ∧ res = (trO J p).isSome ∧ ∀ r, trO J p = some r → m' = r := by
  have hnx := ir_next hJ (p := p) (by omega)
  have hv := hy.getD p
  have hl := tr_leaves (x := J.getD p 0) (by omega)
  have hc0 : CW 252 KW KT (nI 0) (codes []) := ⟨rfl, by simp [codes], by omega, fun i hi => by simp [codes] at hi⟩
  unfold trO
  cases ho : lvO (J.getD p 0) 0 with
  | none =>
    rw [ho] at hl
    refine ⟨false, p + 1, KW, KT, nI 0, [], ⟨1, _, _, hnx, _, hl, ?_⟩, hc0, srt_nil, rfl, fun r hr => by cases hr⟩
    rw [T_ImageReader_readTree]
    simp (disch := omega) only [S_ImageReader_readTree, B_ImageReader_readTree_10, oI, q_lit, le_T, le_F, lt_T, lt_F, eq_T, eq_F, m1_lt, m1_le, lt_m1, le_m1, eq_m1, m1_eq, nI_add, nI_sub, nI_dec, nI_mul, nI_or, nI_and, nI_div, nI_mod, and_255, and_31, and_1, and_63, nI_shl, nI_shr, bI_F, bI_1, vp_T, cl_T, true_implies, false_implies, not_true_eq_false, not_false_eq_true, true_and, and_true, false_and, and_false, Bool.false_eq_true, Bool.true_eq_false, reduceCtorEq, implies_true]
  | some l =>
    rw [ho] at hl
    have hle := (lvO_le ho).1
    obtain ⟨res, p', KW', KT', KC', m', ⟨q, hq⟩, g1, g2, g3, g4⟩ := it0 hJ hy hle 0 (by omega) (p + 1) [] KW KT (nI 0) (by omega) (by simp) hc0 srt_nil
    exact ⟨res, p', KW', KT', KC', m', ⟨q, _, _, hnx, _, hl, hq⟩, g1, g2, g3, g4⟩
