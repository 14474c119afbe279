/-! Pure: links are resolved and bodies checked, the class. -/
def q_setB (bs : List (List Nat)) (t i x : Nat) : List (List Nat) := bs.set t ((bd bs t).set i x)
theorem setB_len (bs : List (List Nat)) (t i x : Nat) : (q_setB bs t i x).length = bs.length := by simp [q_setB]
theorem setB_bd {bs : List (List Nat)} {t : Nat} (ht : t < bs.length) (i x u : Nat) : bd (q_setB bs t i x) u = if u = t then (bd bs t).set i x else bd bs u := by
  simp only [q_setB, bd, List.getD_eq_getElem?_getD]
  by_cases h : u = t
  · subst h; rw [if_pos rfl, List.getElem?_set_self ht]; rfl
  · rw [if_neg h, List.getElem?_set_ne (Ne.symm h)]
theorem setB_bdl {bs : List (List Nat)} {t : Nat} (ht : t < bs.length) (i x u : Nat) : (bd (q_setB bs t i x) u).length = (bd bs u).length := by
  rw [setB_bd ht]; split
  · rename_i h; subst h; simp
  · rfl
theorem flat_set {bs : List (List Nat)} {t i : Nat} (ht : t < bs.length) (hi : i < (bd bs t).length) (x : Nat) : (q_setB bs t i x).flatten = bs.flatten.set (q_off bs t + i) x := by
  induction bs generalizing t with
  | nil => simp at ht
  | cons b bs ih =>
    cases t with
    | zero =>
      simp only [q_setB, bd, List.getD_cons_zero, List.set_cons_zero, List.flatten_cons, off_0, Nat.zero_add] at hi ⊢
      rw [List.set_append_left _ _ hi]
    | succ t =>
      rw [bd_cons_s] at hi
      have := ih (t := t) (by simpa using ht) hi
      simp only [q_setB, bd_cons_s, List.set_cons_succ, List.flatten_cons] at this ⊢
      rw [off_cons_s, this, Nat.add_assoc, List.set_append_right _ _ (by omega)]
      congr 2; omega
theorem setB_off {bs : List (List Nat)} {t : Nat} (ht : t < bs.length) (i x u : Nat) (hu : u ≤ bs.length) : q_off (q_setB bs t i x) u = q_off bs u := by
  induction u with
  | zero => simp [q_off]
  | succ u ih =>
    rw [off_succ (by rw [setB_len]; omega), off_succ (by omega), ih (by omega), setB_bdl ht]
/-- same lengths -/
def shp (bs bs' : List (List Nat)) : Prop := bs'.length = bs.length ∧ ∀ u, (bd bs' u).length = (bd bs u).length
theorem shp_off {bs bs' : List (List Nat)} (h : shp bs bs') (u : Nat) (hu : u ≤ bs.length) : q_off bs' u = q_off bs u := by
  induction u with
  | zero => simp [q_off]
  | succ u ih => rw [off_succ (by rw [h.1]; omega), off_succ (by omega), ih (by omega), h.2]
theorem shp_flat {bs bs' : List (List Nat)} (h : shp bs bs') : bs'.flatten.length = bs.flatten.length := by
  rw [← off_all, ← off_all, h.1]; exact shp_off h _ (Nat.le_refl _)
theorem shp_set {bs bs' : List (List Nat)} (h : shp bs bs') {t : Nat} (ht : t < bs.length) (i x : Nat) : shp bs (q_setB bs' t i x) := ⟨by rw [setB_len]; exact h.1, fun u => by rw [setB_bdl (by rw [h.1]; exact ht)]; exact h.2 u⟩
theorem getD_set {l : List Nat} {k : Nat} (hk : k < l.length) (x j : Nat) : (l.set k x).getD j 0 = if j = k then x else l.getD j 0 := by
  simp only [List.getD_eq_getElem?_getD]
  by_cases h : j = k
  · subst h; rw [if_pos rfl, List.getElem?_set_self hk]; rfl
  · rw [if_neg h, List.getElem?_set_ne (Ne.symm h)]
theorem rw_set {n : Nat} {E : Nat → Int32} {C : Int32} {L : List Nat} (h : Rw n E C L) {k : Nat} (hk : k < L.length) (x : Nat) : Rw n (upd E k (nI x)) C (L.set k x) := by
  refine ⟨by rw [List.length_set]; exact h.1, by rw [List.length_set]; exact h.2.1, h.2.2.1, fun j hj => ?_⟩
  rw [List.length_set] at hj
  rw [getD_set hk]
  by_cases h8 : j = k
  · subst h8; rw [upd_eq, if_pos rfl]
  · simp only [upd]; rw [if_neg h8, if_neg h8, h.2.2.2 j hj]
def rsv (L : List Nat) (ns : List (List Nat)) : List q_Lk → Nat × Nat × List (List Nat) → Nat × Nat × List (List Nat)
  | [], s => s
  | k :: r, (ft, fl, bs) => match nmAt (nmL L k) ns 0 with
    | none => rsv L ns r (if ft = 0 then 8 else ft, if ft = 0 then k.2.2.1 else fl, bs)
    | some t => rsv L ns r (ft, fl, q_setB bs k.2.2.2.1 k.2.2.2.2 t)
/-- links that a source gives -/
def LkOk (L : List Nat) (lk : List q_Lk) : Prop := ∀ k ∈ lk, q_Wd (nmL L k) ∧ (nmL L k).length ≤ 6
theorem getD_mem {α : Type} {l : List α} {i : Nat} (h : i < l.length) (d : α) : l.getD i d ∈ l := by
  rw [List.getD_eq_getElem?_getD, List.getElem?_eq_getElem h]; exact List.getElem_mem h
theorem drop_sk {l : List q_Lk} {i : Nat} (h : i < l.length) : l.drop i = l.getD i lk0 :: l.drop (i + 1) := by
  rw [List.drop_eq_getElem_cons h]
  simp [List.getD_eq_getElem?_getD, List.getElem?_eq_getElem h]
theorem t_rsv {L : List Nat} {c : q_CC} {a : q_Cs} (h : q_CI L c a) (hok : NmOk a.1) (hlk : LkOk L a.2.2.2.2.1) (i : Nat) (hi : i ≤ a.2.2.2.2.1.length) (ft fl : Nat) (hft : ft < 100) (bs : List (List Nat)) (hsh : shp a.2.1 bs) (BE : Nat → Int32) (hB : ft = 0 → Rw 2550 BE c.2.2.2.2.2.2.2.2.2.2.2.2.2.2.2.1 bs.flatten ∧ ∀ j, bs.flatten.getD j 0 < 2147483648) :
    ∃ BE', (∃ m, T_Compiler_resolveLinks 2550 c.2.1 c.2.2.1 c.2.2.2.1 c.2.2.2.2.1 c.2.2.2.2.2.2.2.2.2.2.2.2.1 c.2.2.2.2.2.2.2.2.2.2.2.2.2.2.2.1 c.2.2.2.2.2.2.2.2.2.2.2.2.2.2.2.2.2.2.2.2 (nI (rsv L a.1 (a.2.2.2.2.1.drop i) (ft, fl, bs)).1) (ftI (rsv L a.1 (a.2.2.2.2.1.drop i) (ft, fl, bs)).1 (rsv L a.1 (a.2.2.2.2.1.drop i) (ft, fl, bs)).2.1) BE' m 0 (nI i) (nI 0) (nI ft) (ftI ft fl) BE) ∧ (rsv L a.1 (a.2.2.2.2.1.drop i) (ft, fl, bs)).1 < 100 ∧ shp a.2.1 (rsv L a.1 (a.2.2.2.2.1.drop i) (ft, fl, bs)).2.2 ∧ ((rsv L a.1 (a.2.2.2.2.1.drop i) (ft, fl, bs)).1 = 0 → Rw 2550 BE' c.2.2.2.2.2.2.2.2.2.2.2.2.2.2.2.1 (rsv L a.1 (a.2.2.2.2.1.drop i) (ft, fl, bs)).2.2.flatten ∧ ∀ j, (rsv L a.1 (a.2.2.2.2.1.drop i) (ft, fl, bs)).2.2.flatten.getD j 0 < 2147483648) := by
  have hCB := h.2.2.2.2.2.2.2.1
  obtain ⟨n1, n2, n3, n4, n5, n6⟩ := h.2.2.2.2.2.2.2.2.1
  obtain ⟨l1, l2, l3⟩ := h.2.2.2.2.2.2.2.2.2
  have hT := hCB.1
  have hT10 := hCB.2.1
  have hBC := hCB.2.2.1.1
  have hBl := hCB.2.2.1.2.1
  rw [← n1] at hT
  by_cases h1 : i < a.2.2.2.2.1.length
  · obtain ⟨q1, q2, q3, q4, q5⟩ := l3 i h1
    have hk := hlk _ (getD_mem h1 lk0)
    rw [drop_sk h1]
    have hnm := cb_named (bN := c.2.2.2.2.2.2.2.2.2.2.2.2.1) (ns := a.1) (by omega) (fun t ht => (n3 t (by omega)).1) hok (w := nmL L (a.2.2.2.2.1.getD i lk0)) hk.1 (by omega)
    rw [← hT, ← q1] at hnm
    have hplace : q_off a.2.1 (a.2.2.2.2.1.getD i lk0).2.2.2.1 + (a.2.2.2.2.1.getD i lk0).2.2.2.2 < a.2.1.flatten.length := by
      have := off_end q4; omega
    have hrep : ∀ (x : Int32) (BE : Nat → Int32), D_Row_replace 2550 (nI (q_off a.2.1 (a.2.2.2.2.1.getD i lk0).2.2.2.1 + (a.2.2.2.2.1.getD i lk0).2.2.2.2)) x BE c.2.2.2.2.2.2.2.2.2.2.2.2.2.2.2.1 (upd BE (q_off a.2.1 (a.2.2.2.2.1.getD i lk0).2.2.2.1 + (a.2.2.2.2.1.getD i lk0).2.2.2.2) x) := by
      intro x BE
      refine ⟨true, ?_, ?_⟩
      · rw [hBC]; simp (disch := omega) only [D_Row_has, q_lit, le_T, le_F, lt_T, lt_F, eq_T, eq_F, m1_lt, m1_le, lt_m1, le_m1, eq_m1, m1_eq, nI_add, nI_sub, nI_dec, nI_mul, nI_or, nI_and, nI_div, nI_mod, and_255, and_31, and_1, and_63, nI_shl, nI_shr, bI_F, bI_1, vp_T, cl_T, true_implies, false_implies, not_true_eq_false, not_false_eq_true, true_and, and_true, false_and, and_false, Bool.false_eq_true, Bool.true_eq_false, reduceCtorEq, implies_true]
      · simp (disch := omega) only [q_lit, le_T, le_F, lt_T, lt_F, eq_T, eq_F, m1_lt, m1_le, lt_m1, le_m1, eq_m1, m1_eq, nI_add, nI_sub, nI_dec, nI_mul, nI_or, nI_and, nI_div, nI_mod, and_255, and_31, and_1, and_63, nI_shl, nI_shr, bI_F, bI_1, vp_T, cl_T, true_implies, false_implies, not_true_eq_false, not_false_eq_true, true_and, and_true, false_and, and_false, Bool.false_eq_true, Bool.true_eq_false, reduceCtorEq, implies_true]
    cases h2 : nmAt (nmL L (a.2.2.2.2.1.getD i lk0)) a.1 0 with
    | none =>
      rw [h2] at hnm
      have e : rsv L a.1 (a.2.2.2.2.1.getD i lk0 :: a.2.2.2.2.1.drop (i + 1)) (ft, fl, bs) = rsv L a.1 (a.2.2.2.2.1.drop (i + 1)) (if ft = 0 then 8 else ft, if ft = 0 then (a.2.2.2.2.1.getD i lk0).2.2.1 else fl, bs) := by simp only [rsv, h2]
      rw [e]
      obtain ⟨BE', ⟨m, hm⟩, d2⟩ := t_rsv h hok hlk (i + 1) h1 (if ft = 0 then 8 else ft) (if ft = 0 then (a.2.2.2.2.1.getD i lk0).2.2.1 else fl) (by split <;> omega) bs hsh (upd BE (q_off a.2.1 (a.2.2.2.2.1.getD i lk0).2.2.2.1 + (a.2.2.2.2.1.getD i lk0).2.2.2.2) (-nI 1)) (fun h9 => by split at h9 <;> omega)
      refine ⟨BE', ⟨m + 2, ?_⟩, d2⟩
      rw [l1] at hm ⊢
      simp (disch := omega) only [T_Compiler_resolveLinks, S_Compiler_resolveLinks, B_Compiler_resolveLinks_2, B_Compiler_resolveLinks_41, q2, q3, q_lit, le_T, le_F, lt_T, lt_F, eq_T, eq_F, m1_lt, m1_le, lt_m1, le_m1, eq_m1, m1_eq, nI_add, nI_sub, nI_dec, nI_mul, nI_or, nI_and, nI_div, nI_mod, and_255, and_31, and_1, and_63, nI_shl, nI_shr, bI_F, bI_1, vp_T, cl_T, true_implies, false_implies, not_true_eq_false, not_false_eq_true, true_and, and_true, false_and, and_false, Bool.false_eq_true, Bool.true_eq_false, reduceCtorEq, implies_true, q_lc_eq, q_lc_ge, q_lc_gt, q_lc_le, lN_or, lN_and, lN_shl, lN_shr, nI_L, lN_I, l_0]
      refine ⟨_, hnm, ?_⟩
      simp (disch := omega) only [oI, q_lit, le_T, le_F, lt_T, lt_F, eq_T, eq_F, m1_lt, m1_le, lt_m1, le_m1, eq_m1, m1_eq, nI_add, nI_sub, nI_dec, nI_mul, nI_or, nI_and, nI_div, nI_mod, and_255, and_31, and_1, and_63, nI_shl, nI_shr, bI_F, bI_1, vp_T, cl_T, true_implies, false_implies, not_true_eq_false, not_false_eq_true, true_and, and_true, false_and, and_false, Bool.false_eq_true, Bool.true_eq_false, reduceCtorEq, implies_true]
      exact ⟨_, _, co_blame (by omega) (by omega) hft, _, hrep _ _, hm⟩
    | some t =>
      rw [h2] at hnm
      have ht := nmAt_some h2
      have e : rsv L a.1 (a.2.2.2.2.1.getD i lk0 :: a.2.2.2.2.1.drop (i + 1)) (ft, fl, bs) = rsv L a.1 (a.2.2.2.2.1.drop (i + 1)) (ft, fl, q_setB bs (a.2.2.2.2.1.getD i lk0).2.2.2.1 (a.2.2.2.2.1.getD i lk0).2.2.2.2 t) := by simp only [rsv, h2]
      rw [e]
      have hq4 : (a.2.2.2.2.1.getD i lk0).2.2.2.1 < bs.length := by rw [hsh.1]; exact q4
      have hq5 : (a.2.2.2.2.1.getD i lk0).2.2.2.2 < (bd bs (a.2.2.2.2.1.getD i lk0).2.2.2.1).length := by rw [hsh.2]; exact q5
      obtain ⟨BE', ⟨m, hm⟩, d2⟩ := t_rsv h hok hlk (i + 1) h1 ft fl hft (q_setB bs (a.2.2.2.2.1.getD i lk0).2.2.2.1 (a.2.2.2.2.1.getD i lk0).2.2.2.2 t) (shp_set hsh q4 _ _) (upd BE (q_off a.2.1 (a.2.2.2.2.1.getD i lk0).2.2.2.1 + (a.2.2.2.2.1.getD i lk0).2.2.2.2) (nI t)) (fun h9 => by
        have hb := hB h9
        rw [flat_set hq4 hq5, shp_off hsh _ (by omega)]
        have hl9 := shp_flat hsh
        refine ⟨rw_set hb.1 (by omega) t, fun j => ?_⟩
        rw [getD_set (by omega)]
        split
        · omega
        · exact hb.2 j)
      refine ⟨BE', ⟨m + 2, ?_⟩, d2⟩
      rw [l1] at hm ⊢
      simp (disch := omega) only [T_Compiler_resolveLinks, S_Compiler_resolveLinks, B_Compiler_resolveLinks_2, B_Compiler_resolveLinks_41, q2, q3, q_lit, le_T, le_F, lt_T, lt_F, eq_T, eq_F, m1_lt, m1_le, lt_m1, le_m1, eq_m1, m1_eq, nI_add, nI_sub, nI_dec, nI_mul, nI_or, nI_and, nI_div, nI_mod, and_255, and_31, and_1, and_63, nI_shl, nI_shr, bI_F, bI_1, vp_T, cl_T, true_implies, false_implies, not_true_eq_false, not_false_eq_true, true_and, and_true, false_and, and_false, Bool.false_eq_true, Bool.true_eq_false, reduceCtorEq, implies_true, q_lc_eq, q_lc_ge, q_lc_gt, q_lc_le, lN_or, lN_and, lN_shl, lN_shr, nI_L, lN_I, l_0]
      refine ⟨_, hnm, ?_⟩
      simp (disch := omega) only [oI, q_lit, le_T, le_F, lt_T, lt_F, eq_T, eq_F, m1_lt, m1_le, lt_m1, le_m1, eq_m1, m1_eq, nI_add, nI_sub, nI_dec, nI_mul, nI_or, nI_and, nI_div, nI_mod, and_255, and_31, and_1, and_63, nI_shl, nI_shr, bI_F, bI_1, vp_T, cl_T, true_implies, false_implies, not_true_eq_false, not_false_eq_true, true_and, and_true, false_and, and_false, Bool.false_eq_true, Bool.true_eq_false, reduceCtorEq, implies_true]
      exact ⟨_, hrep _ _, hm⟩
  · refine ⟨BE, ⟨1, ?_⟩, ?_⟩
    · rw [List.drop_eq_nil_of_le (by omega), l1]
      simp (disch := omega) only [T_Compiler_resolveLinks, S_Compiler_resolveLinks, B_Compiler_resolveLinks_2, rsv, q_lit, le_T, le_F, lt_T, lt_F, eq_T, eq_F, m1_lt, m1_le, lt_m1, le_m1, eq_m1, m1_eq, nI_add, nI_sub, nI_dec, nI_mul, nI_or, nI_and, nI_div, nI_mod, and_255, and_31, and_1, and_63, nI_shl, nI_shr, bI_F, bI_1, vp_T, cl_T, true_implies, false_implies, not_true_eq_false, not_false_eq_true, true_and, and_true, false_and, and_false, Bool.false_eq_true, Bool.true_eq_false, reduceCtorEq, implies_true, q_lc_eq, q_lc_ge, q_lc_gt, q_lc_le, lN_or, lN_and, lN_shl, lN_shr, nI_L, lN_I, l_0]
    · rw [List.drop_eq_nil_of_le (by omega)]
      exact ⟨hft, hsh, hB⟩
termination_by a.2.2.2.2.1.length - i
decreasing_by all_goals omega
def q_chk (bs : List (List Nat)) (hs : List Nat) : Nat → Nat × Nat → Nat × Nat
  | 0, s => s
  | d + 1, (ft, fl) => q_chk bs hs d (if 255 < (bd bs (bs.length - (d + 1))).length then (if ft = 0 then 9 else ft, if ft = 0 then hs.getD (bs.length - (d + 1)) 0 else fl) else (ft, fl))
theorem t_chk {S BE : Nat → Int32} {BC T : Int32} {bs : List (List Nat)} (hT : T = nI bs.length) (h10 : bs.length ≤ 10) (hl : bs.flatten.length ≤ 2550) (hS : ∀ t, t ≤ bs.length → 0 < bs.length → S t = nI (q_off bs t)) {H : Nat → Int32} {hs : List Nat} (hH : ∀ t, t < bs.length → H t = nI (hs.getD t 0)) (d : Nat) (hd : d ≤ bs.length) (ft fl : Nat) (hft : ft < 100) :
    (∃ m, T_Compiler_checkBodies H S T (nI (q_chk bs hs d (ft, fl)).1) (ftI (q_chk bs hs d (ft, fl)).1 (q_chk bs hs d (ft, fl)).2) m (nI (bs.length - d)) (nI ft) (ftI ft fl)) ∧ (q_chk bs hs d (ft, fl)).1 < 100 := by
  cases d with
  | zero =>
    refine ⟨⟨1, ?_⟩, hft⟩
    subst hT
    simp (disch := omega) only [T_Compiler_checkBodies, S_Compiler_checkBodies, B_Compiler_checkBodies_2, Nat.sub_zero, q_chk, q_lit, le_T, le_F, lt_T, lt_F, eq_T, eq_F, m1_lt, m1_le, lt_m1, le_m1, eq_m1, m1_eq, nI_add, nI_sub, nI_dec, nI_mul, nI_or, nI_and, nI_div, nI_mod, and_255, and_31, and_1, and_63, nI_shl, nI_shr, bI_F, bI_1, vp_T, cl_T, true_implies, false_implies, not_true_eq_false, not_false_eq_true, true_and, and_true, false_and, and_false, Bool.false_eq_true, Bool.true_eq_false, reduceCtorEq, implies_true, q_lc_eq, q_lc_ge, q_lc_gt, q_lc_le, lN_or, lN_and, lN_shl, lN_shr, nI_L, lN_I, l_0]
  | succ d =>
    have ht : bs.length - (d + 1) < bs.length := by omega
    have hoe := off_end ht
    have hlen : D_Book_bodyLength (nI (bs.length - (d + 1))) S T (nI (bd bs (bs.length - (d + 1))).length) := by
      have e1 := hS (bs.length - (d + 1)) (by omega) (by omega)
      have e2 := hS (bs.length - (d + 1) + 1) (by omega) (by omega)
      rw [off_succ ht] at e2
      refine ⟨nI (q_off bs (bs.length - (d + 1)) + (bd bs (bs.length - (d + 1))).length), ⟨_, cb_has hT h10 (by omega), ?_⟩, nI (q_off bs (bs.length - (d + 1))), ⟨_, cb_has hT h10 (by omega), ?_⟩, ?_⟩
      · simp (disch := omega) only [ht, decide_true, e2, q_lit, le_T, le_F, lt_T, lt_F, eq_T, eq_F, m1_lt, m1_le, lt_m1, le_m1, eq_m1, m1_eq, nI_add, nI_sub, nI_dec, nI_mul, nI_or, nI_and, nI_div, nI_mod, and_255, and_31, and_1, and_63, nI_shl, nI_shr, bI_F, bI_1, vp_T, cl_T, true_implies, false_implies, not_true_eq_false, not_false_eq_true, true_and, and_true, false_and, and_false, Bool.false_eq_true, Bool.true_eq_false, reduceCtorEq, implies_true]
      · simp (disch := omega) only [ht, decide_true, e1, q_lit, le_T, le_F, lt_T, lt_F, eq_T, eq_F, m1_lt, m1_le, lt_m1, le_m1, eq_m1, m1_eq, nI_add, nI_sub, nI_dec, nI_mul, nI_or, nI_and, nI_div, nI_mod, and_255, and_31, and_1, and_63, nI_shl, nI_shr, bI_F, bI_1, vp_T, cl_T, true_implies, false_implies, not_true_eq_false, not_false_eq_true, true_and, and_true, false_and, and_false, Bool.false_eq_true, Bool.true_eq_false, reduceCtorEq, implies_true]
      · simp (disch := omega) only [q_lit, le_T, le_F, lt_T, lt_F, eq_T, eq_F, m1_lt, m1_le, lt_m1, le_m1, eq_m1, m1_eq, nI_add, nI_sub, nI_dec, nI_mul, nI_or, nI_and, nI_div, nI_mod, and_255, and_31, and_1, and_63, nI_shl, nI_shr, bI_F, bI_1, vp_T, cl_T, true_implies, false_implies, not_true_eq_false, not_false_eq_true, true_and, and_true, false_and, and_false, Bool.false_eq_true, Bool.true_eq_false, reduceCtorEq, implies_true]
    have e9 : bs.length - (d + 1) + 1 = bs.length - d := by omega
    by_cases h1 : 255 < (bd bs (bs.length - (d + 1))).length
    · have e : q_chk bs hs (d + 1) (ft, fl) = q_chk bs hs d (if ft = 0 then 9 else ft, if ft = 0 then hs.getD (bs.length - (d + 1)) 0 else fl) := by simp only [q_chk]; rw [if_pos h1]
      rw [e]
      obtain ⟨⟨m, hm⟩, hlt⟩ := t_chk (BE := BE) (BC := BC) hT h10 hl hS hH d (by omega) (if ft = 0 then 9 else ft) (if ft = 0 then hs.getD (bs.length - (d + 1)) 0 else fl) (by split <;> omega)
      refine ⟨⟨m + 1, ?_⟩, hlt⟩
      have eH := hH _ ht
      rw [hT] at hm hlen ⊢
      simp (disch := omega) only [T_Compiler_checkBodies, S_Compiler_checkBodies, B_Compiler_checkBodies_2, eH, q_lit, le_T, le_F, lt_T, lt_F, eq_T, eq_F, m1_lt, m1_le, lt_m1, le_m1, eq_m1, m1_eq, nI_add, nI_sub, nI_dec, nI_mul, nI_or, nI_and, nI_div, nI_mod, and_255, and_31, and_1, and_63, nI_shl, nI_shr, bI_F, bI_1, vp_T, cl_T, true_implies, false_implies, not_true_eq_false, not_false_eq_true, true_and, and_true, false_and, and_false, Bool.false_eq_true, Bool.true_eq_false, reduceCtorEq, implies_true, q_lc_eq, q_lc_ge, q_lc_gt, q_lc_le, lN_or, lN_and, lN_shl, lN_shr, nI_L, lN_I, l_0]
      refine ⟨_, hlen, ?_⟩
      simp (disch := omega) only [q_lit, le_T, le_F, lt_T, lt_F, eq_T, eq_F, m1_lt, m1_le, lt_m1, le_m1, eq_m1, m1_eq, nI_add, nI_sub, nI_dec, nI_mul, nI_or, nI_and, nI_div, nI_mod, and_255, and_31, and_1, and_63, nI_shl, nI_shr, bI_F, bI_1, vp_T, cl_T, true_implies, false_implies, not_true_eq_false, not_false_eq_true, true_and, and_true, false_and, and_false, Bool.false_eq_true, Bool.true_eq_false, reduceCtorEq, implies_true]
      rw [e9]
      exact ⟨_, _, co_blame (by omega) (by omega) hft, hm⟩
    · have e : q_chk bs hs (d + 1) (ft, fl) = q_chk bs hs d (ft, fl) := by simp only [q_chk]; rw [if_neg h1]
      rw [e]
      obtain ⟨⟨m, hm⟩, hlt⟩ := t_chk (BE := BE) (BC := BC) hT h10 hl hS hH d (by omega) ft fl hft
      refine ⟨⟨m + 1, ?_⟩, hlt⟩
      rw [hT] at hm hlen ⊢
      simp (disch := omega) only [T_Compiler_checkBodies, S_Compiler_checkBodies, B_Compiler_checkBodies_2, q_lit, le_T, le_F, lt_T, lt_F, eq_T, eq_F, m1_lt, m1_le, lt_m1, le_m1, eq_m1, m1_eq, nI_add, nI_sub, nI_dec, nI_mul, nI_or, nI_and, nI_div, nI_mod, and_255, and_31, and_1, and_63, nI_shl, nI_shr, bI_F, bI_1, vp_T, cl_T, true_implies, false_implies, not_true_eq_false, not_false_eq_true, true_and, and_true, false_and, and_false, Bool.false_eq_true, Bool.true_eq_false, reduceCtorEq, implies_true, q_lc_eq, q_lc_ge, q_lc_gt, q_lc_le, lN_or, lN_and, lN_shl, lN_shr, nI_L, lN_I, l_0]
      refine ⟨_, hlen, ?_⟩
      simp (disch := omega) only [q_lit, le_T, le_F, lt_T, lt_F, eq_T, eq_F, m1_lt, m1_le, lt_m1, le_m1, eq_m1, m1_eq, nI_add, nI_sub, nI_dec, nI_mul, nI_or, nI_and, nI_div, nI_mod, and_255, and_31, and_1, and_63, nI_shl, nI_shr, bI_F, bI_1, vp_T, cl_T, true_implies, false_implies, not_true_eq_false, not_false_eq_true, true_and, and_true, false_and, and_false, Bool.false_eq_true, Bool.true_eq_false, reduceCtorEq, implies_true]
      rw [e9]
      exact hm
