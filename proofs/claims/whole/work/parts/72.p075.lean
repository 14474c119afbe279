/-! Pure: the reference puts a word into its list. -/
abbrev mw (m : List (List Nat × Nat)) (i : Nat) : List Nat := (m.getD i ([], 0)).1
abbrev mb (m : List (List Nat × Nat)) (i : Nat) : Nat := (m.getD i ([], 0)).2
def codes (m : List (List Nat × Nat)) : List (Nat × Nat) := m.map fun e => (enc e.1, e.2)
def insW (w : List Nat) (b : Nat) : List (List Nat × Nat) → List (List Nat × Nat)
  | [] => [(w, b)]
  | e :: r => if enc e.1 < enc w then e :: insW w b r else if enc e.1 = enc w then (e.1, e.2 ||| b) :: r else (w, b) :: e :: r
theorem codes_ins (w : List Nat) (b : Nat) (m : List (List Nat × Nat)) : codes (insW w b m) = ins (enc w) b (codes m) := by
  induction m with
  | nil => rfl
  | cons e r ih =>
    simp only [insW, codes, List.map_cons, ins]
    split
    · simp only [List.map_cons]; congr 1
    · split
      · rename_i h; simp [h]
      · simp
theorem codes_len (m : List (List Nat × Nat)) : (codes m).length = m.length := by simp [codes]
theorem codes_ce (m : List (List Nat × Nat)) (i : Nat) : ce (codes m) i = enc (mw m i) := by
  simp only [ce, codes, mw, List.getD_eq_getElem?_getD, List.getElem?_map]
  cases m[i]? <;> simp [encA_nil]
theorem codes_cb (m : List (List Nat × Nat)) (i : Nat) : cb (codes m) i = mb m i := by
  simp only [cb, codes, mb, List.getD_eq_getElem?_getD, List.getElem?_map]
  cases m[i]? <;> simp
abbrev plw (w : List Nat) (m : List (List Nat × Nat)) : Nat := plc (enc w) (codes m)
theorem insW_hit {w : List Nat} {b : Nat} {m : List (List Nat × Nat)} (h : plw w m < m.length) (h1 : enc (mw m (plw w m)) = enc w) : insW w b m = m.set (plw w m) (mw m (plw w m), mb m (plw w m) ||| b) := by
  induction m with
  | nil => simp at h
  | cons e r ih =>
    by_cases h2 : enc e.1 < enc w
    · simp only [plw, codes, List.map_cons, plc, if_pos h2, List.length_cons, insW, List.set_cons_succ] at h h1 ⊢
      rw [ih (by simpa [plw, codes] using h) (by simpa [mw, plw, codes] using h1)]
      simp [mw, mb, plw, codes]
    · simp only [plw, codes, List.map_cons, plc, if_neg h2, insW] at h h1 ⊢
      have h3 : enc e.1 = enc w := by simpa [mw] using h1
      rw [if_pos h3]
      simp [mb, mw]
theorem insW_miss {w : List Nat} {b : Nat} {m : List (List Nat × Nat)} (h : ¬ (plw w m < m.length ∧ enc (mw m (plw w m)) = enc w)) : insW w b m = m.take (plw w m) ++ (w, b) :: m.drop (plw w m) := by
  induction m with
  | nil => simp [insW]
  | cons e r ih =>
    by_cases h2 : enc e.1 < enc w
    · simp only [plw, codes, List.map_cons, plc, if_pos h2, List.length_cons, insW, List.take_succ_cons, List.drop_succ_cons, List.cons_append] at h ⊢
      rw [ih (fun h3 => h ⟨by simpa [plw, codes] using h3.1, by simpa [mw, plw, codes] using h3.2⟩)]
      simp [plw, codes]
    · simp only [plw, codes, List.map_cons, plc, if_neg h2, insW, List.length_cons] at h ⊢
      have h3 : ¬ enc e.1 = enc w := fun h3 => h ⟨by omega, by simpa [mw] using h3⟩
      rw [if_neg h3]
      simp
/-- the reference's list: letters st apart -/
def MW (st cap : Nat) (Lt Ln Bt : Nat → Int32) (C : Int32) (m : List (List Nat × Nat)) : Prop := C = nI m.length ∧ m.length ≤ cap ∧ ∀ i, i < m.length → Ln i = nI (mw m i).length ∧ Bt i = nI (mb m i) ∧ q_Wd (mw m i) ∧ (mw m i).length ≤ st ∧ ∀ j, j < (mw m i).length → Lt (st * i + j) = nI ((mw m i).getD j 0)
/-- letters moved up by st, from a on, those below hi -/
def shl (st : Nat) (Lt : Nat → Int32) (a hi : Nat) : Nat → Int32 := fun i => if a + st ≤ i ∧ i < hi + st then Lt (i - st) else Lt i
theorem shl_step {st : Nat} {Lt : Nat → Int32} {a hi : Nat} (h : a < hi) (hs : 0 < st) : shl st (upd Lt (hi - 1 + st) (Lt (hi - 1))) a (hi - 1) = shl st Lt a hi := by
  funext i
  unfold shl upd
  by_cases h1 : a + st ≤ i ∧ i < hi - 1 + st
  · rw [if_pos h1, if_neg (by omega), if_pos (by omega)]
  · rw [if_neg h1]
    by_cases h2 : i = hi - 1 + st
    · rw [if_pos h2, if_pos (by omega)]; congr 1; omega
    · rw [if_neg h2, if_neg (by omega)]
theorem shl_0 {st : Nat} {Lt : Nat → Int32} {a : Nat} : shl st Lt a a = Lt := by
  funext i
  unfold shl
  rw [if_neg (by omega)]
/-- the hand's letters from k on written behind a -/
def putw (Lt : Nat → Int32) (a : Nat) (w : List Nat) (k : Nat) : Nat → Int32 := fun i => if a + k ≤ i ∧ i < a + w.length then nI (w.getD (i - a) 0) else Lt i
theorem putw_step {Lt : Nat → Int32} {a : Nat} {w : List Nat} {k : Nat} (h : k < w.length) : putw (upd Lt (a + k) (nI (w.getD k 0))) a w (k + 1) = putw Lt a w k := by
  funext i
  unfold putw upd
  by_cases h1 : a + (k + 1) ≤ i ∧ i < a + w.length
  · rw [if_pos h1, if_pos (by omega)]
  · rw [if_neg h1]
    by_cases h2 : i = a + k
    · rw [if_pos h2, if_pos (by omega)]; congr 2; omega
    · rw [if_neg h2, if_neg (by omega)]
theorem putw_end {Lt : Nat → Int32} {a : Nat} {w : List Nat} {k : Nat} (h : w.length ≤ k) : putw Lt a w k = Lt := by
  funext i
  unfold putw
  rw [if_neg (by omega)]
theorem m1_sub {a : Nat} : nI 0 - nI 1 = -nI 1 := by decide +kernel
theorem t5_addKeyword {H : Nat → Int32} {HL : Int32} {w : List Nat} (hh : q_Hd H HL w) (hwl : w.length ≤ 8) {p : Nat} (b : Int32) (c : Nat) (Ln Bt : Nat → Int32) (hp : p < 250) (k : Nat) (hk : k ≤ w.length) (Lt : Nat → Int32) : ∃ q, T_Model_addKeyword HL H (nI (c + 1)) (putw Lt (8 * p) w k) (upd Ln p HL) (upd Bt p b) q 5 b (nI p) (nI k) (nI c) Lt Ln Bt := by
  obtain ⟨rfl, hh1, hh2⟩ := hh
  by_cases h : k < w.length
  · obtain ⟨q, hq⟩ := t5_addKeyword ⟨rfl, hh1, hh2⟩ hwl b c Ln Bt hp (k + 1) (by omega) (upd Lt (8 * p + k) (nI (w.getD k 0)))
    rw [putw_step h] at hq
    have e := hh2 k h
    refine ⟨q + 1, ?_⟩
    simp (disch := omega) only [T_Model_addKeyword, S_Model_addKeyword, B_Model_addKeyword_166, e, q_lit, le_T, le_F, lt_T, lt_F, eq_T, eq_F, m1_lt, m1_le, lt_m1, le_m1, eq_m1, m1_eq, nI_add, nI_sub, nI_dec, nI_mul, nI_or, nI_and, nI_div, nI_mod, and_255, and_31, and_1, and_63, nI_shl, nI_shr, bI_F, bI_1, vp_T, cl_T, true_implies, false_implies, not_true_eq_false, not_false_eq_true, true_and, and_true, false_and, and_false, Bool.false_eq_true, Bool.true_eq_false, reduceCtorEq, implies_true, q_lc_eq, q_lc_ge, q_lc_gt, q_lc_le, lN_or, lN_and, lN_shl, lN_shr, nI_L, lN_I, l_0]
    simpa [q_lit] using hq
  · refine ⟨1, ?_⟩
    rw [putw_end (by omega)]
    simp (disch := omega) only [T_Model_addKeyword, S_Model_addKeyword, B_Model_addKeyword_166, q_lit, le_T, le_F, lt_T, lt_F, eq_T, eq_F, m1_lt, m1_le, lt_m1, le_m1, eq_m1, m1_eq, nI_add, nI_sub, nI_dec, nI_mul, nI_or, nI_and, nI_div, nI_mod, and_255, and_31, and_1, and_63, nI_shl, nI_shr, bI_F, bI_1, vp_T, cl_T, true_implies, false_implies, not_true_eq_false, not_false_eq_true, true_and, and_true, false_and, and_false, Bool.false_eq_true, Bool.true_eq_false, reduceCtorEq, implies_true, q_lc_eq, q_lc_ge, q_lc_gt, q_lc_le, lN_or, lN_and, lN_shl, lN_shr, nI_L, lN_I, l_0]
termination_by w.length - k
decreasing_by all_goals omega
theorem t4_addKeyword {H : Nat → Int32} {HL : Int32} {w : List Nat} (hh : q_Hd H HL w) (hwl : w.length ≤ 8) {p : Nat} (b : Int32) (c : Nat) (Lt : Nat → Int32) (hp : p < 250) (k : Nat) (hk : p ≤ k) (hk2 : k < 250) (Ln Bt : Nat → Int32) : ∃ q, T_Model_addKeyword HL H (nI (c + 1)) (putw Lt (8 * p) w 0) (shf Ln p HL k) (shf Bt p b k) q 4 b (nI p) (nI k) (nI c) Lt Ln Bt := by
  by_cases h : p < k
  · obtain ⟨q, hq⟩ := t4_addKeyword hh hwl b c Lt hp (k - 1) (by omega) (by omega) (upd Ln k (Ln (k - 1))) (upd Bt k (Bt (k - 1)))
    rw [shf_step h, shf_step h] at hq
    refine ⟨q + 1, ?_⟩
    simp (disch := omega) only [T_Model_addKeyword, S_Model_addKeyword, B_Model_addKeyword_125, q_lit, le_T, le_F, lt_T, lt_F, eq_T, eq_F, m1_lt, m1_le, lt_m1, le_m1, eq_m1, m1_eq, nI_add, nI_sub, nI_dec, nI_mul, nI_or, nI_and, nI_div, nI_mod, and_255, and_31, and_1, and_63, nI_shl, nI_shr, bI_F, bI_1, vp_T, cl_T, true_implies, false_implies, not_true_eq_false, not_false_eq_true, true_and, and_true, false_and, and_false, Bool.false_eq_true, Bool.true_eq_false, reduceCtorEq, implies_true, q_lc_eq, q_lc_ge, q_lc_gt, q_lc_le, lN_or, lN_and, lN_shl, lN_shr, nI_L, lN_I, l_0]
    exact hq
  · have hk3 : k = p := by omega
    subst hk3
    obtain ⟨q, hq⟩ := t5_addKeyword hh hwl (p := k) b c Ln Bt hp 0 (by omega) Lt
    refine ⟨q + 1, ?_⟩
    rw [← shf_0, ← shf_0]
    simp (disch := omega) only [T_Model_addKeyword, S_Model_addKeyword, B_Model_addKeyword_125, q_lit, le_T, le_F, lt_T, lt_F, eq_T, eq_F, m1_lt, m1_le, lt_m1, le_m1, eq_m1, m1_eq, nI_add, nI_sub, nI_dec, nI_mul, nI_or, nI_and, nI_div, nI_mod, and_255, and_31, and_1, and_63, nI_shl, nI_shr, bI_F, bI_1, vp_T, cl_T, true_implies, false_implies, not_true_eq_false, not_false_eq_true, true_and, and_true, false_and, and_false, Bool.false_eq_true, Bool.true_eq_false, reduceCtorEq, implies_true, q_lc_eq, q_lc_ge, q_lc_gt, q_lc_le, lN_or, lN_and, lN_shl, lN_shr, nI_L, lN_I, l_0]
    exact hq
termination_by k
decreasing_by all_goals omega
theorem t3_addKeyword {H : Nat → Int32} {HL : Int32} {w : List Nat} (hh : q_Hd H HL w) (hwl : w.length ≤ 8) {p c : Nat} (b : Int32) (hp : p ≤ c) (hc : c < 250) (Ln Bt : Nat → Int32) (hi : Nat) (hk : 8 * p ≤ hi) (hk2 : hi ≤ 8 * c) (Lt : Nat → Int32) : ∃ q, T_Model_addKeyword HL H (nI (c + 1)) (putw (shl 8 Lt (8 * p) hi) (8 * p) w 0) (shf Ln p HL c) (shf Bt p b c) q 3 b (nI p) (nI hi - nI 1) (nI c) Lt Ln Bt := by
  by_cases h : 8 * p < hi
  · obtain ⟨q, hq⟩ := t3_addKeyword hh hwl b hp hc Ln Bt (hi - 1) (by omega) (by omega) (upd Lt (hi - 1 + 8) (Lt (hi - 1)))
    rw [shl_step h (by omega)] at hq
    refine ⟨q + 1, ?_⟩
    simp (disch := omega) only [T_Model_addKeyword, S_Model_addKeyword, B_Model_addKeyword_91, q_lit, le_T, le_F, lt_T, lt_F, eq_T, eq_F, m1_lt, m1_le, lt_m1, le_m1, eq_m1, m1_eq, nI_add, nI_sub, nI_dec, nI_mul, nI_or, nI_and, nI_div, nI_mod, and_255, and_31, and_1, and_63, nI_shl, nI_shr, bI_F, bI_1, vp_T, cl_T, true_implies, false_implies, not_true_eq_false, not_false_eq_true, true_and, and_true, false_and, and_false, Bool.false_eq_true, Bool.true_eq_false, reduceCtorEq, implies_true, q_lc_eq, q_lc_ge, q_lc_gt, q_lc_le, lN_or, lN_and, lN_shl, lN_shr, nI_L, lN_I, l_0]
    rw [Int32.sub_eq_add_neg] at hq
    simpa [q_lit] using hq
  · have hk3 : hi = 8 * p := by omega
    subst hk3
    obtain ⟨q, hq⟩ := t4_addKeyword hh hwl (p := p) b c Lt (by omega) c hp hc Ln Bt
    refine ⟨q + 1, ?_⟩
    rw [shl_0]
    have e : (nI (8 * p) - nI 1 < nI 8 * nI p) = True := by
      by_cases h0 : p = 0
      · subst h0
        rw [Nat.mul_zero, m1_sub (a := 0), nI_mul]; exact m1_lt (by omega)
      · rw [nI_mul, nI_sub (by omega)]; exact lt_T (by omega) (by omega)
    have e2 : B_Model_addKeyword_91 HL H (nI (c + 1)) (putw Lt (8 * p) w 0) (shf Ln p HL c) (shf Bt p b c) (T_Model_addKeyword HL H (nI (c + 1)) (putw Lt (8 * p) w 0) (shf Ln p HL c) (shf Bt p b c) q) b (nI p) (nI (8 * p) - nI 1) (nI c) Lt Ln Bt := ⟨fun _ => hq, fun h9 => absurd (e ▸ trivial) h9⟩
    exact e2
termination_by hi
decreasing_by all_goals omega
theorem t0_addKeyword {H : Nat → Int32} {HL : Int32} {w : List Nat} (hh : q_Hd H HL w) (hw : q_Wd w) (hwl : w.length ≤ 8) {Lt Ln Bt : Nat → Int32} {C : Int32} {m : List (List Nat × Nat)} (hm : MW 8 250 Lt Ln Bt C m) {b : Nat} (C' : Int32) (Lt' Ln' Bt' : Nat → Int32) (h1 : ∃ q, T_Model_addKeyword HL H C' Lt' Ln' Bt' q 1 (nI b) (nI (plw w m)) 0 C Lt Ln Bt) (k : Nat) (hk : k ≤ plw w m) : ∃ q, T_Model_addKeyword HL H C' Lt' Ln' Bt' q 0 (nI b) (nI k) 0 C Lt Ln Bt := by
  have hpl : plw w m ≤ m.length := by rw [← codes_len m]; exact plc_le (enc w) (codes m)
  obtain ⟨rfl, hl, hm2⟩ := hm
  by_cases h : k < plw w m
  · obtain ⟨q, hq⟩ := t0_addKeyword hh hw hwl ⟨rfl, hl, hm2⟩ C' Lt' Ln' Bt' h1 (k + 1) (by omega)
    have hk2 := hm2 k (by omega)
    have h3 := plc_lt h
    rw [codes_ce] at h3
    refine ⟨q + 1, ?_⟩
    simp (disch := omega) only [T_Model_addKeyword, S_Model_addKeyword, B_Model_addKeyword_2, hk2.1, q_lit, le_T, le_F, lt_T, lt_F, eq_T, eq_F, m1_lt, m1_le, lt_m1, le_m1, eq_m1, m1_eq, nI_add, nI_sub, nI_dec, nI_mul, nI_or, nI_and, nI_div, nI_mod, and_255, and_31, and_1, and_63, nI_shl, nI_shr, bI_F, bI_1, vp_T, cl_T, true_implies, false_implies, not_true_eq_false, not_false_eq_true, true_and, and_true, false_and, and_false, Bool.false_eq_true, Bool.true_eq_false, reduceCtorEq, implies_true, q_lc_eq, q_lc_ge, q_lc_gt, q_lc_le, lN_or, lN_and, lN_shl, lN_shr, nI_L, lN_I, l_0]
    refine ⟨_, mo_ag_keyLetters hh hw hk2.2.2.1 (at0 := 8 * k) (by have := hk2.2.2.2.1; omega) hk2.2.2.2.2, ?_⟩
    rw [agn_le hw hk2.2.2.1 (by have := hk2.2.2.2.1; omega) (Or.inl (by omega))]
    refine ⟨fun h9 => absurd h9 (by omega), fun _ => ?_⟩
    simpa [q_lit] using hq
  · have hk3 : k = plw w m := by omega
    subst hk3
    obtain ⟨q, hq⟩ := h1
    refine ⟨q + 1, ?_⟩
    by_cases h2 : plw w m < m.length
    · have hk2 := hm2 _ h2
      have h3 := plc_ge (x := enc w) (l := codes m) (by rw [codes_len]; exact h2)
      rw [codes_ce] at h3
      simp (disch := omega) only [T_Model_addKeyword, S_Model_addKeyword, B_Model_addKeyword_2, hk2.1, q_lit, le_T, le_F, lt_T, lt_F, eq_T, eq_F, m1_lt, m1_le, lt_m1, le_m1, eq_m1, m1_eq, nI_add, nI_sub, nI_dec, nI_mul, nI_or, nI_and, nI_div, nI_mod, and_255, and_31, and_1, and_63, nI_shl, nI_shr, bI_F, bI_1, vp_T, cl_T, true_implies, false_implies, not_true_eq_false, not_false_eq_true, true_and, and_true, false_and, and_false, Bool.false_eq_true, Bool.true_eq_false, reduceCtorEq, implies_true, q_lc_eq, q_lc_ge, q_lc_gt, q_lc_le, lN_or, lN_and, lN_shl, lN_shr, nI_L, lN_I, l_0]
      refine ⟨_, mo_ag_keyLetters hh hw hk2.2.2.1 (at0 := 8 * plw w m) (by have := hk2.2.2.2.1; omega) hk2.2.2.2.2, ?_⟩
      rw [agn_le hw hk2.2.2.1 (by have := hk2.2.2.2.1; omega) (Or.inl (by omega))]
      refine ⟨fun _ => ?_, fun h9 => absurd h3 h9⟩
      simpa [q_lit] using hq
    · simp (disch := omega) only [T_Model_addKeyword, S_Model_addKeyword, B_Model_addKeyword_2, q_lit, le_T, le_F, lt_T, lt_F, eq_T, eq_F, m1_lt, m1_le, lt_m1, le_m1, eq_m1, m1_eq, nI_add, nI_sub, nI_dec, nI_mul, nI_or, nI_and, nI_div, nI_mod, and_255, and_31, and_1, and_63, nI_shl, nI_shr, bI_F, bI_1, vp_T, cl_T, true_implies, false_implies, not_true_eq_false, not_false_eq_true, true_and, and_true, false_and, and_false, Bool.false_eq_true, Bool.true_eq_false, reduceCtorEq, implies_true, q_lc_eq, q_lc_ge, q_lc_gt, q_lc_le, lN_or, lN_and, lN_shl, lN_shr, nI_L, lN_I, l_0]
      simpa [q_lit] using hq
termination_by plw w m - k
decreasing_by all_goals omega
theorem mo_addKeyword {H : Nat → Int32} {HL : Int32} {w : List Nat} (hh : q_Hd H HL w) (hw : q_Wd w) (hwl : w.length ≤ 8) {Lt Ln Bt : Nat → Int32} {C : Int32} {m : List (List Nat × Nat)} (hm : MW 8 250 Lt Ln Bt C m) (hml : m.length < 250) (b : Nat) :
    ∃ C' Lt' Ln' Bt', D_Model_addKeyword (nI b) C Lt Ln Bt HL H C' Lt' Ln' Bt' ∧ MW 8 250 Lt' Ln' Bt' C' (insW w b m) := by
  have hpl : plw w m ≤ m.length := by rw [← codes_len m]; exact plc_le (enc w) (codes m)
  have hm' := hm
  obtain ⟨rfl, hl, hm2⟩ := hm
  by_cases h1 : plw w m < m.length ∧ enc (mw m (plw w m)) = enc w
  · have hk2 := hm2 _ h1.1
    have hlt := h1.1
    refine ⟨nI m.length, Lt, Ln, upd Bt (plw w m) (nI (mb m (plw w m) ||| b)), ?_, ?_⟩
    · have := t0_addKeyword hh hw hwl hm' (b := b) (nI m.length) Lt Ln (upd Bt (plw w m) (nI (mb m (plw w m) ||| b))) ⟨1, by
        simp (disch := omega) only [T_Model_addKeyword, S_Model_addKeyword, B_Model_addKeyword_37, hk2.1, hk2.2.1, q_lit, le_T, le_F, lt_T, lt_F, eq_T, eq_F, m1_lt, m1_le, lt_m1, le_m1, eq_m1, m1_eq, nI_add, nI_sub, nI_dec, nI_mul, nI_or, nI_and, nI_div, nI_mod, and_255, and_31, and_1, and_63, nI_shl, nI_shr, bI_F, bI_1, vp_T, cl_T, true_implies, false_implies, not_true_eq_false, not_false_eq_true, true_and, and_true, false_and, and_false, Bool.false_eq_true, Bool.true_eq_false, reduceCtorEq, implies_true, q_lc_eq, q_lc_ge, q_lc_gt, q_lc_le, lN_or, lN_and, lN_shl, lN_shr, nI_L, lN_I, l_0]
        refine ⟨_, mo_ag_keyLetters hh hw hk2.2.2.1 (at0 := 8 * plw w m) (by have := hk2.2.2.2.1; omega) hk2.2.2.2.2, ?_⟩
        rw [agn_eq hw hk2.2.2.1 (by have := hk2.2.2.2.1; omega) (Or.inl (by omega))]
        exact fun h9 => absurd h1.2.symm h9⟩ 0 (Nat.zero_le _)
      simpa [D_Model_addKeyword, q_lit] using this
    · rw [insW_hit h1.1 h1.2]
      refine ⟨by simp, by simp; omega, fun i hi => ?_⟩
      simp only [List.length_set] at hi
      by_cases h3 : i = plw w m
      · subst h3
        simp only [mw, mb, List.getD_eq_getElem?_getD, List.getElem?_set_self hi, upd, if_true, Option.getD_some] at hk2 ⊢
        exact ⟨hk2.1, trivial, hk2.2.2⟩
      · have e2 := hm2 i hi
        simp only [mw, mb, List.getD_eq_getElem?_getD, List.getElem?_set_ne (Ne.symm h3), upd, h3, if_false] at e2 ⊢
        exact e2
  · refine ⟨nI (m.length + 1), putw (shl 8 Lt (8 * plw w m) (8 * m.length)) (8 * plw w m) w 0, shf Ln (plw w m) HL m.length, shf Bt (plw w m) (nI b) m.length, ?_, ?_⟩
    · obtain ⟨q, hq⟩ := t3_addKeyword hh hwl (p := plw w m) (c := m.length) (nI b) hpl hml Ln Bt (8 * m.length) (by omega) (Nat.le_refl _) Lt
      have h2 : ∃ q, T_Model_addKeyword HL H (nI (m.length + 1)) (putw (shl 8 Lt (8 * plw w m) (8 * m.length)) (8 * plw w m) w 0) (shf Ln (plw w m) HL m.length) (shf Bt (plw w m) (nI b) m.length) q 1 (nI b) (nI (plw w m)) 0 (nI m.length) Lt Ln Bt := by
        have e2 : S_Model_addKeyword HL H (nI (m.length + 1)) (putw (shl 8 Lt (8 * plw w m) (8 * m.length)) (8 * plw w m) w 0) (shf Ln (plw w m) HL m.length) (shf Bt (plw w m) (nI b) m.length) (T_Model_addKeyword HL H (nI (m.length + 1)) (putw (shl 8 Lt (8 * plw w m) (8 * m.length)) (8 * plw w m) w 0) (shf Ln (plw w m) HL m.length) (shf Bt (plw w m) (nI b) m.length) q) 2 (nI b) (nI (plw w m)) 0 (nI m.length) Lt Ln Bt := by
          simp only [S_Model_addKeyword, B_Model_addKeyword_81]
          rw [show ((8 : Int32) * nI m.length - 1) = nI (8 * m.length) - nI 1 by rw [← nI_mul]; rfl]
          exact hq
        refine ⟨q + 2, ?_⟩
        by_cases h5 : plw w m < m.length
        · have hk2 := hm2 _ h5
          simp only [T_Model_addKeyword]
          have e3 : (S_Model_addKeyword HL H (nI (m.length + 1)) (putw (shl 8 Lt (8 * plw w m) (8 * m.length)) (8 * plw w m) w 0) (shf Ln (plw w m) HL m.length) (shf Bt (plw w m) (nI b) m.length) (S_Model_addKeyword HL H (nI (m.length + 1)) (putw (shl 8 Lt (8 * plw w m) (8 * m.length)) (8 * plw w m) w 0) (shf Ln (plw w m) HL m.length) (shf Bt (plw w m) (nI b) m.length) (T_Model_addKeyword HL H (nI (m.length + 1)) (putw (shl 8 Lt (8 * plw w m) (8 * m.length)) (8 * plw w m) w 0) (shf Ln (plw w m) HL m.length) (shf Bt (plw w m) (nI b) m.length) q)) 1 (nI b) (nI (plw w m)) 0 (nI m.length) Lt Ln Bt) := by
            refine ⟨fun _ => e2, fun _ => ⟨vp_in_nI (by omega) (by omega), _, by rw [nI_clamp (by omega), hk2.1, show (8 : Int32) * nI (plw w m) = nI (8 * plw w m) from nI_mul _ _]; exact mo_ag_keyLetters hh hw hk2.2.2.1 (at0 := 8 * plw w m) (by have := hk2.2.2.2.1; omega) hk2.2.2.2.2, ?_⟩⟩
            rw [show (0 : Int32) = nI 0 from rfl, agn_eq hw hk2.2.2.1 (by have := hk2.2.2.2.1; omega) (Or.inl (by omega))]
            exact ⟨fun h9 => absurd ⟨h5, h9.symm⟩ h1, fun _ => e2⟩
          exact e3
        · refine ⟨fun _ => e2, fun h9 => ?_⟩
          exfalso; revert h9; simp (disch := omega) only [q_lit, le_T, le_F, lt_T, lt_F, eq_T, eq_F, m1_lt, m1_le, lt_m1, le_m1, eq_m1, m1_eq, nI_add, nI_sub, nI_dec, nI_mul, nI_or, nI_and, nI_div, nI_mod, and_255, and_31, and_1, and_63, nI_shl, nI_shr, bI_F, bI_1, vp_T, cl_T, true_implies, false_implies, not_true_eq_false, not_false_eq_true, true_and, and_true, false_and, and_false, Bool.false_eq_true, Bool.true_eq_false, reduceCtorEq, implies_true]
      have := t0_addKeyword hh hw hwl hm' (b := b) _ _ _ _ h2 0 (Nat.zero_le _)
      simpa [D_Model_addKeyword, q_lit] using this
    · rw [insW_miss h1]
      refine ⟨by rw [mid_len _ _ _ hpl], by rw [mid_len _ _ _ hpl]; omega, fun i hi => ?_⟩
      rw [mid_len _ _ _ hpl] at hi
      simp only [mw, mb]
      rw [mid_get _ _ _ _ hpl]
      by_cases h2 : i < plw w m
      · have e := hm2 i (by omega)
        simp only [if_pos h2, shf]
        refine ⟨e.1, e.2.1, e.2.2.1, e.2.2.2.1, fun j hj => ?_⟩
        have := e.2.2.2.1
        rw [← e.2.2.2.2 j hj]
        unfold putw shl
        have hj' : j < 8 := by simp only [mw] at this; omega
        rw [if_neg (by omega), if_neg (by omega)]
      · simp only [if_neg h2, shf]
        by_cases h3 : i = plw w m
        · simp only [if_pos h3]
          refine ⟨hh.1, trivial, hw, hwl, fun j hj => ?_⟩
          unfold putw
          rw [if_pos (by omega)]
          congr 2; omega
        · have e := hm2 (i - 1) (by omega)
          simp only [if_neg h3, if_pos (show i ≤ m.length by omega)]
          refine ⟨e.1, e.2.1, e.2.2.1, e.2.2.2.1, fun j hj => ?_⟩
          have := e.2.2.2.1
          rw [← e.2.2.2.2 j hj]
          unfold putw shl
          have hj' : j < 8 := by simp only [mw] at this; omega
          rw [if_neg (by omega), if_pos (by omega)]
          congr 1; omega
theorem t5_addWord {H : Nat → Int32} {HL : Int32} {w : List Nat} (hh : q_Hd H HL w) (hwl : w.length ≤ 12) {p : Nat} (b : Int32) (c : Nat) (Ln Bt : Nat → Int32) (hp : p < 1280) (k : Nat) (hk : k ≤ w.length) (Lt : Nat → Int32) : ∃ q, T_Model_addWord HL H (nI (c + 1)) (putw Lt (12 * p) w k) (upd Ln p HL) (upd Bt p b) q 5 b (nI p) (nI k) (nI c) Lt Ln Bt := by
  obtain ⟨rfl, hh1, hh2⟩ := hh
  by_cases h : k < w.length
  · obtain ⟨q, hq⟩ := t5_addWord ⟨rfl, hh1, hh2⟩ hwl b c Ln Bt hp (k + 1) (by omega) (upd Lt (12 * p + k) (nI (w.getD k 0)))
    rw [putw_step h] at hq
    have e := hh2 k h
    refine ⟨q + 1, ?_⟩
    simp (disch := omega) only [T_Model_addWord, S_Model_addWord, B_Model_addWord_166, e, q_lit, le_T, le_F, lt_T, lt_F, eq_T, eq_F, m1_lt, m1_le, lt_m1, le_m1, eq_m1, m1_eq, nI_add, nI_sub, nI_dec, nI_mul, nI_or, nI_and, nI_div, nI_mod, and_255, and_31, and_1, and_63, nI_shl, nI_shr, bI_F, bI_1, vp_T, cl_T, true_implies, false_implies, not_true_eq_false, not_false_eq_true, true_and, and_true, false_and, and_false, Bool.false_eq_true, Bool.true_eq_false, reduceCtorEq, implies_true, q_lc_eq, q_lc_ge, q_lc_gt, q_lc_le, lN_or, lN_and, lN_shl, lN_shr, nI_L, lN_I, l_0]
    simpa [q_lit] using hq
  · refine ⟨1, ?_⟩
    rw [putw_end (by omega)]
    simp (disch := omega) only [T_Model_addWord, S_Model_addWord, B_Model_addWord_166, q_lit, le_T, le_F, lt_T, lt_F, eq_T, eq_F, m1_lt, m1_le, lt_m1, le_m1, eq_m1, m1_eq, nI_add, nI_sub, nI_dec, nI_mul, nI_or, nI_and, nI_div, nI_mod, and_255, and_31, and_1, and_63, nI_shl, nI_shr, bI_F, bI_1, vp_T, cl_T, true_implies, false_implies, not_true_eq_false, not_false_eq_true, true_and, and_true, false_and, and_false, Bool.false_eq_true, Bool.true_eq_false, reduceCtorEq, implies_true, q_lc_eq, q_lc_ge, q_lc_gt, q_lc_le, lN_or, lN_and, lN_shl, lN_shr, nI_L, lN_I, l_0]
termination_by w.length - k
decreasing_by all_goals omega
theorem t4_addWord {H : Nat → Int32} {HL : Int32} {w : List Nat} (hh : q_Hd H HL w) (hwl : w.length ≤ 12) {p : Nat} (b : Int32) (c : Nat) (Lt : Nat → Int32) (hp : p < 1280) (k : Nat) (hk : p ≤ k) (hk2 : k < 1280) (Ln Bt : Nat → Int32) : ∃ q, T_Model_addWord HL H (nI (c + 1)) (putw Lt (12 * p) w 0) (shf Ln p HL k) (shf Bt p b k) q 4 b (nI p) (nI k) (nI c) Lt Ln Bt := by
  by_cases h : p < k
  · obtain ⟨q, hq⟩ := t4_addWord hh hwl b c Lt hp (k - 1) (by omega) (by omega) (upd Ln k (Ln (k - 1))) (upd Bt k (Bt (k - 1)))
    rw [shf_step h, shf_step h] at hq
    refine ⟨q + 1, ?_⟩
    simp (disch := omega) only [T_Model_addWord, S_Model_addWord, B_Model_addWord_125, q_lit, le_T, le_F, lt_T, lt_F, eq_T, eq_F, m1_lt, m1_le, lt_m1, le_m1, eq_m1, m1_eq, nI_add, nI_sub, nI_dec, nI_mul, nI_or, nI_and, nI_div, nI_mod, and_255, and_31, and_1, and_63, nI_shl, nI_shr, bI_F, bI_1, vp_T, cl_T, true_implies, false_implies, not_true_eq_false, not_false_eq_true, true_and, and_true, false_and, and_false, Bool.false_eq_true, Bool.true_eq_false, reduceCtorEq, implies_true, q_lc_eq, q_lc_ge, q_lc_gt, q_lc_le, lN_or, lN_and, lN_shl, lN_shr, nI_L, lN_I, l_0]
    exact hq
  · have hk3 : k = p := by omega
    subst hk3
    obtain ⟨q, hq⟩ := t5_addWord hh hwl (p := k) b c Ln Bt hp 0 (by omega) Lt
    refine ⟨q + 1, ?_⟩
    rw [← shf_0, ← shf_0]
    simp (disch := omega) only [T_Model_addWord, S_Model_addWord, B_Model_addWord_125, q_lit, le_T, le_F, lt_T, lt_F, eq_T, eq_F, m1_lt, m1_le, lt_m1, le_m1, eq_m1, m1_eq, nI_add, nI_sub, nI_dec, nI_mul, nI_or, nI_and, nI_div, nI_mod, and_255, and_31, and_1, and_63, nI_shl, nI_shr, bI_F, bI_1, vp_T, cl_T, true_implies, false_implies, not_true_eq_false, not_false_eq_true, true_and, and_true, false_and, and_false, Bool.false_eq_true, Bool.true_eq_false, reduceCtorEq, implies_true, q_lc_eq, q_lc_ge, q_lc_gt, q_lc_le, lN_or, lN_and, lN_shl, lN_shr, nI_L, lN_I, l_0]
    exact hq
termination_by k
decreasing_by all_goals omega
theorem t3_addWord {H : Nat → Int32} {HL : Int32} {w : List Nat} (hh : q_Hd H HL w) (hwl : w.length ≤ 12) {p c : Nat} (b : Int32) (hp : p ≤ c) (hc : c < 1280) (Ln Bt : Nat → Int32) (hi : Nat) (hk : 12 * p ≤ hi) (hk2 : hi ≤ 12 * c) (Lt : Nat → Int32) : ∃ q, T_Model_addWord HL H (nI (c + 1)) (putw (shl 12 Lt (12 * p) hi) (12 * p) w 0) (shf Ln p HL c) (shf Bt p b c) q 3 b (nI p) (nI hi - nI 1) (nI c) Lt Ln Bt := by
  by_cases h : 12 * p < hi
  · obtain ⟨q, hq⟩ := t3_addWord hh hwl b hp hc Ln Bt (hi - 1) (by omega) (by omega) (upd Lt (hi - 1 + 12) (Lt (hi - 1)))
    rw [shl_step h (by omega)] at hq
    refine ⟨q + 1, ?_⟩
    simp (disch := omega) only [T_Model_addWord, S_Model_addWord, B_Model_addWord_91, q_lit, le_T, le_F, lt_T, lt_F, eq_T, eq_F, m1_lt, m1_le, lt_m1, le_m1, eq_m1, m1_eq, nI_add, nI_sub, nI_dec, nI_mul, nI_or, nI_and, nI_div, nI_mod, and_255, and_31, and_1, and_63, nI_shl, nI_shr, bI_F, bI_1, vp_T, cl_T, true_implies, false_implies, not_true_eq_false, not_false_eq_true, true_and, and_true, false_and, and_false, Bool.false_eq_true, Bool.true_eq_false, reduceCtorEq, implies_true, q_lc_eq, q_lc_ge, q_lc_gt, q_lc_le, lN_or, lN_and, lN_shl, lN_shr, nI_L, lN_I, l_0]
    rw [Int32.sub_eq_add_neg] at hq
    simpa [q_lit] using hq
  · have hk3 : hi = 12 * p := by omega
    subst hk3
    obtain ⟨q, hq⟩ := t4_addWord hh hwl (p := p) b c Lt (by omega) c hp hc Ln Bt
    refine ⟨q + 1, ?_⟩
    rw [shl_0]
    have e : (nI (12 * p) - nI 1 < nI 12 * nI p) = True := by
      by_cases h0 : p = 0
      · subst h0
        rw [Nat.mul_zero, m1_sub (a := 0), nI_mul]; exact m1_lt (by omega)
      · rw [nI_mul, nI_sub (by omega)]; exact lt_T (by omega) (by omega)
    have e2 : B_Model_addWord_91 HL H (nI (c + 1)) (putw Lt (12 * p) w 0) (shf Ln p HL c) (shf Bt p b c) (T_Model_addWord HL H (nI (c + 1)) (putw Lt (12 * p) w 0) (shf Ln p HL c) (shf Bt p b c) q) b (nI p) (nI (12 * p) - nI 1) (nI c) Lt Ln Bt := ⟨fun _ => hq, fun h9 => absurd (e ▸ trivial) h9⟩
    exact e2
termination_by hi
decreasing_by all_goals omega
theorem t0_addWord {H : Nat → Int32} {HL : Int32} {w : List Nat} (hh : q_Hd H HL w) (hw : q_Wd w) (hwl : w.length ≤ 12) {Lt Ln Bt : Nat → Int32} {C : Int32} {m : List (List Nat × Nat)} (hm : MW 12 1280 Lt Ln Bt C m) {b : Nat} (C' : Int32) (Lt' Ln' Bt' : Nat → Int32) (h1 : ∃ q, T_Model_addWord HL H C' Lt' Ln' Bt' q 1 (nI b) (nI (plw w m)) 0 C Lt Ln Bt) (k : Nat) (hk : k ≤ plw w m) : ∃ q, T_Model_addWord HL H C' Lt' Ln' Bt' q 0 (nI b) (nI k) 0 C Lt Ln Bt := by
  have hpl : plw w m ≤ m.length := by rw [← codes_len m]; exact plc_le (enc w) (codes m)
  obtain ⟨rfl, hl, hm2⟩ := hm
  by_cases h : k < plw w m
  · obtain ⟨q, hq⟩ := t0_addWord hh hw hwl ⟨rfl, hl, hm2⟩ C' Lt' Ln' Bt' h1 (k + 1) (by omega)
    have hk2 := hm2 k (by omega)
    have h3 := plc_lt h
    rw [codes_ce] at h3
    refine ⟨q + 1, ?_⟩
    simp (disch := omega) only [T_Model_addWord, S_Model_addWord, B_Model_addWord_2, hk2.1, q_lit, le_T, le_F, lt_T, lt_F, eq_T, eq_F, m1_lt, m1_le, lt_m1, le_m1, eq_m1, m1_eq, nI_add, nI_sub, nI_dec, nI_mul, nI_or, nI_and, nI_div, nI_mod, and_255, and_31, and_1, and_63, nI_shl, nI_shr, bI_F, bI_1, vp_T, cl_T, true_implies, false_implies, not_true_eq_false, not_false_eq_true, true_and, and_true, false_and, and_false, Bool.false_eq_true, Bool.true_eq_false, reduceCtorEq, implies_true, q_lc_eq, q_lc_ge, q_lc_gt, q_lc_le, lN_or, lN_and, lN_shl, lN_shr, nI_L, lN_I, l_0]
    refine ⟨_, mo_ag_wordLetters hh hw hk2.2.2.1 (at0 := 12 * k) (by have := hk2.2.2.2.1; omega) hk2.2.2.2.2, ?_⟩
    rw [agn_le hw hk2.2.2.1 (by have := hk2.2.2.2.1; omega) (Or.inl (by omega))]
    refine ⟨fun h9 => absurd h9 (by omega), fun _ => ?_⟩
    simpa [q_lit] using hq
  · have hk3 : k = plw w m := by omega
    subst hk3
    obtain ⟨q, hq⟩ := h1
    refine ⟨q + 1, ?_⟩
    by_cases h2 : plw w m < m.length
    · have hk2 := hm2 _ h2
      have h3 := plc_ge (x := enc w) (l := codes m) (by rw [codes_len]; exact h2)
      rw [codes_ce] at h3
      simp (disch := omega) only [T_Model_addWord, S_Model_addWord, B_Model_addWord_2, hk2.1, q_lit, le_T, le_F, lt_T, lt_F, eq_T, eq_F, m1_lt, m1_le, lt_m1, le_m1, eq_m1, m1_eq, nI_add, nI_sub, nI_dec, nI_mul, nI_or, nI_and, nI_div, nI_mod, and_255, and_31, and_1, and_63, nI_shl, nI_shr, bI_F, bI_1, vp_T, cl_T, true_implies, false_implies, not_true_eq_false, not_false_eq_true, true_and, and_true, false_and, and_false, Bool.false_eq_true, Bool.true_eq_false, reduceCtorEq, implies_true, q_lc_eq, q_lc_ge, q_lc_gt, q_lc_le, lN_or, lN_and, lN_shl, lN_shr, nI_L, lN_I, l_0]
      refine ⟨_, mo_ag_wordLetters hh hw hk2.2.2.1 (at0 := 12 * plw w m) (by have := hk2.2.2.2.1; omega) hk2.2.2.2.2, ?_⟩
      rw [agn_le hw hk2.2.2.1 (by have := hk2.2.2.2.1; omega) (Or.inl (by omega))]
      refine ⟨fun _ => ?_, fun h9 => absurd h3 h9⟩
      simpa [q_lit] using hq
    · simp (disch := omega) only [T_Model_addWord, S_Model_addWord, B_Model_addWord_2, q_lit, le_T, le_F, lt_T, lt_F, eq_T, eq_F, m1_lt, m1_le, lt_m1, le_m1, eq_m1, m1_eq, nI_add, nI_sub, nI_dec, nI_mul, nI_or, nI_and, nI_div, nI_mod, and_255, and_31, and_1, and_63, nI_shl, nI_shr, bI_F, bI_1, vp_T, cl_T, true_implies, false_implies, not_true_eq_false, not_false_eq_true, true_and, and_true, false_and, and_false, Bool.false_eq_true, Bool.true_eq_false, reduceCtorEq, implies_true, q_lc_eq, q_lc_ge, q_lc_gt, q_lc_le, lN_or, lN_and, lN_shl, lN_shr, nI_L, lN_I, l_0]
      simpa [q_lit] using hq
termination_by plw w m - k
decreasing_by all_goals omega
theorem mo_addWord {H : Nat → Int32} {HL : Int32} {w : List Nat} (hh : q_Hd H HL w) (hw : q_Wd w) (hwl : w.length ≤ 12) {Lt Ln Bt : Nat → Int32} {C : Int32} {m : List (List Nat × Nat)} (hm : MW 12 1280 Lt Ln Bt C m) (hml : m.length < 1280) (b : Nat) :
    ∃ C' Lt' Ln' Bt', D_Model_addWord (nI b) C Lt Ln Bt HL H C' Lt' Ln' Bt' ∧ MW 12 1280 Lt' Ln' Bt' C' (insW w b m) := by
  have hpl : plw w m ≤ m.length := by rw [← codes_len m]; exact plc_le (enc w) (codes m)
  have hm' := hm
  obtain ⟨rfl, hl, hm2⟩ := hm
  by_cases h1 : plw w m < m.length ∧ enc (mw m (plw w m)) = enc w
  · have hk2 := hm2 _ h1.1
    have hlt := h1.1
    refine ⟨nI m.length, Lt, Ln, upd Bt (plw w m) (nI (mb m (plw w m) ||| b)), ?_, ?_⟩
    · have := t0_addWord hh hw hwl hm' (b := b) (nI m.length) Lt Ln (upd Bt (plw w m) (nI (mb m (plw w m) ||| b))) ⟨1, by
        simp (disch := omega) only [T_Model_addWord, S_Model_addWord, B_Model_addWord_37, hk2.1, hk2.2.1, q_lit, le_T, le_F, lt_T, lt_F, eq_T, eq_F, m1_lt, m1_le, lt_m1, le_m1, eq_m1, m1_eq, nI_add, nI_sub, nI_dec, nI_mul, nI_or, nI_and, nI_div, nI_mod, and_255, and_31, and_1, and_63, nI_shl, nI_shr, bI_F, bI_1, vp_T, cl_T, true_implies, false_implies, not_true_eq_false, not_false_eq_true, true_and, and_true, false_and, and_false, Bool.false_eq_true, Bool.true_eq_false, reduceCtorEq, implies_true, q_lc_eq, q_lc_ge, q_lc_gt, q_lc_le, lN_or, lN_and, lN_shl, lN_shr, nI_L, lN_I, l_0]
        refine ⟨_, mo_ag_wordLetters hh hw hk2.2.2.1 (at0 := 12 * plw w m) (by have := hk2.2.2.2.1; omega) hk2.2.2.2.2, ?_⟩
        rw [agn_eq hw hk2.2.2.1 (by have := hk2.2.2.2.1; omega) (Or.inl (by omega))]
        exact fun h9 => absurd h1.2.symm h9⟩ 0 (Nat.zero_le _)
      simpa [D_Model_addWord, q_lit] using this
    · rw [insW_hit h1.1 h1.2]
      refine ⟨by simp, by simp; omega, fun i hi => ?_⟩
      simp only [List.length_set] at hi
      by_cases h3 : i = plw w m
      · subst h3
        simp only [mw, mb, List.getD_eq_getElem?_getD, List.getElem?_set_self hi, upd, if_true, Option.getD_some] at hk2 ⊢
        exact ⟨hk2.1, trivial, hk2.2.2⟩
      · have e2 := hm2 i hi
        simp only [mw, mb, List.getD_eq_getElem?_getD, List.getElem?_set_ne (Ne.symm h3), upd, h3, if_false] at e2 ⊢
        exact e2
  · refine ⟨nI (m.length + 1), putw (shl 12 Lt (12 * plw w m) (12 * m.length)) (12 * plw w m) w 0, shf Ln (plw w m) HL m.length, shf Bt (plw w m) (nI b) m.length, ?_, ?_⟩
    · obtain ⟨q, hq⟩ := t3_addWord hh hwl (p := plw w m) (c := m.length) (nI b) hpl hml Ln Bt (12 * m.length) (by omega) (Nat.le_refl _) Lt
      have h2 : ∃ q, T_Model_addWord HL H (nI (m.length + 1)) (putw (shl 12 Lt (12 * plw w m) (12 * m.length)) (12 * plw w m) w 0) (shf Ln (plw w m) HL m.length) (shf Bt (plw w m) (nI b) m.length) q 1 (nI b) (nI (plw w m)) 0 (nI m.length) Lt Ln Bt := by
        have e2 : S_Model_addWord HL H (nI (m.length + 1)) (putw (shl 12 Lt (12 * plw w m) (12 * m.length)) (12 * plw w m) w 0) (shf Ln (plw w m) HL m.length) (shf Bt (plw w m) (nI b) m.length) (T_Model_addWord HL H (nI (m.length + 1)) (putw (shl 12 Lt (12 * plw w m) (12 * m.length)) (12 * plw w m) w 0) (shf Ln (plw w m) HL m.length) (shf Bt (plw w m) (nI b) m.length) q) 2 (nI b) (nI (plw w m)) 0 (nI m.length) Lt Ln Bt := by
          simp only [S_Model_addWord, B_Model_addWord_81]
          rw [show ((12 : Int32) * nI m.length - 1) = nI (12 * m.length) - nI 1 by rw [← nI_mul]; rfl]
          exact hq
        refine ⟨q + 2, ?_⟩
        by_cases h5 : plw w m < m.length
        · have hk2 := hm2 _ h5
          simp only [T_Model_addWord]
          have e3 : (S_Model_addWord HL H (nI (m.length + 1)) (putw (shl 12 Lt (12 * plw w m) (12 * m.length)) (12 * plw w m) w 0) (shf Ln (plw w m) HL m.length) (shf Bt (plw w m) (nI b) m.length) (S_Model_addWord HL H (nI (m.length + 1)) (putw (shl 12 Lt (12 * plw w m) (12 * m.length)) (12 * plw w m) w 0) (shf Ln (plw w m) HL m.length) (shf Bt (plw w m) (nI b) m.length) (T_Model_addWord HL H (nI (m.length + 1)) (putw (shl 12 Lt (12 * plw w m) (12 * m.length)) (12 * plw w m) w 0) (shf Ln (plw w m) HL m.length) (shf Bt (plw w m) (nI b) m.length) q)) 1 (nI b) (nI (plw w m)) 0 (nI m.length) Lt Ln Bt) := by
            refine ⟨fun _ => e2, fun _ => ⟨vp_in_nI (by omega) (by omega), _, by rw [nI_clamp (by omega), hk2.1, show (12 : Int32) * nI (plw w m) = nI (12 * plw w m) from nI_mul _ _]; exact mo_ag_wordLetters hh hw hk2.2.2.1 (at0 := 12 * plw w m) (by have := hk2.2.2.2.1; omega) hk2.2.2.2.2, ?_⟩⟩
            rw [show (0 : Int32) = nI 0 from rfl, agn_eq hw hk2.2.2.1 (by have := hk2.2.2.2.1; omega) (Or.inl (by omega))]
            exact ⟨fun h9 => absurd ⟨h5, h9.symm⟩ h1, fun _ => e2⟩
          exact e3
        · refine ⟨fun _ => e2, fun h9 => ?_⟩
          exfalso; revert h9; simp (disch := omega) only [q_lit, le_T, le_F, lt_T, lt_F, eq_T, eq_F, m1_lt, m1_le, lt_m1, le_m1, eq_m1, m1_eq, nI_add, nI_sub, nI_dec, nI_mul, nI_or, nI_and, nI_div, nI_mod, and_255, and_31, and_1, and_63, nI_shl, nI_shr, bI_F, bI_1, vp_T, cl_T, true_implies, false_implies, not_true_eq_false, not_false_eq_true, true_and, and_true, false_and, and_false, Bool.false_eq_true, Bool.true_eq_false, reduceCtorEq, implies_true]
      have := t0_addWord hh hw hwl hm' (b := b) _ _ _ _ h2 0 (Nat.zero_le _)
      simpa [D_Model_addWord, q_lit] using this
    · rw [insW_miss h1]
      refine ⟨by rw [mid_len _ _ _ hpl], by rw [mid_len _ _ _ hpl]; omega, fun i hi => ?_⟩
      rw [mid_len _ _ _ hpl] at hi
      simp only [mw, mb]
      rw [mid_get _ _ _ _ hpl]
      by_cases h2 : i < plw w m
      · have e := hm2 i (by omega)
        simp only [if_pos h2, shf]
        refine ⟨e.1, e.2.1, e.2.2.1, e.2.2.2.1, fun j hj => ?_⟩
        have := e.2.2.2.1
        rw [← e.2.2.2.2 j hj]
        unfold putw shl
        have hj' : j < 12 := by simp only [mw] at this; omega
        rw [if_neg (by omega), if_neg (by omega)]
      · simp only [if_neg h2, shf]
        by_cases h3 : i = plw w m
        · simp only [if_pos h3]
          refine ⟨hh.1, trivial, hw, hwl, fun j hj => ?_⟩
          unfold putw
          rw [if_pos (by omega)]
          congr 2; omega
        · have e := hm2 (i - 1) (by omega)
          simp only [if_neg h3, if_pos (show i ≤ m.length by omega)]
          refine ⟨e.1, e.2.1, e.2.2.1, e.2.2.2.1, fun j hj => ?_⟩
          have := e.2.2.2.1
          rw [← e.2.2.2.2 j hj]
          unfold putw shl
          have hj' : j < 12 := by simp only [mw] at this; omega
          rw [if_neg (by omega), if_pos (by omega)]
          congr 1; omega
