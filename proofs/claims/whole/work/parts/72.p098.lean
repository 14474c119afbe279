/-! Pure: the words of the bodies, on both sides. -/
def wd12 (r : List Nat) : List Nat := (r.map smL).take 12
theorem enc_wd12 (r : List Nat) : enc (wd12 r) = enc r := by
  unfold wd12
  rw [show enc ((r.map smL).take 12) = enc (r.map smL) from encA_take 12 _]
  exact encA_sm 12 r
def nlast (b : List Nat) : Prop := b = [] ∨ isLet (b.getD (b.length - 1) 0) = false
theorem letRun_all {b : List Nat} {p i : Nat} (h : i < (letRun b p b.length).length) : isLet (b.getD (p + i) 0) = true := by
  rcases Nat.lt_or_ge p b.length with h1 | h1
  · cases h2 : isLet (b.getD p 0) with
    | false => rw [letRun_stop (Or.inr h2)] at h; simp at h
    | true =>
      rw [letRun_step h1 h2, List.length_cons] at h
      cases i with
      | zero => simpa using h2
      | succ i =>
        have := letRun_all (b := b) (p := p + 1) (i := i) (by omega)
        rw [show p + (i + 1) = p + 1 + i by omega]; exact this
  · rw [letRun_stop (Or.inl h1)] at h; simp at h
termination_by b.length - p
decreasing_by all_goals omega
theorem letRun_lt {b : List Nat} {p : Nat} (hp : p < b.length) (h : nlast b) : p + (letRun b p b.length).length < b.length := by
  have h1 := letRun_nil_le (L := b) (k := p) (f := b.length)
  rcases Nat.lt_or_ge (p + (letRun b p b.length).length) b.length with h2 | h2
  · exact h2
  · exfalso
    rcases h with h | h
    · rw [h] at hp; simp at hp
    · have := letRun_all (b := b) (p := p) (i := b.length - 1 - p) (by omega)
      rw [show p + (b.length - 1 - p) = b.length - 1 by omega, h] at this
      cases this
def gw (t : Nat) (b : List Nat) (p : Nat) (m : List (List Nat × Nat)) : List (List Nat × Nat) :=
  if p < b.length then (if letRun b p b.length = [] then gw t b (p + 1) m else gw t b (p + (letRun b p b.length).length + 1) (insW (wd12 (letRun b p b.length)) (1 <<< t) m)) else m
termination_by b.length - p
decreasing_by all_goals omega
theorem flat_body {bs : List (List Nat)} {t : Nat} (h : t < bs.length) : (bs.flatten.drop (q_off bs t)).take (bd bs t).length = bd bs t := by
  induction bs generalizing t with
  | nil => simp at h
  | cons b bs ih =>
    cases t with
    | zero => simp [q_off, bd]
    | succ t =>
      rw [bd_cons_s, off_cons_s, List.flatten_cons, List.drop_append]
      have := ih (t := t) (by simpa using h)
      simp only [show b.length + q_off bs t - b.length = q_off bs t by omega]
      rw [List.drop_eq_nil_of_le (by omega), List.nil_append]; exact this
theorem letRun_flat {bs : List (List Nat)} {t : Nat} (h : t < bs.length) {p : Nat} (hp : p ≤ (bd bs t).length) : letRun bs.flatten (q_off bs t + p) (q_off bs t + (bd bs t).length) = letRun (bd bs t) p (bd bs t).length := by
  unfold letRun
  congr 1
  have := flat_body h
  rw [show q_off bs t + (bd bs t).length - (q_off bs t + p) = (bd bs t).length - p by omega, ← List.drop_drop]
  conv => rhs; rw [← this]
  rw [List.length_take, List.length_drop]
  have h2 := off_end h
  rw [show min (bd bs t).length (bs.flatten.length - q_off bs t) = (bd bs t).length by omega]
  rw [List.drop_take, List.take_take, show min ((bd bs t).length - p) ((bd bs t).length - p) = (bd bs t).length - p by omega]
def gwA (bs : List (List Nat)) (t : Nat) (m : List (List Nat × Nat)) : List (List Nat × Nat) := if t < bs.length then gwA bs (t + 1) (gw t (bd bs t) 0 m) else m
termination_by bs.length - t
decreasing_by all_goals omega
theorem insW_srt {w : List Nat} {b : Nat} {m : List (List Nat × Nat)} (h : Srt (codes m)) : Srt (codes (insW w b m)) := by rw [codes_ins]; exact ins_srt h
theorem t_gw1 {S BE : Nat → Int32} {BC T : Int32} {bs : List (List Nat)} (h : CB S BE BC T bs) {t : Nat} (ht : t < bs.length) (hn : nlast (bd bs t)) (p : Nat) (hp : p ≤ (bd bs t).length) (m : List (List Nat × Nat)) (W : Nat → Int64) (Tt : Nat → Int32) (C : Int32) (hc : CW 1275 W Tt C (codes m)) (hs : Srt (codes m)) (hb : 2 * m.length ≤ q_off bs t + p) :
    ∃ W2 T2 C2, CW 1275 W2 T2 C2 (codes (gw t (bd bs t) p m)) ∧ Srt (codes (gw t (bd bs t) p m)) ∧ 2 * (gw t (bd bs t) p m).length ≤ q_off bs t + (bd bs t).length ∧ ∀ W' T' C', (∃ q, T_Book_gatherWords 2550 1275 S BE BC T W' T' C' q 0 (nI (t + 1)) (nI 0) (nI 0) (nI 0) W2 T2 C2) → ∃ q, T_Book_gatherWords 2550 1275 S BE BC T W' T' C' q 1 (nI t) (nI (q_off bs t + (bd bs t).length)) (nI 0) (nI (q_off bs t + p)) W Tt C := by
  have hl := h.len ht
  have h10 := h.2.1
  by_cases h1 : p < (bd bs t).length
  · have hend := let_lettersEnd h.2.2.1 h.2.2.2.2 (k := q_off bs t + p) (f := q_off bs t + (bd bs t).length) (by omega) (by omega)
    have hrl := letRun_lt h1 hn
    unfold letEnd at hend
    rw [letRun_flat ht (by omega)] at hend
    rw [gw, if_pos h1]
    by_cases h2 : letRun (bd bs t) p (bd bs t).length = []
    · rw [if_pos h2]
      rw [h2] at hend
      obtain ⟨W2, T2, C2, a1, a2, a3, a4⟩ := t_gw1 h ht hn (p + 1) (by omega) m W Tt C hc hs (by omega)
      refine ⟨W2, T2, C2, a1, a2, a3, fun W' T' C' h9 => ?_⟩
      obtain ⟨q, hq⟩ := a4 W' T' C' h9
      refine ⟨q + 2, ?_⟩
      simp (disch := omega) only [T_Book_gatherWords, S_Book_gatherWords, B_Book_gatherWords_32, B_Book_gatherWords_75, q_lit, le_T, le_F, lt_T, lt_F, eq_T, eq_F, m1_lt, m1_le, lt_m1, le_m1, eq_m1, m1_eq, nI_add, nI_sub, nI_dec, nI_mul, nI_or, nI_and, nI_div, nI_mod, and_255, and_31, and_1, and_63, nI_shl, nI_shr, bI_F, bI_1, vp_T, cl_T, true_implies, false_implies, not_true_eq_false, not_false_eq_true, true_and, and_true, false_and, and_false, Bool.false_eq_true, Bool.true_eq_false, reduceCtorEq, implies_true, q_lc_eq, q_lc_ge, q_lc_gt, q_lc_le, lN_or, lN_and, lN_shl, lN_shr, nI_L, lN_I, l_0]
      refine ⟨_, hend, ?_⟩
      simp (disch := omega) only [List.length_nil, Nat.add_zero, q_lit, le_T, le_F, lt_T, lt_F, eq_T, eq_F, m1_lt, m1_le, lt_m1, le_m1, eq_m1, m1_eq, nI_add, nI_sub, nI_dec, nI_mul, nI_or, nI_and, nI_div, nI_mod, and_255, and_31, and_1, and_63, nI_shl, nI_shr, bI_F, bI_1, vp_T, cl_T, true_implies, false_implies, not_true_eq_false, not_false_eq_true, true_and, and_true, false_and, and_false, Bool.false_eq_true, Bool.true_eq_false, reduceCtorEq, implies_true]
      exact hq
    · rw [if_neg h2]
      have hpos : 0 < (letRun (bd bs t) p (bd bs t).length).length := List.length_pos_iff.mpr h2
      have hword := let_word h.2.2.1 h.2.2.2.2 (s := q_off bs t + p) (f := q_off bs t + p + (letRun (bd bs t) p (bd bs t).length).length) (by omega) (by omega)
      have hw2 : letRun bs.flatten (q_off bs t + p) (q_off bs t + p + (letRun (bd bs t) p (bd bs t).length).length) = letRun (bd bs t) p (bd bs t).length := by
        -- the q_run up to its own end
        have e : ∀ (L : List Nat) (d k f : Nat), f - k = d → letRun L k (k + (letRun L k f).length) = letRun L k f := by
          intro L d
          induction d with
          | zero =>
            intro k f hk9
            have : letRun L k f = [] := letRun_stop (Or.inl (by omega))
            rw [this]
            exact letRun_stop (Or.inl (by simp))
          | succ d ih9 =>
            intro k f hk9
            cases h9 : isLet (L.getD k 0) with
            | false =>
              have : letRun L k f = [] := letRun_stop (Or.inr h9)
              rw [this]
              exact letRun_stop (Or.inl (by simp))
            | true =>
              have e := letRun_step (L := L) (k := k) (f := f) (by omega) h9
              have := ih9 (k + 1) f (by omega)
              rw [e, List.length_cons, letRun_step (by omega) h9]
              congr 1
              rw [← this]
              congr 1
              rw [this]; omega
        have e2 := e bs.flatten _ (q_off bs t + p) (q_off bs t + (bd bs t).length) rfl
        rw [letRun_flat ht (by omega)] at e2
        exact e2
      rw [hw2, ← enc_wd12] at hword
      obtain ⟨W1, T1, C1, d1, d2⟩ := wl_note hc hs (Sml.codes _) (x := enc (wd12 (letRun (bd bs t) p (bd bs t).length))) (b := 1 <<< t) (enc_lt _) (by rw [codes_len]; omega)
      rw [← codes_ins] at d2
      have hil := insW_len (wd12 (letRun (bd bs t) p (bd bs t).length)) (1 <<< t) m
      obtain ⟨W2, T2, C2, a1, a2, a3, a4⟩ := t_gw1 h ht hn (p + (letRun (bd bs t) p (bd bs t).length).length + 1) (by omega) _ W1 T1 C1 d2 (insW_srt hs) (by omega)
      refine ⟨W2, T2, C2, a1, a2, a3, fun W' T' C' h9 => ?_⟩
      obtain ⟨q, hq⟩ := a4 W' T' C' h9
      refine ⟨q + 2, ?_⟩
      have e : (1 <<< (nI t &&& 31) : Int32) = nI (1 <<< t) := by
        simp (disch := omega) only [q_lit, le_T, le_F, lt_T, lt_F, eq_T, eq_F, m1_lt, m1_le, lt_m1, le_m1, eq_m1, m1_eq, nI_add, nI_sub, nI_dec, nI_mul, nI_or, nI_and, nI_div, nI_mod, and_255, and_31, and_1, and_63, nI_shl, nI_shr, bI_F, bI_1, vp_T, cl_T, true_implies, false_implies, not_true_eq_false, not_false_eq_true, true_and, and_true, false_and, and_false, Bool.false_eq_true, Bool.true_eq_false, reduceCtorEq, implies_true]
        rw [Nat.mod_eq_of_lt (by omega)]
      simp only [T_Book_gatherWords, S_Book_gatherWords, B_Book_gatherWords_32, B_Book_gatherWords_75]
      rw [e]
      simp (disch := omega) only [q_lit, le_T, le_F, lt_T, lt_F, eq_T, eq_F, m1_lt, m1_le, lt_m1, le_m1, eq_m1, m1_eq, nI_add, nI_sub, nI_dec, nI_mul, nI_or, nI_and, nI_div, nI_mod, and_255, and_31, and_1, and_63, nI_shl, nI_shr, bI_F, bI_1, vp_T, cl_T, true_implies, false_implies, not_true_eq_false, not_false_eq_true, true_and, and_true, false_and, and_false, Bool.false_eq_true, Bool.true_eq_false, reduceCtorEq, implies_true]
      refine ⟨_, hend, ?_⟩
      simp (disch := omega) only [q_lit, le_T, le_F, lt_T, lt_F, eq_T, eq_F, m1_lt, m1_le, lt_m1, le_m1, eq_m1, m1_eq, nI_add, nI_sub, nI_dec, nI_mul, nI_or, nI_and, nI_div, nI_mod, and_255, and_31, and_1, and_63, nI_shl, nI_shr, bI_F, bI_1, vp_T, cl_T, true_implies, false_implies, not_true_eq_false, not_false_eq_true, true_and, and_true, false_and, and_false, Bool.false_eq_true, Bool.true_eq_false, reduceCtorEq, implies_true]
      exact ⟨_, hword, W1, T1, C1, d1, by simpa [Nat.add_assoc] using hq⟩
  · rw [gw, if_neg h1]
    refine ⟨W, Tt, C, hc, hs, by omega, fun W' T' C' h9 => ?_⟩
    obtain ⟨q, hq⟩ := h9
    refine ⟨q + 1, ?_⟩
    simp (disch := omega) only [T_Book_gatherWords, S_Book_gatherWords, B_Book_gatherWords_32, q_lit, le_T, le_F, lt_T, lt_F, eq_T, eq_F, m1_lt, m1_le, lt_m1, le_m1, eq_m1, m1_eq, nI_add, nI_sub, nI_dec, nI_mul, nI_or, nI_and, nI_div, nI_mod, and_255, and_31, and_1, and_63, nI_shl, nI_shr, bI_F, bI_1, vp_T, cl_T, true_implies, false_implies, not_true_eq_false, not_false_eq_true, true_and, and_true, false_and, and_false, Bool.false_eq_true, Bool.true_eq_false, reduceCtorEq, implies_true, q_lc_eq, q_lc_ge, q_lc_gt, q_lc_le, lN_or, lN_and, lN_shl, lN_shr, nI_L, lN_I, l_0]
    exact hq
termination_by (bd bs t).length - p
decreasing_by all_goals omega
theorem t_gw {S BE : Nat → Int32} {BC T : Int32} {bs : List (List Nat)} (h : CB S BE BC T bs) (hn : ∀ t, t < bs.length → nlast (bd bs t)) (t : Nat) (ht : t ≤ bs.length) (m : List (List Nat × Nat)) (W : Nat → Int64) (Tt : Nat → Int32) (C : Int32) (hc : CW 1275 W Tt C (codes m)) (hs : Srt (codes m)) (hb : 2 * m.length ≤ q_off bs t) :
    ∃ W' T' C', (∃ q, T_Book_gatherWords 2550 1275 S BE BC T W' T' C' q 0 (nI t) (nI 0) (nI 0) (nI 0) W Tt C) ∧ CW 1275 W' T' C' (codes (gwA bs t m)) ∧ Srt (codes (gwA bs t m)) := by
  have h10 := h.2.1
  have hT := h.1
  by_cases h1 : t < bs.length
  · obtain ⟨W2, T2, C2, a1, a2, a3, a4⟩ := t_gw1 h h1 (hn t h1) 0 (by omega) m W Tt C hc hs (by omega)
    obtain ⟨W', T', C', b1, b2, b3⟩ := t_gw h hn (t + 1) h1 _ W2 T2 C2 a1 a2 (by rw [off_succ h1]; exact a3)
    obtain ⟨q, hq⟩ := a4 W' T' C' b1
    rw [gwA, if_pos h1]
    refine ⟨W', T', C', ⟨q + 1, ?_⟩, b2, b3⟩
    have e1 := cb_end h h1
    have e2 := cb_start h h1
    rw [hT] at e1 e2 hq ⊢
    simp (disch := omega) only [T_Book_gatherWords, S_Book_gatherWords, B_Book_gatherWords_9, q_lit, le_T, le_F, lt_T, lt_F, eq_T, eq_F, m1_lt, m1_le, lt_m1, le_m1, eq_m1, m1_eq, nI_add, nI_sub, nI_dec, nI_mul, nI_or, nI_and, nI_div, nI_mod, and_255, and_31, and_1, and_63, nI_shl, nI_shr, bI_F, bI_1, vp_T, cl_T, true_implies, false_implies, not_true_eq_false, not_false_eq_true, true_and, and_true, false_and, and_false, Bool.false_eq_true, Bool.true_eq_false, reduceCtorEq, implies_true, q_lc_eq, q_lc_ge, q_lc_gt, q_lc_le, lN_or, lN_and, lN_shl, lN_shr, nI_L, lN_I, l_0]
    exact ⟨_, e1, _, e2, hq⟩
  · rw [gwA, if_neg h1]
    refine ⟨W, Tt, C, ⟨1, ?_⟩, hc, hs⟩
    rw [hT]
    simp (disch := omega) only [T_Book_gatherWords, S_Book_gatherWords, B_Book_gatherWords_9, q_lit, le_T, le_F, lt_T, lt_F, eq_T, eq_F, m1_lt, m1_le, lt_m1, le_m1, eq_m1, m1_eq, nI_add, nI_sub, nI_dec, nI_mul, nI_or, nI_and, nI_div, nI_mod, and_255, and_31, and_1, and_63, nI_shl, nI_shr, bI_F, bI_1, vp_T, cl_T, true_implies, false_implies, not_true_eq_false, not_false_eq_true, true_and, and_true, false_and, and_false, Bool.false_eq_true, Bool.true_eq_false, reduceCtorEq, implies_true, q_lc_eq, q_lc_ge, q_lc_gt, q_lc_le, lN_or, lN_and, lN_shl, lN_shr, nI_L, lN_I, l_0]
termination_by bs.length - t
decreasing_by all_goals omega
theorem cb_gather {S BE : Nat → Int32} {BC T : Int32} {bs : List (List Nat)} (h : CB S BE BC T bs) (hn : ∀ t, t < bs.length → nlast (bd bs t)) (W : Nat → Int64) (Tt : Nat → Int32) (C : Int32) : ∃ W' T' C', D_Book_gatherWords 2550 1275 S BE BC W Tt C T W' T' C' ∧ CW 1275 W' T' C' (codes (gwA bs 0 [])) ∧ Srt (codes (gwA bs 0 [])) := t_gw h hn 0 (by omega) [] W Tt (nI 0) ⟨rfl, by simp [codes], by omega, fun i hi => by simp [codes] at hi⟩ (by intro i j h1 h2; simp [codes] at h2) (by simp)
/-- the reference goes sign by sign: the letters of the word it is in -/
def gm (t : Nat) (b : List Nat) (p : Nat) (w : List Nat) (m : List (List Nat × Nat)) : List (List Nat × Nat) :=
  if p ≤ b.length then (if isLet (b.getD p 0) = true then gm t b (p + 1) (w ++ [b.getD p 0]) m else if w = [] then gm t b (p + 1) [] m else gm t b (p + 1) [] (insW (wd12 w) (1 <<< t) m)) else m
termination_by b.length + 1 - p
decreasing_by all_goals omega
theorem gm_eq (t : Nat) (b : List Nat) (p : Nat) (hp : p ≤ b.length) (w : List Nat) (m : List (List Nat × Nat)) : gm t b p w m = if w ++ letRun b p b.length = [] then gw t b (p + 1) m else gw t b (p + (letRun b p b.length).length + 1) (insW (wd12 (w ++ letRun b p b.length)) (1 <<< t) m) := by
  have gw0 : ∀ q m, b.length ≤ q → gw t b q m = m := fun q m h => by rw [gw, if_neg (by omega)]
  have gmE : ∀ m, gm t b (b.length + 1) [] m = m := fun m => by rw [gm, if_neg (by omega)]
  have gmS : ∀ q m, q ≤ b.length → gm t b q [] m = gw t b q m → True := fun _ _ _ _ => trivial
  rw [gm, if_pos hp]
  cases h : isLet (b.getD p 0) with
  | true =>
    have hlt : p < b.length := by
      rcases Nat.lt_or_ge p b.length with h1 | h1
      · exact h1
      · rw [getD_ge h1] at h; exact absurd h (by decide)
    rw [if_pos rfl, gm_eq t b (p + 1) hlt (w ++ [b.getD p 0]) m, letRun_step hlt h]
    rw [if_neg (by simp), if_neg (by simp)]
    simp only [List.append_assoc, List.singleton_append, List.length_cons]
    rw [show p + 1 + (letRun b (p + 1) b.length).length + 1 = p + ((letRun b (p + 1) b.length).length + 1) + 1 by omega]
  | false =>
    rw [if_neg (by simp), letRun_stop (Or.inr h), List.append_nil, List.length_nil]
    -- behind a sign that is no letter
    have step : ∀ m, gm t b (p + 1) [] m = gw t b (p + 1) m := by
      intro m
      rcases Nat.lt_or_ge p b.length with h1 | h1
      · rw [gm_eq t b (p + 1) h1 [] m, List.nil_append]
        by_cases h2 : letRun b (p + 1) b.length = []
        · rw [if_pos h2]
          rcases Nat.lt_or_ge (p + 1) b.length with h3 | h3
          · conv => rhs; rw [gw, if_pos h3, if_pos h2]
          · rw [gw0 _ _ (by omega), gw0 _ _ (by omega)]
        · rw [if_neg h2]
          have h3 : p + 1 < b.length := by
            rcases Nat.lt_or_ge (p + 1) b.length with h3 | h3
            · exact h3
            · exact absurd (letRun_stop (Or.inl h3)) h2
          conv => rhs; rw [gw, if_pos h3, if_neg h2]
      · have hpe : p = b.length := by omega
        subst hpe
        rw [gmE, gw0 _ _ (by omega)]
    by_cases h4 : w = []
    · rw [if_pos h4, if_pos h4, step]
    · rw [if_neg h4, if_neg h4, step, Nat.add_zero]
termination_by b.length + 1 - p
decreasing_by all_goals omega
theorem gm_gw (t : Nat) (b : List Nat) (m : List (List Nat × Nat)) : gm t b 0 [] m = gw t b 0 m := by
  rw [gm_eq t b 0 (by omega) [] m, List.nil_append]
  by_cases h2 : letRun b 0 b.length = []
  · rw [if_pos h2]
    rcases Nat.lt_or_ge 0 b.length with h3 | h3
    · conv => rhs; rw [gw, if_pos h3, if_pos h2]
    · rw [gw, if_neg (by omega), gw, if_neg (by omega)]
  · rw [if_neg h2]
    have h3 : 0 < b.length := by
      rcases Nat.lt_or_ge 0 b.length with h3 | h3
      · exact h3
      · exact absurd (letRun_stop (Or.inl h3)) h2
    conv => rhs; rw [gw, if_pos h3, if_neg h2]
/-- the hand: the first letters, made small -/
def HdP (H : Nat → Int32) (w : List Nat) : Prop := ∀ j, j < w.length → j < 12 → H j = nI (smL (w.getD j 0))
theorem HdP.hd {H : Nat → Int32} {w : List Nat} (h : HdP H w) : q_Hd H (nI (if w.length < 12 then w.length else 12)) (wd12 w) := by
  have hl : (wd12 w).length = if w.length < 12 then w.length else 12 := by
    unfold wd12; rw [List.length_take, List.length_map]; split <;> omega
  refine ⟨by rw [hl], by rw [hl]; split <;> omega, fun j hj => ?_⟩
  rw [hl] at hj
  have hj2 : j < w.length ∧ j < 12 := by split at hj <;> omega
  rw [h j hj2.1 hj2.2]
  unfold wd12
  simp only [List.getD_eq_getElem?_getD, List.getElem?_take, if_pos hj2.2, List.getElem?_map]
  rw [List.getElem?_eq_getElem hj2.1]; rfl
theorem t_fw1 {Bo Le : Nat → Int32} {bs : List (List Nat)} (h : MB Bo Le bs) {t : Nat} (ht : t < bs.length) (hn : nlast (bd bs t)) (p : Nat) (hp : p ≤ (bd bs t).length + 1) (w : List Nat) (hw : ∀ x ∈ w, isLet x = true) (hwp : w.length ≤ p) (m : List (List Nat × Nat)) (C : Int32) (Lt Ln Bt : Nat → Int32) (hm : MW 12 1280 Lt Ln Bt C m) (hb : 2 * m.length + w.length ≤ 255 * t + min p (bd bs t).length) (hpl : p = (bd bs t).length + 1 → w = []) (hpl2 : p = (bd bs t).length → w = [] ∨ bd bs t = []) (HL : Int32) (H : Nat → Int32) (hH : HdP H w) :
    ∃ C2 Lt2 Ln2 Bt2 HL2 H2, MW 12 1280 Lt2 Ln2 Bt2 C2 (gm t (bd bs t) p w m) ∧ 2 * (gm t (bd bs t) p w m).length ≤ 255 * (t + 1) ∧ ∀ C' Lt' Ln' Bt' HL' H', (∃ q, T_Model_findWords (nI bs.length) Bo Le C' Lt' Ln' Bt' HL' H' q 0 (nI (t + 1)) (nI 0) (nI 0) (nI 0) C2 Lt2 Ln2 Bt2 HL2 H2) → ∃ q, T_Model_findWords (nI bs.length) Bo Le C' Lt' Ln' Bt' HL' H' q 1 (nI t) (nI w.length) (nI p) (nI 0) C Lt Ln Bt HL H := by
  obtain ⟨h10, hall⟩ := h
  obtain ⟨e1, e2, e3⟩ := hall t ht
  rw [gm]
  by_cases h1 : p ≤ (bd bs t).length
  · rw [if_pos h1]
    have hv : (bd bs t).getD p 0 < 2147483648 := by
      rcases Nat.lt_or_ge p (bd bs t).length with h2 | h2
      · exact (e3 p h2).2
      · rw [getD_ge h2]; omega
    -- the sign at p, 0 behind the last
    have hin : ∀ {C' : Int32} {Lt' Ln' Bt' : Nat → Int32} {HL' : Int32} {H' : Nat → Int32} {q : Nat}, T_Model_findWords (nI bs.length) Bo Le C' Lt' Ln' Bt' HL' H' q 2 (nI t) (nI w.length) (nI p) (nI ((bd bs t).getD p 0)) C Lt Ln Bt HL H → T_Model_findWords (nI bs.length) Bo Le C' Lt' Ln' Bt' HL' H' (q + 1) 1 (nI t) (nI w.length) (nI p) (nI 0) C Lt Ln Bt HL H := by
      intro C' Lt' Ln' Bt' HL' H' q hq
      rcases Nat.lt_or_ge p (bd bs t).length with h2 | h2
      · have e4 := (e3 p h2).1
        simp (disch := omega) only [T_Model_findWords, S_Model_findWords, B_Model_findWords_19, e1, e4, q_lit, le_T, le_F, lt_T, lt_F, eq_T, eq_F, m1_lt, m1_le, lt_m1, le_m1, eq_m1, m1_eq, nI_add, nI_sub, nI_dec, nI_mul, nI_or, nI_and, nI_div, nI_mod, and_255, and_31, and_1, and_63, nI_shl, nI_shr, bI_F, bI_1, vp_T, cl_T, true_implies, false_implies, not_true_eq_false, not_false_eq_true, true_and, and_true, false_and, and_false, Bool.false_eq_true, Bool.true_eq_false, reduceCtorEq, implies_true, q_lc_eq, q_lc_ge, q_lc_gt, q_lc_le, lN_or, lN_and, lN_shl, lN_shr, nI_L, lN_I, l_0]
        exact hq
      · rw [getD_ge h2] at hq
        simp (disch := omega) only [T_Model_findWords, S_Model_findWords, B_Model_findWords_19, e1, q_lit, le_T, le_F, lt_T, lt_F, eq_T, eq_F, m1_lt, m1_le, lt_m1, le_m1, eq_m1, m1_eq, nI_add, nI_sub, nI_dec, nI_mul, nI_or, nI_and, nI_div, nI_mod, and_255, and_31, and_1, and_63, nI_shl, nI_shr, bI_F, bI_1, vp_T, cl_T, true_implies, false_implies, not_true_eq_false, not_false_eq_true, true_and, and_true, false_and, and_false, Bool.false_eq_true, Bool.true_eq_false, reduceCtorEq, implies_true, q_lc_eq, q_lc_ge, q_lc_gt, q_lc_le, lN_or, lN_and, lN_shl, lN_shr, nI_L, lN_I, l_0]
        exact hq
    cases h2 : isLet ((bd bs t).getD p 0) with
    | true =>
      have hlt : p < (bd bs t).length := by
        rcases Nat.lt_or_ge p (bd bs t).length with h3 | h3
        · exact h3
        · rw [getD_ge h3] at h2; exact absurd h2 (by decide)
      have hlt2 : p + 1 < (bd bs t).length := by
        rcases Nat.lt_or_ge (p + 1) (bd bs t).length with h3 | h3
        · exact h3
        · exfalso
          rcases hn with h4 | h4
          · rw [h4] at hlt; simp at hlt
          · rw [show (bd bs t).length - 1 = p by omega, h2] at h4; cases h4
      rw [if_pos rfl]
      have hw' : ∀ x ∈ w ++ [(bd bs t).getD p 0], isLet x = true := by
        intro x hx
        simp only [List.mem_append, List.mem_singleton] at hx
        rcases hx with hx | hx
        · exact hw x hx
        · rw [hx]; exact h2
      have hgd : ∀ j, j < w.length → (w ++ [(bd bs t).getD p 0]).getD j 0 = w.getD j 0 := fun j hj => by rw [getD_snoc, if_neg (by omega)]
      by_cases h12 : w.length < 12
      · obtain ⟨C2, Lt2, Ln2, Bt2, HL2, H2, a1, a2, a3⟩ := t_fw1 ⟨h10, hall⟩ ht hn (p + 1) (by omega) (w ++ [(bd bs t).getD p 0]) hw' (by simp; omega) m C Lt Ln Bt hm (by simp only [List.length_append, List.length_cons, List.length_nil]; omega) (fun h9 => by omega) (fun h9 => by omega) HL (upd H w.length (nI (smL ((bd bs t).getD p 0)))) (fun j hj hj2 => by
          simp only [List.length_append, List.length_cons, List.length_nil] at hj
          rw [getD_snoc]
          by_cases h9 : j = w.length
          · subst h9; rw [upd_eq, if_pos rfl]
          · rw [upd_ne (by omega), if_neg h9]; exact hH j (by omega) hj2)
        refine ⟨C2, Lt2, Ln2, Bt2, HL2, H2, a1, a2, fun C' Lt' Ln' Bt' HL' H' h9 => ?_⟩
        obtain ⟨q, hq⟩ := a3 C' Lt' Ln' Bt' HL' H' h9
        refine ⟨q + 3, hin ?_⟩
        simp only [List.length_append, List.length_cons, List.length_nil] at hq
        simp only [T_Model_findWords, S_Model_findWords, B_Model_findWords_57, B_Model_findWords_82]
        refine ⟨_, mo_isLetter hv, ?_⟩
        simp (disch := omega) only [h2, q_lit, le_T, le_F, lt_T, lt_F, eq_T, eq_F, m1_lt, m1_le, lt_m1, le_m1, eq_m1, m1_eq, nI_add, nI_sub, nI_dec, nI_mul, nI_or, nI_and, nI_div, nI_mod, and_255, and_31, and_1, and_63, nI_shl, nI_shr, bI_F, bI_1, vp_T, cl_T, true_implies, false_implies, not_true_eq_false, not_false_eq_true, true_and, and_true, false_and, and_false, Bool.false_eq_true, Bool.true_eq_false, reduceCtorEq, implies_true]
        exact ⟨_, mo_small hv, hq⟩
      · obtain ⟨C2, Lt2, Ln2, Bt2, HL2, H2, a1, a2, a3⟩ := t_fw1 ⟨h10, hall⟩ ht hn (p + 1) (by omega) (w ++ [(bd bs t).getD p 0]) hw' (by simp; omega) m C Lt Ln Bt hm (by simp only [List.length_append, List.length_cons, List.length_nil]; omega) (fun h9 => by omega) (fun h9 => by omega) HL H (fun j hj hj2 => by
          rw [hgd j (by omega)]; exact hH j (by omega) hj2)
        refine ⟨C2, Lt2, Ln2, Bt2, HL2, H2, a1, a2, fun C' Lt' Ln' Bt' HL' H' h9 => ?_⟩
        obtain ⟨q, hq⟩ := a3 C' Lt' Ln' Bt' HL' H' h9
        refine ⟨q + 3, hin ?_⟩
        simp only [List.length_append, List.length_cons, List.length_nil] at hq
        simp only [T_Model_findWords, S_Model_findWords, B_Model_findWords_57, B_Model_findWords_82]
        refine ⟨_, mo_isLetter hv, ?_⟩
        simp (disch := omega) only [h2, q_lit, le_T, le_F, lt_T, lt_F, eq_T, eq_F, m1_lt, m1_le, lt_m1, le_m1, eq_m1, m1_eq, nI_add, nI_sub, nI_dec, nI_mul, nI_or, nI_and, nI_div, nI_mod, and_255, and_31, and_1, and_63, nI_shl, nI_shr, bI_F, bI_1, vp_T, cl_T, true_implies, false_implies, not_true_eq_false, not_false_eq_true, true_and, and_true, false_and, and_false, Bool.false_eq_true, Bool.true_eq_false, reduceCtorEq, implies_true]
        exact hq
    | false =>
      rw [if_neg (by simp)]
      by_cases h3 : w = []
      · rw [if_pos h3]
        subst h3
        obtain ⟨C2, Lt2, Ln2, Bt2, HL2, H2, a1, a2, a3⟩ := t_fw1 ⟨h10, hall⟩ ht hn (p + 1) (by omega) [] (by simp) (by simp) m C Lt Ln Bt hm (by simp only [List.length_nil] at hb ⊢; omega) (fun _ => rfl) (fun _ => Or.inl rfl) HL H (fun j hj => by simp at hj)
        refine ⟨C2, Lt2, Ln2, Bt2, HL2, H2, a1, a2, fun C' Lt' Ln' Bt' HL' H' h9 => ?_⟩
        obtain ⟨q, hq⟩ := a3 C' Lt' Ln' Bt' HL' H' h9
        refine ⟨q + 2, hin ?_⟩
        simp only [T_Model_findWords, S_Model_findWords, B_Model_findWords_57]
        refine ⟨_, mo_isLetter hv, ?_⟩
        simp (disch := omega) only [h2, List.length_nil, q_lit, le_T, le_F, lt_T, lt_F, eq_T, eq_F, m1_lt, m1_le, lt_m1, le_m1, eq_m1, m1_eq, nI_add, nI_sub, nI_dec, nI_mul, nI_or, nI_and, nI_div, nI_mod, and_255, and_31, and_1, and_63, nI_shl, nI_shr, bI_F, bI_1, vp_T, cl_T, true_implies, false_implies, not_true_eq_false, not_false_eq_true, true_and, and_true, false_and, and_false, Bool.false_eq_true, Bool.true_eq_false, reduceCtorEq, implies_true]
        exact hq
      · rw [if_neg h3]
        have hpos : 0 < w.length := List.length_pos_iff.mpr h3
        have hpl3 : p < (bd bs t).length := by
          rcases Nat.lt_or_ge p (bd bs t).length with h4 | h4
          · exact h4
          · rcases hpl2 (by omega) with h5 | h5
            · exact absurd h5 h3
            · rw [h5] at h1; simp at h1; omega
        have hwd : q_Wd (wd12 w) := fun x hx => q_Wd.sm hw x (List.mem_of_mem_take hx)
        have hw12 : (wd12 w).length ≤ 12 := by unfold wd12; rw [List.length_take]; omega
        obtain ⟨C1, Lt1, Ln1, Bt1, b1, b2⟩ := mo_addWord hH.hd hwd hw12 hm (by omega) (1 <<< t)
        have hil := insW_len (wd12 w) (1 <<< t) m
        obtain ⟨C2, Lt2, Ln2, Bt2, HL2, H2, a1, a2, a3⟩ := t_fw1 ⟨h10, hall⟩ ht hn (p + 1) (by omega) [] (by simp) (by simp) (insW (wd12 w) (1 <<< t) m) C1 Lt1 Ln1 Bt1 b2 (by simp only [List.length_nil]; omega) (fun _ => rfl) (fun _ => Or.inl rfl) (nI (if w.length < 12 then w.length else 12)) H (fun j hj => by simp at hj)
        refine ⟨C2, Lt2, Ln2, Bt2, HL2, H2, a1, a2, fun C' Lt' Ln' Bt' HL' H' h9 => ?_⟩
        obtain ⟨q, hq⟩ := a3 C' Lt' Ln' Bt' HL' H' h9
        refine ⟨q + 3, hin ?_⟩
        have e : (1 <<< (nI t &&& 31) : Int32) = nI (1 <<< t) := by
          simp (disch := omega) only [q_lit, le_T, le_F, lt_T, lt_F, eq_T, eq_F, m1_lt, m1_le, lt_m1, le_m1, eq_m1, m1_eq, nI_add, nI_sub, nI_dec, nI_mul, nI_or, nI_and, nI_div, nI_mod, and_255, and_31, and_1, and_63, nI_shl, nI_shr, bI_F, bI_1, vp_T, cl_T, true_implies, false_implies, not_true_eq_false, not_false_eq_true, true_and, and_true, false_and, and_false, Bool.false_eq_true, Bool.true_eq_false, reduceCtorEq, implies_true]
          rw [Nat.mod_eq_of_lt (by omega)]
        simp only [T_Model_findWords, S_Model_findWords, B_Model_findWords_57, B_Model_findWords_108]
        refine ⟨_, mo_isLetter hv, ?_⟩
        rw [e]
        by_cases h12 : w.length < 12
        · rw [if_pos h12] at b1 hq
          simp (disch := omega) only [h2, q_lit, le_T, le_F, lt_T, lt_F, eq_T, eq_F, m1_lt, m1_le, lt_m1, le_m1, eq_m1, m1_eq, nI_add, nI_sub, nI_dec, nI_mul, nI_or, nI_and, nI_div, nI_mod, and_255, and_31, and_1, and_63, nI_shl, nI_shr, bI_F, bI_1, vp_T, cl_T, true_implies, false_implies, not_true_eq_false, not_false_eq_true, true_and, and_true, false_and, and_false, Bool.false_eq_true, Bool.true_eq_false, reduceCtorEq, implies_true]
          exact ⟨C1, Lt1, Ln1, Bt1, b1, hq⟩
        · rw [if_neg h12] at b1 hq
          simp (disch := omega) only [h2, q_lit, le_T, le_F, lt_T, lt_F, eq_T, eq_F, m1_lt, m1_le, lt_m1, le_m1, eq_m1, m1_eq, nI_add, nI_sub, nI_dec, nI_mul, nI_or, nI_and, nI_div, nI_mod, and_255, and_31, and_1, and_63, nI_shl, nI_shr, bI_F, bI_1, vp_T, cl_T, true_implies, false_implies, not_true_eq_false, not_false_eq_true, true_and, and_true, false_and, and_false, Bool.false_eq_true, Bool.true_eq_false, reduceCtorEq, implies_true]
          exact ⟨C1, Lt1, Ln1, Bt1, b1, hq⟩
  · have hpe : p = (bd bs t).length + 1 := by omega
    rw [if_neg h1]
    have hw0 := hpl hpe
    refine ⟨C, Lt, Ln, Bt, HL, H, hm, by omega, fun C' Lt' Ln' Bt' HL' H' h9 => ?_⟩
    obtain ⟨q, hq⟩ := h9
    refine ⟨q + 1, ?_⟩
    subst hw0
    simp (disch := omega) only [T_Model_findWords, S_Model_findWords, B_Model_findWords_19, e1, List.length_nil, q_lit, le_T, le_F, lt_T, lt_F, eq_T, eq_F, m1_lt, m1_le, lt_m1, le_m1, eq_m1, m1_eq, nI_add, nI_sub, nI_dec, nI_mul, nI_or, nI_and, nI_div, nI_mod, and_255, and_31, and_1, and_63, nI_shl, nI_shr, bI_F, bI_1, vp_T, cl_T, true_implies, false_implies, not_true_eq_false, not_false_eq_true, true_and, and_true, false_and, and_false, Bool.false_eq_true, Bool.true_eq_false, reduceCtorEq, implies_true, q_lc_eq, q_lc_ge, q_lc_gt, q_lc_le, lN_or, lN_and, lN_shl, lN_shr, nI_L, lN_I, l_0]
    exact hq
termination_by (bd bs t).length + 1 - p
decreasing_by all_goals omega
theorem t_fw {Bo Le : Nat → Int32} {bs : List (List Nat)} (h : MB Bo Le bs) (hn : ∀ t, t < bs.length → nlast (bd bs t)) (t : Nat) (ht : t ≤ bs.length) (m : List (List Nat × Nat)) (C : Int32) (Lt Ln Bt : Nat → Int32) (hm : MW 12 1280 Lt Ln Bt C m) (hb : 2 * m.length ≤ 255 * t) (HL : Int32) (H : Nat → Int32) :
    ∃ C' Lt' Ln' Bt' HL' H', (∃ q, T_Model_findWords (nI bs.length) Bo Le C' Lt' Ln' Bt' HL' H' q 0 (nI t) (nI 0) (nI 0) (nI 0) C Lt Ln Bt HL H) ∧ MW 12 1280 Lt' Ln' Bt' C' (gwA bs t m) := by
  have h10 := h.1
  rw [gwA]
  by_cases h1 : t < bs.length
  · rw [if_pos h1]
    obtain ⟨C2, Lt2, Ln2, Bt2, HL2, H2, a1, a2, a3⟩ := t_fw1 h h1 (hn t h1) 0 (by omega) [] (by simp) (by simp) m C Lt Ln Bt hm (by simp only [List.length_nil]; omega) (fun _ => rfl) (fun _ => Or.inl rfl) HL H (fun j hj => by simp at hj)
    rw [gm_gw] at a1 a2
    obtain ⟨C', Lt', Ln', Bt', HL', H', b1, b2⟩ := t_fw h hn (t + 1) h1 _ C2 Lt2 Ln2 Bt2 a1 a2 HL2 H2
    obtain ⟨q, hq⟩ := a3 C' Lt' Ln' Bt' HL' H' b1
    refine ⟨C', Lt', Ln', Bt', HL', H', ⟨q + 1, ?_⟩, b2⟩
    simp only [List.length_nil] at hq
    simp (disch := omega) only [T_Model_findWords, S_Model_findWords, B_Model_findWords_7, q_lit, le_T, le_F, lt_T, lt_F, eq_T, eq_F, m1_lt, m1_le, lt_m1, le_m1, eq_m1, m1_eq, nI_add, nI_sub, nI_dec, nI_mul, nI_or, nI_and, nI_div, nI_mod, and_255, and_31, and_1, and_63, nI_shl, nI_shr, bI_F, bI_1, vp_T, cl_T, true_implies, false_implies, not_true_eq_false, not_false_eq_true, true_and, and_true, false_and, and_false, Bool.false_eq_true, Bool.true_eq_false, reduceCtorEq, implies_true, q_lc_eq, q_lc_ge, q_lc_gt, q_lc_le, lN_or, lN_and, lN_shl, lN_shr, nI_L, lN_I, l_0]
    exact hq
  · rw [if_neg h1]
    refine ⟨C, Lt, Ln, Bt, HL, H, ⟨1, ?_⟩, hm⟩
    simp (disch := omega) only [T_Model_findWords, S_Model_findWords, B_Model_findWords_7, q_lit, le_T, le_F, lt_T, lt_F, eq_T, eq_F, m1_lt, m1_le, lt_m1, le_m1, eq_m1, m1_eq, nI_add, nI_sub, nI_dec, nI_mul, nI_or, nI_and, nI_div, nI_mod, and_255, and_31, and_1, and_63, nI_shl, nI_shr, bI_F, bI_1, vp_T, cl_T, true_implies, false_implies, not_true_eq_false, not_false_eq_true, true_and, and_true, false_and, and_false, Bool.false_eq_true, Bool.true_eq_false, reduceCtorEq, implies_true, q_lc_eq, q_lc_ge, q_lc_gt, q_lc_le, lN_or, lN_and, lN_shl, lN_shr, nI_L, lN_I, l_0]
termination_by bs.length - t
decreasing_by all_goals omega
theorem mo_find {Bo Le : Nat → Int32} {bs : List (List Nat)} (h : MB Bo Le bs) (hn : ∀ t, t < bs.length → nlast (bd bs t)) (C : Int32) (Lt Ln Bt : Nat → Int32) (HL : Int32) (H : Nat → Int32) :
    ∃ C' Lt' Ln' Bt' HL' H', D_Model_findWords (nI bs.length) Bo Le C Lt Ln Bt HL H C' Lt' Ln' Bt' HL' H' ∧ MW 12 1280 Lt' Ln' Bt' C' (gwA bs 0 []) := t_fw h hn 0 (by omega) [] (nI 0) Lt Ln Bt ⟨rfl, by simp, fun i hi => by simp at hi⟩ (by simp) HL H
