/-! Pure: words as numbers. -/
def encA : Nat → List Nat → Nat
  | 0, _ => 0
  | _ + 1, [] => 0
  | p + 1, x :: w => (x % 32) * 32 ^ p + encA p w
abbrev enc (w : List Nat) : Nat := encA 12 w
theorem encA_lt (p : Nat) (w : List Nat) : encA p w < 32 ^ p := by
  induction p generalizing w with
  | zero => simp [encA]
  | succ p ih =>
    cases w with
    | nil => simp [encA]; exact Nat.pow_pos (by omega)
    | cons x w =>
      have h1 := ih w
      have h2 : x % 32 ≤ 31 := by omega
      have h3 : (x % 32) * 32 ^ p ≤ 31 * 32 ^ p := Nat.mul_le_mul_right _ h2
      simp only [encA, Nat.pow_succ]
      omega
theorem enc_lt (w : List Nat) : enc w < 1152921504606846976 := encA_lt 12 w
theorem encA_app (p : Nat) (w : List Nat) (x : Nat) (h : w.length < p) : encA p (w ++ [x]) = encA p w + (x % 32) * 32 ^ (p - 1 - w.length) := by
  induction p generalizing w with
  | zero => omega
  | succ p ih =>
    cases w with
    | nil => cases p <;> simp [encA]
    | cons y w =>
      have h1 : w.length < p := by simpa using h
      simp only [List.cons_append, encA, List.length_cons]
      rw [ih w h1, show p + 1 - 1 - (w.length + 1) = p - 1 - w.length by omega]
      omega
theorem encA_app_ge (p : Nat) (w u : List Nat) (h : p ≤ w.length) : encA p (w ++ u) = encA p w := by
  induction p generalizing w with
  | zero => simp [encA]
  | succ p ih =>
    cases w with
    | nil => simp at h
    | cons y w =>
      simp only [List.cons_append, encA]
      rw [ih w (by simpa using h)]
/-- a word's number has no bits behind its letters -/
theorem encA_dvd (p : Nat) (w : List Nat) (h : w.length ≤ p) : 32 ^ (p - w.length) ∣ encA p w := by
  induction p generalizing w with
  | zero => simp [encA]
  | succ p ih =>
    cases w with
    | nil => simp [encA]
    | cons y w =>
      have h1 : w.length ≤ p := by simpa using h
      simp only [encA, List.length_cons, show p + 1 - (w.length + 1) = p - w.length by omega]
      exact Nat.dvd_add (Nat.dvd_trans (Nat.pow_dvd_pow 32 (Nat.sub_le _ _)) (Nat.dvd_mul_left _ _)) (ih w h1)
theorem pow32 (k : Nat) : (32 : Nat) ^ k = 2 ^ (5 * k) := by rw [Nat.pow_mul]
theorem enc_or (w : List Nat) (x : Nat) (h : w.length < 12) : enc w ||| ((x % 32) <<< (5 * (11 - w.length))) = enc (w ++ [x]) := by
  have h1 := encA_dvd 12 w (by omega)
  obtain ⟨q, hq⟩ := h1
  rw [show enc (w ++ [x]) = _ from encA_app 12 w x h, show enc w = _ from hq, Nat.shiftLeft_eq, pow32, pow32]
  have e1 : 5 * (12 - w.length) = 5 + 5 * (11 - w.length) := by omega
  have h3 : x % 32 * 2 ^ (5 * (11 - w.length)) < 2 ^ (5 * (12 - w.length)) := by
    rw [e1, Nat.pow_add]
    have : x % 32 < 2 ^ 5 := by omega
    exact (Nat.mul_lt_mul_right (Nat.pow_pos (by omega))).mpr this
  rw [← Nat.two_pow_add_eq_or_of_lt h3, show 12 - 1 - w.length = 11 - w.length by omega, hq, pow32]
theorem let_ext {w : List Nat} {x : Nat} (hx : x < 2147483648) (hw : w.length < 2147483648) : D_Letters_extended (lN (enc w)) (nI w.length) (nI x) (lN (enc (w ++ [x]))) := by
  have h0 := enc_lt w
  by_cases h : w.length < 12
  · simp (disch := omega) only [D_Letters_extended, q_lit, le_T, le_F, lt_T, lt_F, eq_T, eq_F, m1_lt, m1_le, lt_m1, le_m1, eq_m1, m1_eq, nI_add, nI_sub, nI_dec, nI_mul, nI_or, nI_and, nI_div, nI_mod, and_255, and_31, and_1, and_63, nI_shl, nI_shr, bI_F, bI_1, vp_T, cl_T, true_implies, false_implies, not_true_eq_false, not_false_eq_true, true_and, and_true, false_and, and_false, Bool.false_eq_true, Bool.true_eq_false, reduceCtorEq, implies_true, q_lc_eq, q_lc_ge, q_lc_gt, q_lc_le, lN_or, lN_and, lN_shl, lN_shr, nI_L, lN_I, l_0]
    rw [enc_or w x h]
  · simp (disch := omega) only [D_Letters_extended, q_lit, le_T, le_F, lt_T, lt_F, eq_T, eq_F, m1_lt, m1_le, lt_m1, le_m1, eq_m1, m1_eq, nI_add, nI_sub, nI_dec, nI_mul, nI_or, nI_and, nI_div, nI_mod, and_255, and_31, and_1, and_63, nI_shl, nI_shr, bI_F, bI_1, vp_T, cl_T, true_implies, false_implies, not_true_eq_false, not_false_eq_true, true_and, and_true, false_and, and_false, Bool.false_eq_true, Bool.true_eq_false, reduceCtorEq, implies_true, q_lc_eq, q_lc_ge, q_lc_gt, q_lc_le, lN_or, lN_and, lN_shl, lN_shr, nI_L, lN_I, l_0]
    rw [show enc (w ++ [x]) = enc w from encA_app_ge 12 w [x] (by omega)]
theorem encA_div (p : Nat) (w : List Nat) (k : Nat) (h : k < p) : encA p w / 32 ^ (p - 1 - k) % 32 = (w.getD k 0) % 32 := by
  induction p generalizing w k with
  | zero => omega
  | succ p ih =>
    cases w with
    | nil => simp [encA]
    | cons x w =>
      cases k with
      | zero =>
        simp only [encA, show p + 1 - 1 - 0 = p by omega, List.getD_cons_zero]
        rw [Nat.mul_comm, Nat.mul_add_div (Nat.pow_pos (by omega)), Nat.div_eq_of_lt (encA_lt p w)]
        omega
      | succ k =>
        have e : 32 ^ p = 32 ^ (p - 1 - k) * (32 * 32 ^ k) := by
          rw [← Nat.pow_succ', ← Nat.pow_add]; congr 1; omega
        simp only [encA, show p + 1 - 1 - (k + 1) = p - 1 - k by omega, List.getD_cons_succ]
        rw [e, show x % 32 * (32 ^ (p - 1 - k) * (32 * 32 ^ k)) = 32 ^ (p - 1 - k) * (32 * (32 ^ k * (x % 32))) by simp [Nat.mul_comm, Nat.mul_left_comm, Nat.mul_assoc]]
        rw [Nat.mul_add_div (Nat.pow_pos (by omega)), ← ih w k (by omega)]
        omega
theorem encA_mod (p : Nat) (w : List Nat) (k : Nat) (h : k ≤ p) : encA p w % 32 ^ (p - k) = encA (p - k) (w.drop k) := by
  induction p generalizing w k with
  | zero => simp [encA]
  | succ p ih =>
    cases k with
    | zero => simp; exact Nat.mod_eq_of_lt (encA_lt _ _)
    | succ k =>
      cases w with
      | nil => cases hq : p - k <;> simp [encA, hq]
      | cons x w =>
        have e : (32 : Nat) ^ p = 32 ^ (p - k) * 32 ^ k := by rw [← Nat.pow_add]; congr 1; omega
        simp only [encA, show p + 1 - (k + 1) = p - k by omega, List.drop_succ_cons]
        rw [e, show x % 32 * (32 ^ (p - k) * 32 ^ k) = 32 ^ (p - k) * (x % 32 * 32 ^ k) by simp [Nat.mul_comm, Nat.mul_left_comm, Nat.mul_assoc], Nat.mul_add_mod, ih w k (by omega)]
def smL (x : Nat) : Nat := if 65 ≤ x ∧ x ≤ 90 then x + 32 else x
/-- small letters -/
def q_Wd (w : List Nat) : Prop := ∀ x ∈ w, 97 ≤ x ∧ x ≤ 122
theorem encA_sm (p : Nat) (w : List Nat) : encA p (w.map smL) = encA p w := by
  induction p generalizing w with
  | zero => simp [encA]
  | succ p ih =>
    cases w with
    | nil => simp [encA]
    | cons x w =>
      simp only [List.map_cons, encA, ih w]
      congr 2
      unfold smL; split <;> omega
theorem encA_take (p : Nat) (w : List Nat) : encA p (w.take p) = encA p w := by
  induction p generalizing w with
  | zero => simp [encA]
  | succ p ih => cases w <;> simp [encA, ih]
theorem encA_pos {p : Nat} {x : Nat} {w : List Nat} (hx : ¬ x % 32 = 0) (hp : 0 < p) : 0 < encA p (x :: w) := by
  cases p with
  | zero => omega
  | succ p =>
    simp only [encA]
    have : 0 < x % 32 * 32 ^ p := Nat.mul_pos (by omega) (Nat.pow_pos (by omega))
    omega
theorem q_Wd.at {w : List Nat} (h : q_Wd w) {k : Nat} (hk : k < w.length) : 97 ≤ w.getD k 0 ∧ w.getD k 0 ≤ 122 := by
  have := h w[k] (List.getElem_mem hk)
  simpa [List.getD_eq_getElem?_getD, List.getElem?_eq_getElem hk] using this
theorem lN_z (n : Nat) : (lN n = lN 0) ↔ n % 18446744073709551616 = 0 := by
  rw [← Int64.toBitVec_inj, lN_bv, lN_bv, ← BitVec.toNat_inj, BitVec.toNat_ofNat, BitVec.toNat_ofNat]
theorem enc_rest {w : List Nat} (hw : q_Wd w) (hl : w.length ≤ 12) {k : Nat} (hk : k < 12) : (enc w <<< (5 * k + 4)) % 18446744073709551616 = 0 ↔ w.length ≤ k := by
  rw [Nat.shiftLeft_eq, show (18446744073709551616 : Nat) = 2 ^ (60 - 5 * k) * 2 ^ (5 * k + 4) by rw [← Nat.pow_add, show 60 - 5 * k + (5 * k + 4) = 64 by omega], Nat.mul_mod_mul_right]
  have e : (2 : Nat) ^ (60 - 5 * k) = 32 ^ (12 - k) := by rw [pow32]; congr 1; omega
  rw [e, show enc w = encA 12 w from rfl, encA_mod 12 w k (by omega)]
  have h2 : 0 < (2 : Nat) ^ (5 * k + 4) := Nat.pow_pos (by omega)
  constructor
  · intro h
    have h3 : encA (12 - k) (w.drop k) = 0 := by
      rcases Nat.mul_eq_zero.mp h with h | h <;> omega
    rcases Nat.lt_or_ge k w.length with h4 | h4
    · exfalso
      rw [List.drop_eq_getElem_cons h4] at h3
      have := hw w[k] (List.getElem_mem h4)
      have := encA_pos (p := 12 - k) (x := w[k]) (w := w.drop (k + 1)) (by omega) (by omega)
      omega
    · exact h4
  · intro h
    rw [List.drop_eq_nil_of_le h]
    have : 12 - k = (12 - k - 1) + 1 := by omega
    rw [this]; simp [encA]
theorem lc_z (a : Nat) : (lg_cmp (lN a) 0 = 0) ↔ a % 18446744073709551616 = 0 := by
  rw [lg_cmp_eq]; exact lN_z a
theorem t_length {w : List Nat} (hw : q_Wd w) (hl : w.length ≤ 12) (k : Nat) (hk : k ≤ w.length) : ∃ n, T_Letters_length (nI w.length) n (lN (enc w)) (nI k) := by
  by_cases h : k = w.length
  · refine ⟨1, ?_⟩
    show B_Letters_length_2 _ _ _ _
    by_cases h2 : k = 12
    · simp (disch := omega) only [B_Letters_length_2, q_lit, le_T, le_F, lt_T, lt_F, eq_T, eq_F, m1_lt, m1_le, lt_m1, le_m1, eq_m1, m1_eq, nI_add, nI_sub, nI_dec, nI_mul, nI_or, nI_and, nI_div, nI_mod, and_255, and_31, and_1, and_63, nI_shl, nI_shr, bI_F, bI_1, vp_T, cl_T, true_implies, false_implies, not_true_eq_false, not_false_eq_true, true_and, and_true, false_and, and_false, Bool.false_eq_true, Bool.true_eq_false, reduceCtorEq, implies_true]
    · have h3 := (enc_rest hw hl (k := k) (by omega)).mpr (by omega)
      have e : lg_cmp (lN (enc w) <<< (Int32.toInt64 (((5 * nI k) + 64) - 60) &&& 63)) 0 = 0 := by
        have : Int32.toInt64 (((5 * nI k) + 64) - 60) = lN (5 * k + 4) := by
          simp (disch := omega) only [q_lit, le_T, le_F, lt_T, lt_F, eq_T, eq_F, m1_lt, m1_le, lt_m1, le_m1, eq_m1, m1_eq, nI_add, nI_sub, nI_dec, nI_mul, nI_or, nI_and, nI_div, nI_mod, and_255, and_31, and_1, and_63, nI_shl, nI_shr, bI_F, bI_1, vp_T, cl_T, true_implies, false_implies, not_true_eq_false, not_false_eq_true, true_and, and_true, false_and, and_false, Bool.false_eq_true, Bool.true_eq_false, reduceCtorEq, implies_true, q_lc_eq, q_lc_ge, q_lc_gt, q_lc_le, lN_or, lN_and, lN_shl, lN_shr, nI_L, lN_I, l_0]
          rw [show 5 * k + 64 - 60 = 5 * k + 4 by omega]
        rw [this, lN_shl (by omega), lc_z]; exact h3
      unfold B_Letters_length_2
      rw [e]
      simp (disch := omega) only [q_lit, le_T, le_F, lt_T, lt_F, eq_T, eq_F, m1_lt, m1_le, lt_m1, le_m1, eq_m1, m1_eq, nI_add, nI_sub, nI_dec, nI_mul, nI_or, nI_and, nI_div, nI_mod, and_255, and_31, and_1, and_63, nI_shl, nI_shr, bI_F, bI_1, vp_T, cl_T, true_implies, false_implies, not_true_eq_false, not_false_eq_true, true_and, and_true, false_and, and_false, Bool.false_eq_true, Bool.true_eq_false, reduceCtorEq, implies_true]
  · obtain ⟨n, hn⟩ := t_length hw hl (k + 1) (by omega)
    refine ⟨n + 1, ?_⟩
    show B_Letters_length_2 _ _ _ _
    have e : ¬ lg_cmp (lN (enc w) <<< (Int32.toInt64 (((5 * nI k) + 64) - 60) &&& 63)) 0 = 0 := by
      have : Int32.toInt64 (((5 * nI k) + 64) - 60) = lN (5 * k + 4) := by
        simp (disch := omega) only [q_lit, le_T, le_F, lt_T, lt_F, eq_T, eq_F, m1_lt, m1_le, lt_m1, le_m1, eq_m1, m1_eq, nI_add, nI_sub, nI_dec, nI_mul, nI_or, nI_and, nI_div, nI_mod, and_255, and_31, and_1, and_63, nI_shl, nI_shr, bI_F, bI_1, vp_T, cl_T, true_implies, false_implies, not_true_eq_false, not_false_eq_true, true_and, and_true, false_and, and_false, Bool.false_eq_true, Bool.true_eq_false, reduceCtorEq, implies_true, q_lc_eq, q_lc_ge, q_lc_gt, q_lc_le, lN_or, lN_and, lN_shl, lN_shr, nI_L, lN_I, l_0]
        rw [show 5 * k + 64 - 60 = 5 * k + 4 by omega]
      rw [this, lN_shl (by omega), lc_z, enc_rest hw hl (by omega)]; omega
    unfold B_Letters_length_2
    refine ⟨fun h9 => ?_, fun _ => ⟨fun h9 => absurd h9 e, fun _ => by rw [nI_1]; exact hn⟩⟩
    · revert h9; simp (disch := omega) only [q_lit, le_T, le_F, lt_T, lt_F, eq_T, eq_F, m1_lt, m1_le, lt_m1, le_m1, eq_m1, m1_eq, nI_add, nI_sub, nI_dec, nI_mul, nI_or, nI_and, nI_div, nI_mod, and_255, and_31, and_1, and_63, nI_shl, nI_shr, bI_F, bI_1, vp_T, cl_T, true_implies, false_implies, not_true_eq_false, not_false_eq_true, true_and, and_true, false_and, and_false, Bool.false_eq_true, Bool.true_eq_false, reduceCtorEq, implies_true]
termination_by w.length - k
decreasing_by all_goals omega
theorem let_length {w : List Nat} (hw : q_Wd w) (hl : w.length ≤ 12) : D_Letters_length (lN (enc w)) (nI w.length) := t_length hw hl 0 (by omega)
theorem let_letter {w : List Nat} (hw : q_Wd w) {k : Nat} (hk : k < 12) : D_Letters_letter (lN (enc w)) (nI k) (nI (w.getD k 0)) := by
  have h0 := enc_lt w
  have h1 := encA_div 12 w k (by omega)
  have h2 : (enc w >>> (5 * (11 - k))) % 32 = w.getD k 0 % 32 := by
    rw [Nat.shiftRight_eq_div_pow, ← h1, pow32, show 12 - 1 - k = 11 - k by omega]
  simp (disch := omega) only [D_Letters_letter, h2, q_lit, le_T, le_F, lt_T, lt_F, eq_T, eq_F, m1_lt, m1_le, lt_m1, le_m1, eq_m1, m1_eq, nI_add, nI_sub, nI_dec, nI_mul, nI_or, nI_and, nI_div, nI_mod, and_255, and_31, and_1, and_63, nI_shl, nI_shr, bI_F, bI_1, vp_T, cl_T, true_implies, false_implies, not_true_eq_false, not_false_eq_true, true_and, and_true, false_and, and_false, Bool.false_eq_true, Bool.true_eq_false, reduceCtorEq, implies_true, q_lc_eq, q_lc_ge, q_lc_gt, q_lc_le, lN_or, lN_and, lN_shl, lN_shr, nI_L, lN_I, l_0]
  by_cases h3 : k < w.length
  · have := hw.at h3
    simp (disch := omega) only [q_lit, le_T, le_F, lt_T, lt_F, eq_T, eq_F, m1_lt, m1_le, lt_m1, le_m1, eq_m1, m1_eq, nI_add, nI_sub, nI_dec, nI_mul, nI_or, nI_and, nI_div, nI_mod, and_255, and_31, and_1, and_63, nI_shl, nI_shr, bI_F, bI_1, vp_T, cl_T, true_implies, false_implies, not_true_eq_false, not_false_eq_true, true_and, and_true, false_and, and_false, Bool.false_eq_true, Bool.true_eq_false, reduceCtorEq, implies_true]
  · have e : w.getD k 0 = 0 := by simp [List.getD_eq_getElem?_getD, List.getElem?_eq_none (Nat.le_of_not_lt h3)]
    simp (disch := omega) only [e, q_lit, le_T, le_F, lt_T, lt_F, eq_T, eq_F, m1_lt, m1_le, lt_m1, le_m1, eq_m1, m1_eq, nI_add, nI_sub, nI_dec, nI_mul, nI_or, nI_and, nI_div, nI_mod, and_255, and_31, and_1, and_63, nI_shl, nI_shr, bI_F, bI_1, vp_T, cl_T, true_implies, false_implies, not_true_eq_false, not_false_eq_true, true_and, and_true, false_and, and_false, Bool.false_eq_true, Bool.true_eq_false, reduceCtorEq, implies_true]
theorem let_sm_eq {x : Nat} (h : isLet x = true) : 97 ≤ smL x ∧ smL x ≤ 122 := by
  simp only [isLet, isSm, Bool.or_eq_true, Bool.and_eq_true, decide_eq_true_eq] at h
  unfold smL; split <;> omega
theorem t_word {n : Nat} {E : Nat → Int32} {C : Int32} {L : List Nat} (h : Rw n E C L) (hv : ∀ i, L.getD i 0 < 2147483648) {s f : Nat} (hf : f < 1073741824) (w : List Nat) (k : Nat) (hk : k < 1073741824) (hw : s + w.length = k) : ∃ m, T_Letters_word n E C (lN (enc (w ++ letRun L k f))) m (nI s) (nI f) (lN (enc w)) (nI k) := by
  by_cases h1 : f ≤ k
  · refine ⟨1, ?_⟩
    show B_Letters_word_5 _ _ _ _ _ _ _ _ _
    rw [letRun_stop (Or.inl h1), List.append_nil]
    simp (disch := omega) only [B_Letters_word_5, q_lit, le_T, le_F, lt_T, lt_F, eq_T, eq_F, m1_lt, m1_le, lt_m1, le_m1, eq_m1, m1_eq, nI_add, nI_sub, nI_dec, nI_mul, nI_or, nI_and, nI_div, nI_mod, and_255, and_31, and_1, and_63, nI_shl, nI_shr, bI_F, bI_1, vp_T, cl_T, true_implies, false_implies, not_true_eq_false, not_false_eq_true, true_and, and_true, false_and, and_false, Bool.false_eq_true, Bool.true_eq_false, reduceCtorEq, implies_true]
  · cases h2 : isLet (L.getD k 0) with
    | false =>
      refine ⟨1, ?_⟩
      show B_Letters_word_5 _ _ _ _ _ _ _ _ _
      rw [letRun_stop (Or.inr h2), List.append_nil]
      simp (disch := omega) only [B_Letters_word_5, q_lit, le_T, le_F, lt_T, lt_F, eq_T, eq_F, m1_lt, m1_le, lt_m1, le_m1, eq_m1, m1_eq, nI_add, nI_sub, nI_dec, nI_mul, nI_or, nI_and, nI_div, nI_mod, and_255, and_31, and_1, and_63, nI_shl, nI_shr, bI_F, bI_1, vp_T, cl_T, true_implies, false_implies, not_true_eq_false, not_false_eq_true, true_and, and_true, false_and, and_false, Bool.false_eq_true, Bool.true_eq_false, reduceCtorEq, implies_true]
      refine ⟨_, row_el h (by omega), _, let_isLetter (hv k), ?_⟩
      simp (disch := omega) only [h2, q_lit, le_T, le_F, lt_T, lt_F, eq_T, eq_F, m1_lt, m1_le, lt_m1, le_m1, eq_m1, m1_eq, nI_add, nI_sub, nI_dec, nI_mul, nI_or, nI_and, nI_div, nI_mod, and_255, and_31, and_1, and_63, nI_shl, nI_shr, bI_F, bI_1, vp_T, cl_T, true_implies, false_implies, not_true_eq_false, not_false_eq_true, true_and, and_true, false_and, and_false, Bool.false_eq_true, Bool.true_eq_false, reduceCtorEq, implies_true]
    | true =>
      obtain ⟨m, hm⟩ := t_word h hv hf (w ++ [L.getD k 0]) (k + 1) (s := s) (by omega) (by simp; omega)
      refine ⟨m + 1, ?_⟩
      show B_Letters_word_5 _ _ _ _ _ _ _ _ _
      rw [letRun_step (by omega) h2]
      simp (disch := omega) only [B_Letters_word_5, q_lit, le_T, le_F, lt_T, lt_F, eq_T, eq_F, m1_lt, m1_le, lt_m1, le_m1, eq_m1, m1_eq, nI_add, nI_sub, nI_dec, nI_mul, nI_or, nI_and, nI_div, nI_mod, and_255, and_31, and_1, and_63, nI_shl, nI_shr, bI_F, bI_1, vp_T, cl_T, true_implies, false_implies, not_true_eq_false, not_false_eq_true, true_and, and_true, false_and, and_false, Bool.false_eq_true, Bool.true_eq_false, reduceCtorEq, implies_true]
      refine ⟨_, row_el h (by omega), _, let_isLetter (hv k), ?_⟩
      simp (disch := omega) only [h2, q_lit, le_T, le_F, lt_T, lt_F, eq_T, eq_F, m1_lt, m1_le, lt_m1, le_m1, eq_m1, m1_eq, nI_add, nI_sub, nI_dec, nI_mul, nI_or, nI_and, nI_div, nI_mod, and_255, and_31, and_1, and_63, nI_shl, nI_shr, bI_F, bI_1, vp_T, cl_T, true_implies, false_implies, not_true_eq_false, not_false_eq_true, true_and, and_true, false_and, and_false, Bool.false_eq_true, Bool.true_eq_false, reduceCtorEq, implies_true]
      have e : nI (k - s) = nI w.length := by congr 1; omega
      refine ⟨_, row_el h (by omega), _, by rw [e]; exact let_ext (hv k) (by omega), ?_⟩
      simpa using hm
termination_by f - k
decreasing_by all_goals omega
theorem let_word {n : Nat} {E : Nat → Int32} {C : Int32} {L : List Nat} (h : Rw n E C L) (hv : ∀ i, L.getD i 0 < 2147483648) {s f : Nat} (hf : f < 1073741824) (hs : s < 1073741824) : D_Letters_word n (nI s) (nI f) E C (lN (enc (letRun L s f))) := by
  have := t_word h hv hf [] s (s := s) hs (by simp)
  simpa [D_Letters_word, encA, l_0] using this
/-- all from a place on, before another, are small letters -/
def smAll (L : List Nat) (k f : Nat) : Bool := ((List.range' k (f - k)).all fun i => isSm (L.getD i 0))
theorem smAll_stop {L : List Nat} {k f : Nat} (h : f ≤ k) : smAll L k f = true := by simp [smAll, Nat.sub_eq_zero_of_le h]
theorem smAll_step {L : List Nat} {k f : Nat} (h : k < f) : smAll L k f = (isSm (L.getD k 0) && smAll L (k + 1) f) := by
  unfold smAll
  rw [show f - k = (f - (k + 1)) + 1 by omega, List.range'_succ]; simp
def isWdS (L : List Nat) (s f m : Nat) : Bool := smAll L s f && decide (s < f) && decide (f - s ≤ m)
theorem t_isWord {n : Nat} {E : Nat → Int32} {C : Int32} {L : List Nat} (h : Rw n E C L) (hv : ∀ i, L.getD i 0 < 2147483648) {s f m : Nat} (hf : f < 1073741824) (hm : m < 1073741824) (k : Nat) (hk : k < 1073741824) (hs : s ≤ k) : ∃ q, T_Letters_isWord n E C (smAll L k f && decide (s < f) && decide (f - s ≤ m)) q (nI s) (nI f) (nI m) (nI k) := by
  by_cases h1 : f ≤ k
  · refine ⟨1, ?_⟩
    show B_Letters_isWord_3 _ _ _ _ _ _ _ _ _
    rw [smAll_stop h1]
    by_cases h2 : s < f
    · by_cases h3 : f - s ≤ m
      · simp (disch := omega) only [B_Letters_isWord_3, q_lit, le_T, le_F, lt_T, lt_F, eq_T, eq_F, m1_lt, m1_le, lt_m1, le_m1, eq_m1, m1_eq, nI_add, nI_sub, nI_dec, nI_mul, nI_or, nI_and, nI_div, nI_mod, and_255, and_31, and_1, and_63, nI_shl, nI_shr, bI_F, bI_1, vp_T, cl_T, true_implies, false_implies, not_true_eq_false, not_false_eq_true, true_and, and_true, false_and, and_false, Bool.false_eq_true, Bool.true_eq_false, reduceCtorEq, implies_true]
        simp [h2, h3]
      · simp (disch := omega) only [B_Letters_isWord_3, q_lit, le_T, le_F, lt_T, lt_F, eq_T, eq_F, m1_lt, m1_le, lt_m1, le_m1, eq_m1, m1_eq, nI_add, nI_sub, nI_dec, nI_mul, nI_or, nI_and, nI_div, nI_mod, and_255, and_31, and_1, and_63, nI_shl, nI_shr, bI_F, bI_1, vp_T, cl_T, true_implies, false_implies, not_true_eq_false, not_false_eq_true, true_and, and_true, false_and, and_false, Bool.false_eq_true, Bool.true_eq_false, reduceCtorEq, implies_true]
        simp [h2, h3]
    · simp (disch := omega) only [B_Letters_isWord_3, q_lit, le_T, le_F, lt_T, lt_F, eq_T, eq_F, m1_lt, m1_le, lt_m1, le_m1, eq_m1, m1_eq, nI_add, nI_sub, nI_dec, nI_mul, nI_or, nI_and, nI_div, nI_mod, and_255, and_31, and_1, and_63, nI_shl, nI_shr, bI_F, bI_1, vp_T, cl_T, true_implies, false_implies, not_true_eq_false, not_false_eq_true, true_and, and_true, false_and, and_false, Bool.false_eq_true, Bool.true_eq_false, reduceCtorEq, implies_true]
      simp [h2]
  · cases h2 : isSm (L.getD k 0) with
    | false =>
      refine ⟨1, ?_⟩
      show B_Letters_isWord_3 _ _ _ _ _ _ _ _ _
      rw [smAll_step (by omega), h2]
      simp (disch := omega) only [B_Letters_isWord_3, q_lit, le_T, le_F, lt_T, lt_F, eq_T, eq_F, m1_lt, m1_le, lt_m1, le_m1, eq_m1, m1_eq, nI_add, nI_sub, nI_dec, nI_mul, nI_or, nI_and, nI_div, nI_mod, and_255, and_31, and_1, and_63, nI_shl, nI_shr, bI_F, bI_1, vp_T, cl_T, true_implies, false_implies, not_true_eq_false, not_false_eq_true, true_and, and_true, false_and, and_false, Bool.false_eq_true, Bool.true_eq_false, reduceCtorEq, implies_true]
      refine ⟨_, row_el h (by omega), _, let_isSmall (hv k), ?_⟩
      simp (disch := omega) only [h2, q_lit, le_T, le_F, lt_T, lt_F, eq_T, eq_F, m1_lt, m1_le, lt_m1, le_m1, eq_m1, m1_eq, nI_add, nI_sub, nI_dec, nI_mul, nI_or, nI_and, nI_div, nI_mod, and_255, and_31, and_1, and_63, nI_shl, nI_shr, bI_F, bI_1, vp_T, cl_T, true_implies, false_implies, not_true_eq_false, not_false_eq_true, true_and, and_true, false_and, and_false, Bool.false_eq_true, Bool.true_eq_false, reduceCtorEq, implies_true]
      simp
    | true =>
      obtain ⟨q, hq⟩ := t_isWord h hv (s := s) hf hm (k + 1) (by omega) (by omega)
      refine ⟨q + 1, ?_⟩
      show B_Letters_isWord_3 _ _ _ _ _ _ _ _ _
      rw [smAll_step (by omega), h2]
      simp (disch := omega) only [B_Letters_isWord_3, q_lit, le_T, le_F, lt_T, lt_F, eq_T, eq_F, m1_lt, m1_le, lt_m1, le_m1, eq_m1, m1_eq, nI_add, nI_sub, nI_dec, nI_mul, nI_or, nI_and, nI_div, nI_mod, and_255, and_31, and_1, and_63, nI_shl, nI_shr, bI_F, bI_1, vp_T, cl_T, true_implies, false_implies, not_true_eq_false, not_false_eq_true, true_and, and_true, false_and, and_false, Bool.false_eq_true, Bool.true_eq_false, reduceCtorEq, implies_true]
      refine ⟨_, row_el h (by omega), _, let_isSmall (hv k), ?_⟩
      simp (disch := omega) only [h2, q_lit, le_T, le_F, lt_T, lt_F, eq_T, eq_F, m1_lt, m1_le, lt_m1, le_m1, eq_m1, m1_eq, nI_add, nI_sub, nI_dec, nI_mul, nI_or, nI_and, nI_div, nI_mod, and_255, and_31, and_1, and_63, nI_shl, nI_shr, bI_F, bI_1, vp_T, cl_T, true_implies, false_implies, not_true_eq_false, not_false_eq_true, true_and, and_true, false_and, and_false, Bool.false_eq_true, Bool.true_eq_false, reduceCtorEq, implies_true]
      simpa using hq
termination_by f - k
decreasing_by all_goals omega
theorem let_isWord {n : Nat} {E : Nat → Int32} {C : Int32} {L : List Nat} (h : Rw n E C L) (hv : ∀ i, L.getD i 0 < 2147483648) {s f m : Nat} (hf : f < 1073741824) (hm : m < 1073741824) (hs : s < 1073741824) : D_Letters_isWord n (nI s) (nI f) (nI m) E C (isWdS L s f m) := t_isWord h hv hf hm s hs (Nat.le_refl _)
