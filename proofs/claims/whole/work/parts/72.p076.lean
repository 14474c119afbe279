/-! Pure: the way down the tree of keywords. -/
theorem Sml.codes (m : List (List Nat × Nat)) : Sml (codes m) := fun i => by rw [codes_ce]; exact enc_lt _
theorem ins_len (x b : Nat) (l : List (Nat × Nat)) : (ins x b l).length ≤ l.length + 1 ∧ l.length ≤ (ins x b l).length := by
  induction l with
  | nil => simp [ins]
  | cons e r ih =>
    simp only [ins]
    split
    · simp only [List.length_cons]; omega
    · split <;> simp
theorem srt_cons (e : Nat × Nat) (r : List (Nat × Nat)) : Srt (e :: r) ↔ (∀ i, i < r.length → e.1 < ce r i) ∧ Srt r := by
  constructor
  · intro h
    refine ⟨fun i hi => ?_, fun i j h1 h2 => ?_⟩
    · simpa [ce] using h 0 (i + 1) (by omega) (by simpa using hi)
    · simpa [ce] using h (i + 1) (j + 1) (by omega) (by simpa using h2)
  · intro h i j h1 h2
    cases j with
    | zero => omega
    | succ j =>
      cases i with
      | zero => simpa [ce] using h.1 j (by simpa using h2)
      | succ i => simpa [ce] using h.2 i j (by omega) (by simpa using h2)
theorem ins_low {y x b : Nat} {r : List (Nat × Nat)} (h : ∀ i, i < r.length → y < ce r i) (hx : y < x) : ∀ i, i < (ins x b r).length → y < ce (ins x b r) i := by
  induction r with
  | nil =>
    intro i hi
    simp only [ins, List.length_cons, List.length_nil] at hi
    have : i = 0 := by omega
    subst this; simpa [ins, ce]
  | cons e r ih =>
    intro i hi
    have h0 : y < e.1 := by simpa [ce] using h 0 (by simp)
    have hr : ∀ i, i < r.length → y < ce r i := fun i hi => by simpa [ce] using h (i + 1) (by simpa using hi)
    simp only [ins] at hi ⊢
    split
    · rename_i h1
      rw [if_pos h1] at hi
      cases i with
      | zero => simpa [ce]
      | succ i => simpa [ce] using ih hr i (by simpa using hi)
    · rename_i h1
      rw [if_neg h1] at hi
      split
      · rename_i h2
        rw [if_pos h2] at hi
        cases i with
        | zero => simpa [ce]
        | succ i => simpa [ce] using hr i (by simpa using hi)
      · rename_i h2
        rw [if_neg h2] at hi
        cases i with
        | zero => simpa [ce]
        | succ i => simpa [ce] using h i (by simpa using hi)
theorem ins_srt {x b : Nat} {l : List (Nat × Nat)} (h : Srt l) : Srt (ins x b l) := by
  induction l with
  | nil => intro i j h1 h2; simp [ins] at h2; omega
  | cons e r ih =>
    have h1 := (srt_cons e r).mp h
    simp only [ins]
    split
    · rename_i h2
      exact (srt_cons _ _).mpr ⟨ins_low h1.1 h2, ih h1.2⟩
    · split
      · rename_i h2
        exact (srt_cons _ _).mpr ⟨fun i hi => by rw [← h2]; exact h1.1 i hi, h1.2⟩
      · rename_i h2 h3
        refine (srt_cons _ _).mpr ⟨fun i hi => ?_, h⟩
        cases i with
        | zero => simp [ce]; omega
        | succ i =>
          have := h1.1 i (by simpa using hi)
          simp only [ce, List.getD_cons_succ] at this ⊢
          omega
theorem srt_nil : Srt [] := fun i j _ h => absurd h (by simp)
def lnb (l : List (Nat × Nat)) (x f s : Nat) : Nat → Option Nat
  | 0 => none
  | k + 1 => if f + k * s < l.length ∧ ce l (f + k * s) ≤ x then some (f + k * s) else lnb l x f s k
def oI : Option Nat → Int32
  | none => -nI 1
  | some a => nI a
theorem lnb_lt {l : List (Nat × Nat)} {x f s k a : Nat} (h : lnb l x f s k = some a) : a < l.length := by
  induction k with
  | zero => simp [lnb] at h
  | succ k ih =>
    simp only [lnb] at h
    split at h
    · rename_i h1; cases h; exact h1.1
    · exact ih h
theorem t_last {n : Nat} {W : Nat → Int64} {T : Nat → Int32} {C : Int32} {l : List (Nat × Nat)} (h : CW n W T C l) (hm : Sml l) {x f s : Nat} (hx : x < 1152921504606846976) (hf : f < 1000) (hs : s < 1000) (k : Nat) (hk : k ≤ 4) : ∃ m, T_Tree_lastNotBehind n W C (oI (lnb l x f s k)) m (lN x) (nI f) (nI s) (nI k - nI 1) := by
  have h' := h
  obtain ⟨rfl, hl, hn, he⟩ := h
  cases k with
  | zero =>
    refine ⟨1, ?_⟩
    rw [m1_sub (a := 0)]
    simp only [T_Tree_lastNotBehind, S_Tree_lastNotBehind, B_Tree_lastNotBehind_3]
    refine ⟨fun _ => rfl, fun h9 => absurd ?_ h9⟩
    decide +kernel
  | succ k =>
    obtain ⟨m, hm1⟩ := t_last h' hm hx hf hs k (by omega)
    have hks : k * s ≤ 3 * 1000 := Nat.mul_le_mul (by omega) (by omega)
    rw [Int32.sub_eq_add_neg] at hm1
    refine ⟨m + 1, ?_⟩
    by_cases h1 : f + k * s < l.length
    · have hc := hm (f + k * s)
      by_cases h2 : ce l (f + k * s) ≤ x
      · simp only [lnb, if_pos (And.intro h1 h2), oI]
        simp (disch := omega) only [T_Tree_lastNotBehind, S_Tree_lastNotBehind, B_Tree_lastNotBehind_3, Nat.add_sub_cancel, q_lit, le_T, le_F, lt_T, lt_F, eq_T, eq_F, m1_lt, m1_le, lt_m1, le_m1, eq_m1, m1_eq, nI_add, nI_sub, nI_dec, nI_mul, nI_or, nI_and, nI_div, nI_mod, and_255, and_31, and_1, and_63, nI_shl, nI_shr, bI_F, bI_1, vp_T, cl_T, true_implies, false_implies, not_true_eq_false, not_false_eq_true, true_and, and_true, false_and, and_false, Bool.false_eq_true, Bool.true_eq_false, reduceCtorEq, implies_true, q_lc_eq, q_lc_ge, q_lc_gt, q_lc_le, lN_or, lN_and, lN_shl, lN_shr, nI_L, lN_I, l_0]
        exact ⟨_, wl_word h' h1, by simp (disch := omega) only [q_lit, le_T, le_F, lt_T, lt_F, eq_T, eq_F, m1_lt, m1_le, lt_m1, le_m1, eq_m1, m1_eq, nI_add, nI_sub, nI_dec, nI_mul, nI_or, nI_and, nI_div, nI_mod, and_255, and_31, and_1, and_63, nI_shl, nI_shr, bI_F, bI_1, vp_T, cl_T, true_implies, false_implies, not_true_eq_false, not_false_eq_true, true_and, and_true, false_and, and_false, Bool.false_eq_true, Bool.true_eq_false, reduceCtorEq, implies_true, q_lc_eq, q_lc_ge, q_lc_gt, q_lc_le, lN_or, lN_and, lN_shl, lN_shr, nI_L, lN_I, l_0]; exact fun h9 => absurd h9 (by omega)⟩
      · simp only [lnb, if_neg (fun h9 : f + k * s < l.length ∧ ce l (f + k * s) ≤ x => h2 h9.2)]
        simp (disch := omega) only [T_Tree_lastNotBehind, S_Tree_lastNotBehind, B_Tree_lastNotBehind_3, Nat.add_sub_cancel, q_lit, le_T, le_F, lt_T, lt_F, eq_T, eq_F, m1_lt, m1_le, lt_m1, le_m1, eq_m1, m1_eq, nI_add, nI_sub, nI_dec, nI_mul, nI_or, nI_and, nI_div, nI_mod, and_255, and_31, and_1, and_63, nI_shl, nI_shr, bI_F, bI_1, vp_T, cl_T, true_implies, false_implies, not_true_eq_false, not_false_eq_true, true_and, and_true, false_and, and_false, Bool.false_eq_true, Bool.true_eq_false, reduceCtorEq, implies_true, q_lc_eq, q_lc_ge, q_lc_gt, q_lc_le, lN_or, lN_and, lN_shl, lN_shr, nI_L, lN_I, l_0]
        exact ⟨_, wl_word h' h1, by simp (disch := omega) only [q_lit, le_T, le_F, lt_T, lt_F, eq_T, eq_F, m1_lt, m1_le, lt_m1, le_m1, eq_m1, m1_eq, nI_add, nI_sub, nI_dec, nI_mul, nI_or, nI_and, nI_div, nI_mod, and_255, and_31, and_1, and_63, nI_shl, nI_shr, bI_F, bI_1, vp_T, cl_T, true_implies, false_implies, not_true_eq_false, not_false_eq_true, true_and, and_true, false_and, and_false, Bool.false_eq_true, Bool.true_eq_false, reduceCtorEq, implies_true, q_lc_eq, q_lc_ge, q_lc_gt, q_lc_le, lN_or, lN_and, lN_shl, lN_shr, nI_L, lN_I, l_0]; exact ⟨fun _ => hm1, fun h9 => absurd (by omega) h9⟩⟩
    · simp only [lnb, if_neg (fun h9 : f + k * s < l.length ∧ ce l (f + k * s) ≤ x => h1 h9.1)]
      simp (disch := omega) only [T_Tree_lastNotBehind, S_Tree_lastNotBehind, B_Tree_lastNotBehind_3, Nat.add_sub_cancel, q_lit, le_T, le_F, lt_T, lt_F, eq_T, eq_F, m1_lt, m1_le, lt_m1, le_m1, eq_m1, m1_eq, nI_add, nI_sub, nI_dec, nI_mul, nI_or, nI_and, nI_div, nI_mod, and_255, and_31, and_1, and_63, nI_shl, nI_shr, bI_F, bI_1, vp_T, cl_T, true_implies, false_implies, not_true_eq_false, not_false_eq_true, true_and, and_true, false_and, and_false, Bool.false_eq_true, Bool.true_eq_false, reduceCtorEq, implies_true, q_lc_eq, q_lc_ge, q_lc_gt, q_lc_le, lN_or, lN_and, lN_shl, lN_shr, nI_L, lN_I, l_0]
      exact hm1
theorem tr_last {n : Nat} {W : Nat → Int64} {T : Nat → Int32} {C : Int32} {l : List (Nat × Nat)} (h : CW n W T C l) (hm : Sml l) {x f s : Nat} (hx : x < 1152921504606846976) (hf : f < 1000) (hs : s < 1000) : D_Tree_lastNotBehind n (lN x) (nI f) (nI s) W C (oI (lnb l x f s 4)) := t_last h hm hx hf hs 4 (by omega)
def wayN (l : List (Nat × Nat)) (x : Nat) : Nat → Nat → Nat
  | 0, _ => 1
  | e + 1, f => match lnb l x f (4 ^ (e + 1)) 4 with
    | none => 1
    | some a => wayN l x e a + 1
def wayR (l : List (Nat × Nat)) (x : Nat) : Nat → Nat → Option Nat
  | 0, f => lnb l x f 1 4
  | e + 1, f => match lnb l x f (4 ^ (e + 1)) 4 with
    | none => none
    | some a => wayR l x e a
theorem t1_way {n : Nat} {W : Nat → Int64} {T : Nat → Int32} {C : Int32} {l : List (Nat × Nat)} (h : CW n W T C l) (hm : Sml l) (hl : l.length ≤ 250) {x : Nat} (hx : x < 1152921504606846976) (e : Nat) (he : e ≤ 3) (v f : Nat) (hf : f < 1000) (hv : v + e < 1000) : ∃ m, T_Tree_nodesOnTheWay n W C (nI (v + wayN l x e f)) m 1 (lN x) (nI (4 ^ e)) (nI v) (nI f) := by
  have hp : 4 ^ e ≤ 64 := by
    have : (4 : Nat) ^ e ≤ 4 ^ 3 := Nat.pow_le_pow_right (by omega) he
    omega
  have hp0 : 0 < 4 ^ e := Nat.pow_pos (by omega)
  cases e with
  | zero =>
    refine ⟨2, ?_⟩
    simp (disch := omega) only [T_Tree_nodesOnTheWay, S_Tree_nodesOnTheWay, B_Tree_nodesOnTheWay_36, Nat.pow_zero, q_lit, le_T, le_F, lt_T, lt_F, eq_T, eq_F, m1_lt, m1_le, lt_m1, le_m1, eq_m1, m1_eq, nI_add, nI_sub, nI_dec, nI_mul, nI_or, nI_and, nI_div, nI_mod, and_255, and_31, and_1, and_63, nI_shl, nI_shr, bI_F, bI_1, vp_T, cl_T, true_implies, false_implies, not_true_eq_false, not_false_eq_true, true_and, and_true, false_and, and_false, Bool.false_eq_true, Bool.true_eq_false, reduceCtorEq, implies_true, q_lc_eq, q_lc_ge, q_lc_gt, q_lc_le, lN_or, lN_and, lN_shl, lN_shr, nI_L, lN_I, l_0]
    refine ⟨_, tr_last h hm hx hf (by omega), ?_⟩
    simp (disch := omega) only [T_Tree_nodesOnTheWay, S_Tree_nodesOnTheWay, B_Tree_nodesOnTheWay_36, wayN, q_lit, le_T, le_F, lt_T, lt_F, eq_T, eq_F, m1_lt, m1_le, lt_m1, le_m1, eq_m1, m1_eq, nI_add, nI_sub, nI_dec, nI_mul, nI_or, nI_and, nI_div, nI_mod, and_255, and_31, and_1, and_63, nI_shl, nI_shr, bI_F, bI_1, vp_T, cl_T, true_implies, false_implies, not_true_eq_false, not_false_eq_true, true_and, and_true, false_and, and_false, Bool.false_eq_true, Bool.true_eq_false, reduceCtorEq, implies_true, q_lc_eq, q_lc_ge, q_lc_gt, q_lc_le, lN_or, lN_and, lN_shl, lN_shr, nI_L, lN_I, l_0]
  | succ e =>
    have e4 : 4 ^ (e + 1) / 4 = 4 ^ e := by rw [Nat.pow_succ]; omega
    cases hq : lnb l x f (4 ^ (e + 1)) 4 with
    | none =>
      refine ⟨2, ?_⟩
      simp (disch := omega) only [T_Tree_nodesOnTheWay, S_Tree_nodesOnTheWay, B_Tree_nodesOnTheWay_36, q_lit, le_T, le_F, lt_T, lt_F, eq_T, eq_F, m1_lt, m1_le, lt_m1, le_m1, eq_m1, m1_eq, nI_add, nI_sub, nI_dec, nI_mul, nI_or, nI_and, nI_div, nI_mod, and_255, and_31, and_1, and_63, nI_shl, nI_shr, bI_F, bI_1, vp_T, cl_T, true_implies, false_implies, not_true_eq_false, not_false_eq_true, true_and, and_true, false_and, and_false, Bool.false_eq_true, Bool.true_eq_false, reduceCtorEq, implies_true, q_lc_eq, q_lc_ge, q_lc_gt, q_lc_le, lN_or, lN_and, lN_shl, lN_shr, nI_L, lN_I, l_0]
      refine ⟨_, tr_last h hm hx hf (by omega), ?_⟩
      simp only [hq, oI]
      simp (disch := omega) only [T_Tree_nodesOnTheWay, S_Tree_nodesOnTheWay, B_Tree_nodesOnTheWay_36, wayN, hq, q_lit, le_T, le_F, lt_T, lt_F, eq_T, eq_F, m1_lt, m1_le, lt_m1, le_m1, eq_m1, m1_eq, nI_add, nI_sub, nI_dec, nI_mul, nI_or, nI_and, nI_div, nI_mod, and_255, and_31, and_1, and_63, nI_shl, nI_shr, bI_F, bI_1, vp_T, cl_T, true_implies, false_implies, not_true_eq_false, not_false_eq_true, true_and, and_true, false_and, and_false, Bool.false_eq_true, Bool.true_eq_false, reduceCtorEq, implies_true, q_lc_eq, q_lc_ge, q_lc_gt, q_lc_le, lN_or, lN_and, lN_shl, lN_shr, nI_L, lN_I, l_0]
    | some a =>
      have ha := lnb_lt hq
      obtain ⟨m, hm1⟩ := t1_way h hm hl hx e (by omega) (v + 1) a (by omega) (by omega)
      refine ⟨m + 1, ?_⟩
      simp (disch := omega) only [T_Tree_nodesOnTheWay, S_Tree_nodesOnTheWay, B_Tree_nodesOnTheWay_36, q_lit, le_T, le_F, lt_T, lt_F, eq_T, eq_F, m1_lt, m1_le, lt_m1, le_m1, eq_m1, m1_eq, nI_add, nI_sub, nI_dec, nI_mul, nI_or, nI_and, nI_div, nI_mod, and_255, and_31, and_1, and_63, nI_shl, nI_shr, bI_F, bI_1, vp_T, cl_T, true_implies, false_implies, not_true_eq_false, not_false_eq_true, true_and, and_true, false_and, and_false, Bool.false_eq_true, Bool.true_eq_false, reduceCtorEq, implies_true, q_lc_eq, q_lc_ge, q_lc_gt, q_lc_le, lN_or, lN_and, lN_shl, lN_shr, nI_L, lN_I, l_0]
      refine ⟨_, tr_last h hm hx hf (by omega), ?_⟩
      simp only [hq, oI, wayN, e4]
      rw [show v + (wayN l x e a + 1) = v + 1 + wayN l x e a by omega]
      exact hm1
def topE (n : Nat) : Nat := if n ≤ 4 then 0 else if n ≤ 16 then 1 else if n ≤ 64 then 2 else 3
theorem tr_nodes {n : Nat} {W : Nat → Int64} {T : Nat → Int32} {C : Int32} {l : List (Nat × Nat)} (h : CW n W T C l) (hm : Sml l) (hl : l.length ≤ 250) {x : Nat} (hx : x < 1152921504606846976) : D_Tree_nodesOnTheWay n (lN x) W C (nI (if l.length = 0 then 0 else wayN l x (topE l.length) 0)) := by
  have h' := h
  obtain ⟨rfl, hln, hn, he⟩ := h
  by_cases h0 : l.length = 0
  · refine ⟨2, ?_⟩
    rw [if_pos h0]
    simp (disch := omega) only [T_Tree_nodesOnTheWay, S_Tree_nodesOnTheWay, B_Tree_nodesOnTheWay_2, B_Tree_nodesOnTheWay_36, q_lit, le_T, le_F, lt_T, lt_F, eq_T, eq_F, m1_lt, m1_le, lt_m1, le_m1, eq_m1, m1_eq, nI_add, nI_sub, nI_dec, nI_mul, nI_or, nI_and, nI_div, nI_mod, and_255, and_31, and_1, and_63, nI_shl, nI_shr, bI_F, bI_1, vp_T, cl_T, true_implies, false_implies, not_true_eq_false, not_false_eq_true, true_and, and_true, false_and, and_false, Bool.false_eq_true, Bool.true_eq_false, reduceCtorEq, implies_true, q_lc_eq, q_lc_ge, q_lc_gt, q_lc_le, lN_or, lN_and, lN_shl, lN_shr, nI_L, lN_I, l_0]
  · rw [if_neg h0]
    have key := fun e (he : e ≤ 3) => t1_way h' hm hl hx e he 0 0 (by omega) (by omega)
    simp only [Nat.zero_add] at key
    by_cases h1 : l.length ≤ 4
    · obtain ⟨m, hm1⟩ := key 0 (by omega)
      refine ⟨m + 1, ?_⟩
      rw [show topE l.length = 0 by simp [topE, h1]]
      simp (disch := omega) only [T_Tree_nodesOnTheWay, S_Tree_nodesOnTheWay, B_Tree_nodesOnTheWay_2, q_lit, le_T, le_F, lt_T, lt_F, eq_T, eq_F, m1_lt, m1_le, lt_m1, le_m1, eq_m1, m1_eq, nI_add, nI_sub, nI_dec, nI_mul, nI_or, nI_and, nI_div, nI_mod, and_255, and_31, and_1, and_63, nI_shl, nI_shr, bI_F, bI_1, vp_T, cl_T, true_implies, false_implies, not_true_eq_false, not_false_eq_true, true_and, and_true, false_and, and_false, Bool.false_eq_true, Bool.true_eq_false, reduceCtorEq, implies_true, q_lc_eq, q_lc_ge, q_lc_gt, q_lc_le, lN_or, lN_and, lN_shl, lN_shr, nI_L, lN_I, l_0]
      exact hm1
    · by_cases h2 : l.length ≤ 16
      · obtain ⟨m, hm1⟩ := key 1 (by omega)
        refine ⟨m + 2, ?_⟩
        rw [show topE l.length = 1 by simp [topE, h1, h2]]
        simp (disch := omega) only [T_Tree_nodesOnTheWay, S_Tree_nodesOnTheWay, B_Tree_nodesOnTheWay_2, q_lit, le_T, le_F, lt_T, lt_F, eq_T, eq_F, m1_lt, m1_le, lt_m1, le_m1, eq_m1, m1_eq, nI_add, nI_sub, nI_dec, nI_mul, nI_or, nI_and, nI_div, nI_mod, and_255, and_31, and_1, and_63, nI_shl, nI_shr, bI_F, bI_1, vp_T, cl_T, true_implies, false_implies, not_true_eq_false, not_false_eq_true, true_and, and_true, false_and, and_false, Bool.false_eq_true, Bool.true_eq_false, reduceCtorEq, implies_true, q_lc_eq, q_lc_ge, q_lc_gt, q_lc_le, lN_or, lN_and, lN_shl, lN_shr, nI_L, lN_I, l_0]
        exact hm1
      · by_cases h3 : l.length ≤ 64
        · obtain ⟨m, hm1⟩ := key 2 (by omega)
          refine ⟨m + 3, ?_⟩
          rw [show topE l.length = 2 by simp [topE, h1, h2, h3]]
          simp (disch := omega) only [T_Tree_nodesOnTheWay, S_Tree_nodesOnTheWay, B_Tree_nodesOnTheWay_2, q_lit, le_T, le_F, lt_T, lt_F, eq_T, eq_F, m1_lt, m1_le, lt_m1, le_m1, eq_m1, m1_eq, nI_add, nI_sub, nI_dec, nI_mul, nI_or, nI_and, nI_div, nI_mod, and_255, and_31, and_1, and_63, nI_shl, nI_shr, bI_F, bI_1, vp_T, cl_T, true_implies, false_implies, not_true_eq_false, not_false_eq_true, true_and, and_true, false_and, and_false, Bool.false_eq_true, Bool.true_eq_false, reduceCtorEq, implies_true, q_lc_eq, q_lc_ge, q_lc_gt, q_lc_le, lN_or, lN_and, lN_shl, lN_shr, nI_L, lN_I, l_0]
          exact hm1
        · obtain ⟨m, hm1⟩ := key 3 (by omega)
          refine ⟨m + 4, ?_⟩
          rw [show topE l.length = 3 by simp [topE, h1, h2, h3]]
          simp (disch := omega) only [T_Tree_nodesOnTheWay, S_Tree_nodesOnTheWay, B_Tree_nodesOnTheWay_2, q_lit, le_T, le_F, lt_T, lt_F, eq_T, eq_F, m1_lt, m1_le, lt_m1, le_m1, eq_m1, m1_eq, nI_add, nI_sub, nI_dec, nI_mul, nI_or, nI_and, nI_div, nI_mod, and_255, and_31, and_1, and_63, nI_shl, nI_shr, bI_F, bI_1, vp_T, cl_T, true_implies, false_implies, not_true_eq_false, not_false_eq_true, true_and, and_true, false_and, and_false, Bool.false_eq_true, Bool.true_eq_false, reduceCtorEq, implies_true, q_lc_eq, q_lc_ge, q_lc_gt, q_lc_le, lN_or, lN_and, lN_shl, lN_shr, nI_L, lN_I, l_0]
          exact hm1
/-- between two places of the order -/
theorem lnb_in {l : List (Nat × Nat)} (hs : Srt l) {x f s p : Nat} (hp : p < l.length) (hx : ce l p = x) (k : Nat) (h1 : f ≤ p) (h2 : p < f + k * s) (h3 : 0 < s) : ∃ a, lnb l x f s k = some a ∧ a ≤ p ∧ p < a + s := by
  induction k with
  | zero => omega
  | succ k ih =>
    simp only [lnb]
    rw [Nat.succ_mul] at h2
    by_cases h4 : f + k * s ≤ p
    · have h5 : ce l (f + k * s) ≤ x := by
        rcases Nat.lt_or_ge (f + k * s) p with h6 | h6
        · have := hs _ _ h6 hp; omega
        · have : f + k * s = p := by omega
          rw [this]; omega
      rw [if_pos ⟨by omega, h5⟩]
      exact ⟨_, rfl, h4, by omega⟩
    · have h5 : ¬ (f + k * s < l.length ∧ ce l (f + k * s) ≤ x) := by
        rintro ⟨h6, h7⟩
        have := hs _ _ (show p < f + k * s by omega) h6
        omega
      rw [if_neg h5]
      exact ih (by omega)
theorem wayR_in {l : List (Nat × Nat)} (hs : Srt l) {x p : Nat} (hp : p < l.length) (hx : ce l p = x) (e f : Nat) (h1 : f ≤ p) (h2 : p < f + 4 * 4 ^ e) : wayR l x e f = some p := by
  induction e generalizing f with
  | zero =>
    obtain ⟨a, h3, h4, h5⟩ := lnb_in hs hp hx 4 (f := f) (s := 1) h1 (by omega) (by omega)
    rw [wayR, h3]; congr 1; omega
  | succ e ih =>
    have h0 : 0 < 4 ^ (e + 1) := Nat.pow_pos (by omega)
    obtain ⟨a, h3, h4, h5⟩ := lnb_in hs hp hx 4 (f := f) (s := 4 ^ (e + 1)) h1 (by omega) h0
    simp only [wayR, h3]
    refine ih a h4 ?_
    rw [Nat.pow_succ] at h5; omega
theorem wayR_lt {l : List (Nat × Nat)} {x e f a : Nat} (h : wayR l x e f = some a) : a < l.length := by
  induction e generalizing f with
  | zero => exact lnb_lt h
  | succ e ih =>
    simp only [wayR] at h
    split at h
    · simp at h
    · exact ih h
def wayB (l : List (Nat × Nat)) (x e : Nat) : Nat := match wayR l x e 0 with
  | none => 0
  | some a => if ce l a = x then cb l a else 0
theorem wayB_eq {l : List (Nat × Nat)} (hs : Srt l) (hl : l.length ≤ 250) (x : Nat) : wayB l x (topE l.length) = q_bitsOf x l := by
  have ht : l.length ≤ 4 * 4 ^ topE l.length := by
    unfold topE
    split
    · omega
    · split
      · omega
      · split <;> omega
  unfold q_bitsOf
  by_cases h : plc x l < l.length ∧ ce l (plc x l) = x
  · rw [if_pos h]
    unfold wayB
    rw [wayR_in hs h.1 h.2 _ 0 (by omega) (by omega)]
    simp only [h.2, if_true]
  · rw [if_neg h]
    unfold wayB
    cases hq : wayR l x (topE l.length) 0 with
    | none => rfl
    | some a =>
      have ha := wayR_lt hq
      by_cases h1 : ce l a = x
      · exfalso
        have : a = plc x l := plc_uni (by omega) (fun i hi => by have := hs i a hi ha; omega) (fun _ => by omega)
        subst this
        exact h ⟨ha, h1⟩
      · simp [h1]
