/-! Pure: keyword on both sides. -/
theorem mo_keyAg {H Lt Ln Bt : Nat → Int32} {HL C : Int32} {w : List Nat} {m : List (List Nat × Nat)} (hh : q_Hd H HL w) (hw : q_Wd w) (hm : MW 8 250 Lt Ln Bt C m) {k : Nat} (hk : k < m.length) : D_Model_keyAgainst (nI k) HL H Lt Ln (agn w (mw m k)) := by
  obtain ⟨rfl, hl, hm2⟩ := hm
  have e := hm2 k hk
  simp (disch := omega) only [D_Model_keyAgainst, e.1, q_lit, le_T, le_F, lt_T, lt_F, eq_T, eq_F, m1_lt, m1_le, lt_m1, le_m1, eq_m1, m1_eq, nI_add, nI_sub, nI_dec, nI_mul, nI_or, nI_and, nI_div, nI_mod, and_255, and_31, and_1, and_63, nI_shl, nI_shr, bI_F, bI_1, vp_T, cl_T, true_implies, false_implies, not_true_eq_false, not_false_eq_true, true_and, and_true, false_and, and_false, Bool.false_eq_true, Bool.true_eq_false, reduceCtorEq, implies_true]
  exact ⟨_, mo_ag_seenKeyLetters hh hw e.2.2.1 (at0 := 8 * k) (by have := e.2.2.2.1; omega) e.2.2.2.2, rfl⟩
theorem t2_desc {H Lt Ln Bt : Nat → Int32} {HL C : Int32} {w : List Nat} {m : List (List Nat × Nat)} (hh : q_Hd H HL w) (hw : q_Wd w) (hm : MW 8 250 Lt Ln Bt C m) {R V v : Int32} {f s : Nat} (hf : f < 1000) (hs : s < 1000) (hend : ∃ q, T_Model_descend HL H C Lt Ln Bt R V q 2 (nI 0) (nI f) (nI s) (oI (lnb (codes m) (enc w) f s 4)) (nI 4) v) (k : Nat) (hk : k ≤ 4) : ∃ q, T_Model_descend HL H C Lt Ln Bt R V q 2 (nI 0) (nI f) (nI s) (oI (lnb (codes m) (enc w) f s k)) (nI k) v := by
  by_cases h4 : k = 4
  · subst h4; exact hend
  · obtain ⟨q, hq⟩ := t2_desc hh hw hm hf hs hend (k + 1) (by omega)
    have hm' := hm
    obtain ⟨rfl, hl, hm2⟩ := hm
    have hks : k * s ≤ 3 * 1000 := Nat.mul_le_mul (by omega) (by omega)
    by_cases h1 : f + k * s < m.length
    · have e := hm2 _ h1
      have hag := mo_keyAg hh hw hm' h1
      by_cases h2 : enc (mw m (f + k * s)) ≤ enc w
      · simp only [lnb, codes_len, codes_ce, if_pos (And.intro h1 h2), oI] at hq
        refine ⟨q + 1, ?_⟩
        simp (disch := omega) only [T_Model_descend, S_Model_descend, B_Model_descend_34, q_lit, le_T, le_F, lt_T, lt_F, eq_T, eq_F, m1_lt, m1_le, lt_m1, le_m1, eq_m1, m1_eq, nI_add, nI_sub, nI_dec, nI_mul, nI_or, nI_and, nI_div, nI_mod, and_255, and_31, and_1, and_63, nI_shl, nI_shr, bI_F, bI_1, vp_T, cl_T, true_implies, false_implies, not_true_eq_false, not_false_eq_true, true_and, and_true, false_and, and_false, Bool.false_eq_true, Bool.true_eq_false, reduceCtorEq, implies_true, q_lc_eq, q_lc_ge, q_lc_gt, q_lc_le, lN_or, lN_and, lN_shl, lN_shr, nI_L, lN_I, l_0]
        refine ⟨_, hag, ?_⟩
        rw [agn_lt hw e.2.2.1 (by have := e.2.2.2.1; omega) (Or.inr (by have := e.2.2.2.1; omega))]
        exact ⟨fun h9 => absurd h2 (by omega), fun _ => hq⟩
      · simp only [lnb, codes_len, codes_ce, if_neg (fun h9 : f + k * s < m.length ∧ enc (mw m (f + k * s)) ≤ enc w => h2 h9.2)] at hq
        refine ⟨q + 2, ?_⟩
        simp (disch := omega) only [T_Model_descend, S_Model_descend, B_Model_descend_34, B_Model_descend_71, q_lit, le_T, le_F, lt_T, lt_F, eq_T, eq_F, m1_lt, m1_le, lt_m1, le_m1, eq_m1, m1_eq, nI_add, nI_sub, nI_dec, nI_mul, nI_or, nI_and, nI_div, nI_mod, and_255, and_31, and_1, and_63, nI_shl, nI_shr, bI_F, bI_1, vp_T, cl_T, true_implies, false_implies, not_true_eq_false, not_false_eq_true, true_and, and_true, false_and, and_false, Bool.false_eq_true, Bool.true_eq_false, reduceCtorEq, implies_true, q_lc_eq, q_lc_ge, q_lc_gt, q_lc_le, lN_or, lN_and, lN_shl, lN_shr, nI_L, lN_I, l_0]
        refine ⟨_, hag, ?_⟩
        rw [agn_lt hw e.2.2.1 (by have := e.2.2.2.1; omega) (Or.inr (by have := e.2.2.2.1; omega))]
        exact ⟨fun _ => hq, fun h9 => absurd (by omega) h9⟩
    · simp only [lnb, codes_len, codes_ce, if_neg (fun h9 : f + k * s < m.length ∧ enc (mw m (f + k * s)) ≤ enc w => h1 h9.1)] at hq
      refine ⟨q + 2, ?_⟩
      simp (disch := omega) only [T_Model_descend, S_Model_descend, B_Model_descend_34, B_Model_descend_71, q_lit, le_T, le_F, lt_T, lt_F, eq_T, eq_F, m1_lt, m1_le, lt_m1, le_m1, eq_m1, m1_eq, nI_add, nI_sub, nI_dec, nI_mul, nI_or, nI_and, nI_div, nI_mod, and_255, and_31, and_1, and_63, nI_shl, nI_shr, bI_F, bI_1, vp_T, cl_T, true_implies, false_implies, not_true_eq_false, not_false_eq_true, true_and, and_true, false_and, and_false, Bool.false_eq_true, Bool.true_eq_false, reduceCtorEq, implies_true, q_lc_eq, q_lc_ge, q_lc_gt, q_lc_le, lN_or, lN_and, lN_shl, lN_shr, nI_L, lN_I, l_0]
      exact hq
termination_by 4 - k
decreasing_by all_goals omega
def wayF (l : List (Nat × Nat)) (x : Nat) (o : Option Nat) : Nat := match o with
  | none => 0
  | some a => if ce l a = x then cb l a else 0
theorem t4_desc {H Lt Ln Bt : Nat → Int32} {HL C : Int32} {w : List Nat} {m : List (List Nat × Nat)} (hh : q_Hd H HL w) (hw : q_Wd w) (hm : MW 8 250 Lt Ln Bt C m) {V : Int32} {o : Option Nat} (ho : ∀ a, o = some a → a < m.length) : ∃ q, T_Model_descend HL H C Lt Ln Bt (nI (wayF (codes m) (enc w) o)) V q 4 (nI 0) (nI 0) (nI 0) (oI o) (nI 0) V := by
  refine ⟨1, ?_⟩
  cases o with
  | none =>
    simp only [oI, wayF]
    simp (disch := omega) only [T_Model_descend, S_Model_descend, B_Model_descend_91, q_lit, le_T, le_F, lt_T, lt_F, eq_T, eq_F, m1_lt, m1_le, lt_m1, le_m1, eq_m1, m1_eq, nI_add, nI_sub, nI_dec, nI_mul, nI_or, nI_and, nI_div, nI_mod, and_255, and_31, and_1, and_63, nI_shl, nI_shr, bI_F, bI_1, vp_T, cl_T, true_implies, false_implies, not_true_eq_false, not_false_eq_true, true_and, and_true, false_and, and_false, Bool.false_eq_true, Bool.true_eq_false, reduceCtorEq, implies_true, q_lc_eq, q_lc_ge, q_lc_gt, q_lc_le, lN_or, lN_and, lN_shl, lN_shr, nI_L, lN_I, l_0]
  | some a =>
    have ha := ho a rfl
    have hag := mo_keyAg hh hw hm ha
    have hm' := hm
    obtain ⟨rfl, hl, hm2⟩ := hm
    have e := hm2 _ ha
    simp only [oI, wayF, codes_ce, codes_cb]
    simp (disch := omega) only [T_Model_descend, S_Model_descend, B_Model_descend_91, e.2.1, q_lit, le_T, le_F, lt_T, lt_F, eq_T, eq_F, m1_lt, m1_le, lt_m1, le_m1, eq_m1, m1_eq, nI_add, nI_sub, nI_dec, nI_mul, nI_or, nI_and, nI_div, nI_mod, and_255, and_31, and_1, and_63, nI_shl, nI_shr, bI_F, bI_1, vp_T, cl_T, true_implies, false_implies, not_true_eq_false, not_false_eq_true, true_and, and_true, false_and, and_false, Bool.false_eq_true, Bool.true_eq_false, reduceCtorEq, implies_true, q_lc_eq, q_lc_ge, q_lc_gt, q_lc_le, lN_or, lN_and, lN_shl, lN_shr, nI_L, lN_I, l_0]
    refine ⟨_, hag, ?_⟩
    rw [agn_eq hw e.2.2.1 (by have := e.2.2.2.1; omega) (Or.inr (by have := e.2.2.2.1; omega))]
    refine ⟨fun h9 => ?_, fun h9 => ?_⟩
    · rw [if_pos h9.symm]
    · rw [if_neg (fun h8 => h9 h8.symm)]
theorem t1_desc {H Lt Ln Bt : Nat → Int32} {HL C : Int32} {w : List Nat} {m : List (List Nat × Nat)} (hh : q_Hd H HL w) (hw : q_Wd w) (hm : MW 8 250 Lt Ln Bt C m) (e : Nat) (he : e ≤ 3) (f : Nat) (hf : f < 1000) (v : Nat) (hv : v + e < 1000) : ∃ q, T_Model_descend HL H C Lt Ln Bt (nI (wayF (codes m) (enc w) (wayR (codes m) (enc w) e f))) (nI (v + wayN (codes m) (enc w) e f)) q 1 (nI (4 * 4 ^ e)) (nI f) (nI 0) (nI 0) (nI 0) (nI (v + 1)) := by
  have hp : 4 ^ e ≤ 64 := by
    have : (4 : Nat) ^ e ≤ 4 ^ 3 := Nat.pow_le_pow_right (by omega) he
    omega
  have hp0 : 0 < 4 ^ e := Nat.pow_pos (by omega)
  have hmlen : m.length ≤ 250 := hm.2.1
  have hlt : ∀ {o : Option Nat} {s k : Nat}, lnb (codes m) (enc w) f s k = o → ∀ a, o = some a → a < m.length := fun h a ha => by
    subst ha; have := lnb_lt h; rwa [codes_len] at this
  have e0 : ∀ {R V : Int32}, (∃ q, T_Model_descend HL H C Lt Ln Bt R V q 2 (nI 0) (nI f) (nI (4 ^ e)) (oI (lnb (codes m) (enc w) f (4 ^ e) 0)) (nI 0) (nI (v + 1))) → ∃ q, T_Model_descend HL H C Lt Ln Bt R V q 1 (nI (4 * 4 ^ e)) (nI f) (nI 0) (nI 0) (nI 0) (nI (v + 1)) := by
    rintro R V ⟨q, hq⟩
    refine ⟨q + 1, ?_⟩
    simp only [lnb, oI] at hq
    simp (disch := omega) only [T_Model_descend, S_Model_descend, B_Model_descend_24, q_lit, le_T, le_F, lt_T, lt_F, eq_T, eq_F, m1_lt, m1_le, lt_m1, le_m1, eq_m1, m1_eq, nI_add, nI_sub, nI_dec, nI_mul, nI_or, nI_and, nI_div, nI_mod, and_255, and_31, and_1, and_63, nI_shl, nI_shr, bI_F, bI_1, vp_T, cl_T, true_implies, false_implies, not_true_eq_false, not_false_eq_true, true_and, and_true, false_and, and_false, Bool.false_eq_true, Bool.true_eq_false, reduceCtorEq, implies_true, q_lc_eq, q_lc_ge, q_lc_gt, q_lc_le, lN_or, lN_and, lN_shl, lN_shr, nI_L, lN_I, l_0]
    rw [show 4 * 4 ^ e / 4 = 4 ^ e by omega]
    exact hq
  apply e0
  cases hq : lnb (codes m) (enc w) f (4 ^ e) 4 with
  | none =>
    have e1 : wayR (codes m) (enc w) e f = none := by cases e <;> simp_all [wayR]
    have e2 : wayN (codes m) (enc w) e f = 1 := by cases e <;> simp_all [wayN]
    rw [e1, e2]
    obtain ⟨q, h4⟩ := t4_desc hh hw hm (V := nI (v + 1)) (o := none) (fun a h => by cases h)
    refine t2_desc hh hw hm hf (by omega) ⟨q + 1, ?_⟩ 0 (by omega)
    simp only [hq, oI] at h4 ⊢
    simp (disch := omega) only [T_Model_descend, S_Model_descend, B_Model_descend_34, q_lit, le_T, le_F, lt_T, lt_F, eq_T, eq_F, m1_lt, m1_le, lt_m1, le_m1, eq_m1, m1_eq, nI_add, nI_sub, nI_dec, nI_mul, nI_or, nI_and, nI_div, nI_mod, and_255, and_31, and_1, and_63, nI_shl, nI_shr, bI_F, bI_1, vp_T, cl_T, true_implies, false_implies, not_true_eq_false, not_false_eq_true, true_and, and_true, false_and, and_false, Bool.false_eq_true, Bool.true_eq_false, reduceCtorEq, implies_true, q_lc_eq, q_lc_ge, q_lc_gt, q_lc_le, lN_or, lN_and, lN_shl, lN_shr, nI_L, lN_I, l_0]
    exact h4
  | some a =>
    have ha := hlt hq a rfl
    cases e with
    | zero =>
      obtain ⟨q, h4⟩ := t4_desc hh hw hm (V := nI (v + 1)) (o := some a) (fun b h => by cases h; exact ha)
      refine t2_desc hh hw hm hf (by omega) ⟨q + 1, ?_⟩ 0 (by omega)
      simp only [Nat.pow_zero] at hq
      simp only [Nat.pow_zero, wayR, wayN, hq, oI] at h4 ⊢
      simp (disch := omega) only [T_Model_descend, S_Model_descend, B_Model_descend_34, q_lit, le_T, le_F, lt_T, lt_F, eq_T, eq_F, m1_lt, m1_le, lt_m1, le_m1, eq_m1, m1_eq, nI_add, nI_sub, nI_dec, nI_mul, nI_or, nI_and, nI_div, nI_mod, and_255, and_31, and_1, and_63, nI_shl, nI_shr, bI_F, bI_1, vp_T, cl_T, true_implies, false_implies, not_true_eq_false, not_false_eq_true, true_and, and_true, false_and, and_false, Bool.false_eq_true, Bool.true_eq_false, reduceCtorEq, implies_true, q_lc_eq, q_lc_ge, q_lc_gt, q_lc_le, lN_or, lN_and, lN_shl, lN_shr, nI_L, lN_I, l_0]
      exact h4
    | succ e =>
      obtain ⟨q, h1⟩ := t1_desc hh hw hm e (by omega) a (by omega) (v + 1) (by omega)
      refine t2_desc hh hw hm hf (by omega) ⟨q + 1, ?_⟩ 0 (by omega)
      have h3 : ¬ 4 ^ (e + 1) = 1 := by
        have : 0 < 4 ^ e := Nat.pow_pos (by omega)
        rw [Nat.pow_succ]; omega
      simp only [wayR, wayN, hq, oI]
      simp (disch := omega) only [T_Model_descend, S_Model_descend, B_Model_descend_34, q_lit, le_T, le_F, lt_T, lt_F, eq_T, eq_F, m1_lt, m1_le, lt_m1, le_m1, eq_m1, m1_eq, nI_add, nI_sub, nI_dec, nI_mul, nI_or, nI_and, nI_div, nI_mod, and_255, and_31, and_1, and_63, nI_shl, nI_shr, bI_F, bI_1, vp_T, cl_T, true_implies, false_implies, not_true_eq_false, not_false_eq_true, true_and, and_true, false_and, and_false, Bool.false_eq_true, Bool.true_eq_false, reduceCtorEq, implies_true, q_lc_eq, q_lc_ge, q_lc_gt, q_lc_le, lN_or, lN_and, lN_shl, lN_shr, nI_L, lN_I, l_0]
      rw [show 4 ^ (e + 1) = 4 * 4 ^ e by rw [Nat.pow_succ, Nat.mul_comm], show v + (wayN (codes m) (enc w) e a + 1) = v + 1 + wayN (codes m) (enc w) e a by omega]
      exact h1
theorem mo_descend {H Lt Ln Bt : Nat → Int32} {HL C : Int32} {w : List Nat} {m : List (List Nat × Nat)} (hh : q_Hd H HL w) (hw : q_Wd w) (hm : MW 8 250 Lt Ln Bt C m) (h0 : m.length ≠ 0) (V : Int32) : D_Model_descend HL H C Lt Ln Bt V (nI (wayB (codes m) (enc w) (topE m.length))) (nI (wayN (codes m) (enc w) (topE m.length) 0)) := by
  have hml := hm.2.1
  have key := fun e (he : e ≤ 3) => t1_desc hh hw hm e he 0 (by omega) 0 (by omega)
  simp only [Nat.zero_add] at key
  have hm' := hm
  obtain ⟨rfl, hl, hm2⟩ := hm
  show ∃ q, T_Model_descend HL H (nI m.length) Lt Ln Bt (nI (wayF (codes m) (enc w) (wayR (codes m) (enc w) (topE m.length) 0))) (nI (wayN (codes m) (enc w) (topE m.length) 0)) q 0 4 0 0 0 0 V
  by_cases h1 : m.length ≤ 4
  · obtain ⟨q, hm1⟩ := key 0 (by omega)
    refine ⟨q + 1, ?_⟩
    rw [show topE m.length = 0 by simp [topE, h1]]
    simp (disch := omega) only [T_Model_descend, S_Model_descend, B_Model_descend_2, q_lit, le_T, le_F, lt_T, lt_F, eq_T, eq_F, m1_lt, m1_le, lt_m1, le_m1, eq_m1, m1_eq, nI_add, nI_sub, nI_dec, nI_mul, nI_or, nI_and, nI_div, nI_mod, and_255, and_31, and_1, and_63, nI_shl, nI_shr, bI_F, bI_1, vp_T, cl_T, true_implies, false_implies, not_true_eq_false, not_false_eq_true, true_and, and_true, false_and, and_false, Bool.false_eq_true, Bool.true_eq_false, reduceCtorEq, implies_true, q_lc_eq, q_lc_ge, q_lc_gt, q_lc_le, lN_or, lN_and, lN_shl, lN_shr, nI_L, lN_I, l_0]
    exact hm1
  · by_cases h2 : m.length ≤ 16
    · obtain ⟨q, hm1⟩ := key 1 (by omega)
      refine ⟨q + 2, ?_⟩
      rw [show topE m.length = 1 by simp [topE, h1, h2]]
      simp (disch := omega) only [T_Model_descend, S_Model_descend, B_Model_descend_2, q_lit, le_T, le_F, lt_T, lt_F, eq_T, eq_F, m1_lt, m1_le, lt_m1, le_m1, eq_m1, m1_eq, nI_add, nI_sub, nI_dec, nI_mul, nI_or, nI_and, nI_div, nI_mod, and_255, and_31, and_1, and_63, nI_shl, nI_shr, bI_F, bI_1, vp_T, cl_T, true_implies, false_implies, not_true_eq_false, not_false_eq_true, true_and, and_true, false_and, and_false, Bool.false_eq_true, Bool.true_eq_false, reduceCtorEq, implies_true, q_lc_eq, q_lc_ge, q_lc_gt, q_lc_le, lN_or, lN_and, lN_shl, lN_shr, nI_L, lN_I, l_0]
      exact hm1
    · by_cases h3 : m.length ≤ 64
      · obtain ⟨q, hm1⟩ := key 2 (by omega)
        refine ⟨q + 3, ?_⟩
        rw [show topE m.length = 2 by simp [topE, h1, h2, h3]]
        simp (disch := omega) only [T_Model_descend, S_Model_descend, B_Model_descend_2, q_lit, le_T, le_F, lt_T, lt_F, eq_T, eq_F, m1_lt, m1_le, lt_m1, le_m1, eq_m1, m1_eq, nI_add, nI_sub, nI_dec, nI_mul, nI_or, nI_and, nI_div, nI_mod, and_255, and_31, and_1, and_63, nI_shl, nI_shr, bI_F, bI_1, vp_T, cl_T, true_implies, false_implies, not_true_eq_false, not_false_eq_true, true_and, and_true, false_and, and_false, Bool.false_eq_true, Bool.true_eq_false, reduceCtorEq, implies_true, q_lc_eq, q_lc_ge, q_lc_gt, q_lc_le, lN_or, lN_and, lN_shl, lN_shr, nI_L, lN_I, l_0]
        exact hm1
      · obtain ⟨q, hm1⟩ := key 3 (by omega)
        refine ⟨q + 4, ?_⟩
        rw [show topE m.length = 3 by simp [topE, h1, h2, h3]]
        simp (disch := omega) only [T_Model_descend, S_Model_descend, B_Model_descend_2, q_lit, le_T, le_F, lt_T, lt_F, eq_T, eq_F, m1_lt, m1_le, lt_m1, le_m1, eq_m1, m1_eq, nI_add, nI_sub, nI_dec, nI_mul, nI_or, nI_and, nI_div, nI_mod, and_255, and_31, and_1, and_63, nI_shl, nI_shr, bI_F, bI_1, vp_T, cl_T, true_implies, false_implies, not_true_eq_false, not_false_eq_true, true_and, and_true, false_and, and_false, Bool.false_eq_true, Bool.true_eq_false, reduceCtorEq, implies_true, q_lc_eq, q_lc_ge, q_lc_gt, q_lc_le, lN_or, lN_and, lN_shl, lN_shr, nI_L, lN_I, l_0]
        exact hm1
/-- the letters alone of what was typed -/
def ltrs (L : List Nat) : List Nat := L.filter isLet
theorem take_snoc (L : List Nat) {k : Nat} (h : k < L.length) : L.take (k + 1) = L.take k ++ [L.getD k 0] := by
  rw [List.take_succ, List.getElem?_eq_getElem h]
  simp [List.getD_eq_getElem?_getD, List.getElem?_eq_getElem h]
theorem ltrs_snoc (L : List Nat) {k : Nat} (h : k < L.length) : ltrs (L.take (k + 1)) = if isLet (L.getD k 0) = true then ltrs (L.take k) ++ [L.getD k 0] else ltrs (L.take k) := by
  rw [take_snoc L h, ltrs, List.filter_append]
  split
  · rename_i h1; rw [List.filter_cons_of_pos h1]; rfl
  · rename_i h1; rw [List.filter_cons_of_neg h1]; simp [ltrs]
theorem ltrs_len (L : List Nat) (k : Nat) : (ltrs (L.take k)).length ≤ k := Nat.le_trans (List.length_filter_le _ _) (by simp; omega)
theorem t_alone {n : Nat} {E : Nat → Int32} {C : Int32} {L : List Nat} (h : Rw n E C L) (hv : ∀ i, L.getD i 0 < 2147483648) (k : Nat) (hk : k ≤ L.length) : ∃ m, T_Query_lettersAlone n E C (lN (enc (ltrs L))) m (lN (enc (ltrs (L.take k)))) (nI (ltrs (L.take k)).length) (nI k) := by
  have h' := h
  obtain ⟨rfl, hl, hn, he⟩ := h
  have hlen := ltrs_len L k
  by_cases h1 : k < L.length
  · obtain ⟨m, hm⟩ := t_alone h' hv (k + 1) h1
    refine ⟨m + 1, ?_⟩
    simp (disch := omega) only [T_Query_lettersAlone, S_Query_lettersAlone, B_Query_lettersAlone_8, q_lit, le_T, le_F, lt_T, lt_F, eq_T, eq_F, m1_lt, m1_le, lt_m1, le_m1, eq_m1, m1_eq, nI_add, nI_sub, nI_dec, nI_mul, nI_or, nI_and, nI_div, nI_mod, and_255, and_31, and_1, and_63, nI_shl, nI_shr, bI_F, bI_1, vp_T, cl_T, true_implies, false_implies, not_true_eq_false, not_false_eq_true, true_and, and_true, false_and, and_false, Bool.false_eq_true, Bool.true_eq_false, reduceCtorEq, implies_true, q_lc_eq, q_lc_ge, q_lc_gt, q_lc_le, lN_or, lN_and, lN_shl, lN_shr, nI_L, lN_I, l_0]
    refine ⟨_, row_el h' (by omega), _, let_isLetter (hv k), ?_⟩
    cases h2 : isLet (L.getD k 0) with
    | false =>
      rw [ltrs_snoc L h1, h2] at hm
      simp (disch := omega) only [q_lit, le_T, le_F, lt_T, lt_F, eq_T, eq_F, m1_lt, m1_le, lt_m1, le_m1, eq_m1, m1_eq, nI_add, nI_sub, nI_dec, nI_mul, nI_or, nI_and, nI_div, nI_mod, and_255, and_31, and_1, and_63, nI_shl, nI_shr, bI_F, bI_1, vp_T, cl_T, true_implies, false_implies, not_true_eq_false, not_false_eq_true, true_and, and_true, false_and, and_false, Bool.false_eq_true, Bool.true_eq_false, reduceCtorEq, implies_true]
      simpa using hm
    | true =>
      rw [ltrs_snoc L h1, h2] at hm
      simp (disch := omega) only [q_lit, le_T, le_F, lt_T, lt_F, eq_T, eq_F, m1_lt, m1_le, lt_m1, le_m1, eq_m1, m1_eq, nI_add, nI_sub, nI_dec, nI_mul, nI_or, nI_and, nI_div, nI_mod, and_255, and_31, and_1, and_63, nI_shl, nI_shr, bI_F, bI_1, vp_T, cl_T, true_implies, false_implies, not_true_eq_false, not_false_eq_true, true_and, and_true, false_and, and_false, Bool.false_eq_true, Bool.true_eq_false, reduceCtorEq, implies_true]
      refine ⟨_, row_el h' (by omega), _, let_ext (hv k) (by omega), ?_⟩
      simpa using hm
  · refine ⟨1, ?_⟩
    rw [List.take_of_length_le (by omega)]
    simp (disch := omega) only [T_Query_lettersAlone, S_Query_lettersAlone, B_Query_lettersAlone_8, q_lit, le_T, le_F, lt_T, lt_F, eq_T, eq_F, m1_lt, m1_le, lt_m1, le_m1, eq_m1, m1_eq, nI_add, nI_sub, nI_dec, nI_mul, nI_or, nI_and, nI_div, nI_mod, and_255, and_31, and_1, and_63, nI_shl, nI_shr, bI_F, bI_1, vp_T, cl_T, true_implies, false_implies, not_true_eq_false, not_false_eq_true, true_and, and_true, false_and, and_false, Bool.false_eq_true, Bool.true_eq_false, reduceCtorEq, implies_true, q_lc_eq, q_lc_ge, q_lc_gt, q_lc_le, lN_or, lN_and, lN_shl, lN_shr, nI_L, lN_I, l_0]
termination_by L.length - k
decreasing_by all_goals omega
theorem qu_alone {n : Nat} {E : Nat → Int32} {C : Int32} {L : List Nat} (h : Rw n E C L) (hv : ∀ i, L.getD i 0 < 2147483648) : D_Query_lettersAlone n E C (lN (enc (ltrs L))) := by
  have := t_alone h hv 0 (by omega)
  simpa [D_Query_lettersAlone, ltrs, encA_nil, l_0, q_lit] using this
