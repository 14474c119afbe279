/-! Pure: the keywords of an image are read, the reference. -/
def enM (J : List Nat) (tn p : Nat) (m : q_M2) : Option (Nat × q_M2) :=
  if 1 ≤ J.getD p 0 ∧ J.getD p 0 ≤ 8 ∧ smAll J (p + 1) (p + 1 + J.getD p 0) = true ∧ p + 1 + J.getD p 0 + 2 ≤ J.length ∧ 1 ≤ pr J (p + 1 + J.getD p 0) ∧ pr J (p + 1 + J.getD p 0) < 2 ^ tn ∧ ¬ (insW (seg J (p + 1) (J.getD p 0)) (pr J (p + 1 + J.getD p 0)) m).length = m.length then some (p + 1 + J.getD p 0 + 2, insW (seg J (p + 1) (J.getD p 0)) (pr J (p + 1 + J.getD p 0)) m) else none
theorem sm_in {J : List Nat} {i : Nat} (h : isSm (J.getD i 0) = true) : i < J.length := by
  rcases Nat.lt_or_ge i J.length with h1 | h1
  · exact h1
  · rw [getD_ge h1] at h; cases h
set_option maxRecDepth 100000 in
theorem rk1 {J : List Nat} {iE : Nat → Int32} {iC : Int32} (hJ : Rw 8000 iE iC J) (hy : q_By J) {tp : Int32} {C : Int32} {Lt Ln Bt : Nat → Int32} {p h : Nat} (hp : p < 500000) (hh : h ≤ 8) (k : Nat) (hk : k ≤ h) (H : Nat → Int32) (hold : ∀ j, j < k → H j = nI (J.getD (p + 1 + j) 0)) :
    (smAll J (p + 1 + k) (p + 1 + h) = true ∧ ∃ H2, (∀ j, j < h → H2 j = nI (J.getD (p + 1 + j) 0)) ∧ ∀ res C' Lt' Ln' Bt' U' HL' H', (∃ q, T_Model_readKeyword tp iC iE res C' Lt' Ln' Bt' U' HL' H' q 2 (nI p) (nI 0) (nI 0) C Lt Ln Bt false (nI h) H2) → ∃ q, T_Model_readKeyword tp iC iE res C' Lt' Ln' Bt' U' HL' H' q 1 (nI p) (nI k) (nI 0) C Lt Ln Bt false (nI h) H) ∨
    (smAll J (p + 1 + k) (p + 1 + h) = false ∧ ∃ H2, ∀ res C' Lt' Ln' Bt' U' HL' H', (∃ q, T_Model_readKeyword tp iC iE res C' Lt' Ln' Bt' U' HL' H' q 2 (nI p) (nI 0) (nI 0) C Lt Ln Bt true (nI h) H2) → ∃ q, T_Model_readKeyword tp iC iE res C' Lt' Ln' Bt' U' HL' H' q 1 (nI p) (nI k) (nI 0) C Lt Ln Bt false (nI h) H) := by
  by_cases h1 : k < h
  · have hv := hy.getD (p + 1 + k)
    have hs := mo_isSmall (x := J.getD (p + 1 + k) 0) (by omega)
    have hu : upd H k (nI (J.getD (p + 1 + k) 0)) k = nI (J.getD (p + 1 + k) 0) := upd_eq _ _ _
    rw [smAll_step (by omega)]
    cases hsm : isSm (J.getD (p + 1 + k) 0) with
    | true =>
      rw [hsm] at hs
      have hby := mo_byteIn hJ (p := p + 1 + k) (sm_in hsm)
      have nx : ∀ {V : Bool} {res C' Lt' Ln' Bt' U' HL' H'} , (∃ q, T_Model_readKeyword tp iC iE res C' Lt' Ln' Bt' U' HL' H' q 1 (nI p) (nI (k + 1)) (nI 0) C Lt Ln Bt false (nI h) (upd H k (nI (J.getD (p + 1 + k) 0)))) → ∃ q, T_Model_readKeyword tp iC iE res C' Lt' Ln' Bt' U' HL' H' q 1 (nI p) (nI k) (nI 0) C Lt Ln Bt false (nI h) H := by
        intro V res C' Lt' Ln' Bt' U' HL' H' hq
        obtain ⟨q, hq⟩ := hq
        refine ⟨q + 1, ?_⟩
        rw [T_Model_readKeyword]
        simp (disch := omega) only [S_Model_readKeyword, B_Model_readKeyword_40, q_lit, le_T, le_F, lt_T, lt_F, eq_T, eq_F, m1_lt, m1_le, lt_m1, le_m1, eq_m1, m1_eq, nI_add, nI_sub, nI_dec, nI_mul, nI_or, nI_and, nI_div, nI_mod, and_255, and_31, and_1, and_63, nI_shl, nI_shr, bI_F, bI_1, vp_T, cl_T, true_implies, false_implies, not_true_eq_false, not_false_eq_true, true_and, and_true, false_and, and_false, Bool.false_eq_true, Bool.true_eq_false, reduceCtorEq, implies_true]
        refine ⟨_, _, hby, ?_⟩
        simp (disch := omega) only [hu, q_lit, le_T, le_F, lt_T, lt_F, eq_T, eq_F, m1_lt, m1_le, lt_m1, le_m1, eq_m1, m1_eq, nI_add, nI_sub, nI_dec, nI_mul, nI_or, nI_and, nI_div, nI_mod, and_255, and_31, and_1, and_63, nI_shl, nI_shr, bI_F, bI_1, vp_T, cl_T, true_implies, false_implies, not_true_eq_false, not_false_eq_true, true_and, and_true, false_and, and_false, Bool.false_eq_true, Bool.true_eq_false, reduceCtorEq, implies_true]
        exact ⟨_, hs, by simp (disch := omega) only [q_lit, le_T, le_F, lt_T, lt_F, eq_T, eq_F, m1_lt, m1_le, lt_m1, le_m1, eq_m1, m1_eq, nI_add, nI_sub, nI_dec, nI_mul, nI_or, nI_and, nI_div, nI_mod, and_255, and_31, and_1, and_63, nI_shl, nI_shr, bI_F, bI_1, vp_T, cl_T, true_implies, false_implies, not_true_eq_false, not_false_eq_true, true_and, and_true, false_and, and_false, Bool.false_eq_true, Bool.true_eq_false, reduceCtorEq, implies_true]; exact hq⟩
      rcases rk1 hJ hy (tp := tp) (C := C) (Lt := Lt) (Ln := Ln) (Bt := Bt) hp hh (k + 1) h1 (upd H k (nI (J.getD (p + 1 + k) 0))) (fun j hj => by
        simp only [upd]
        by_cases h2 : j = k
        · rw [if_pos h2, h2]
        · rw [if_neg h2]; exact hold j (by omega)) with ⟨a1, H2, a2, a3⟩ | ⟨a1, H2, a3⟩
      · exact Or.inl ⟨by rw [Bool.true_and]; exact a1, H2, a2, fun res C' Lt' Ln' Bt' U' HL' H' hq => nx (V := true) (a3 res C' Lt' Ln' Bt' U' HL' H' hq)⟩
      · exact Or.inr ⟨by rw [Bool.true_and]; exact a1, H2, fun res C' Lt' Ln' Bt' U' HL' H' hq => nx (V := true) (a3 res C' Lt' Ln' Bt' U' HL' H' hq)⟩
    | false =>
      rw [hsm] at hs
      refine Or.inr ⟨rfl, upd H k (nI (J.getD (p + 1 + k) 0)), fun res C' Lt' Ln' Bt' U' HL' H' hq => ?_⟩
      obtain ⟨q, hq⟩ := hq
      have st : T_Model_readKeyword tp iC iE res C' Lt' Ln' Bt' U' HL' H' (q + 1) 1 (nI p) (nI (k + 1)) (nI 0) C Lt Ln Bt true (nI h) (upd H k (nI (J.getD (p + 1 + k) 0))) := by
        rw [T_Model_readKeyword]
        simp only [S_Model_readKeyword, B_Model_readKeyword_40, q_lit]
        simp (disch := omega) only [q_lit, le_T, le_F, lt_T, lt_F, eq_T, eq_F, m1_lt, m1_le, lt_m1, le_m1, eq_m1, m1_eq, nI_add, nI_sub, nI_dec, nI_mul, nI_or, nI_and, nI_div, nI_mod, and_255, and_31, and_1, and_63, nI_shl, nI_shr, bI_F, bI_1, vp_T, cl_T, true_implies, false_implies, not_true_eq_false, not_false_eq_true, true_and, and_true, false_and, and_false, Bool.false_eq_true, Bool.true_eq_false, reduceCtorEq, implies_true]
        exact ⟨fun _ => hq, fun _ => hq⟩
      refine ⟨q + 2, ?_⟩
      have hby := mo_byteAt hJ (p := p + 1 + k) (by omega) false
      rw [T_Model_readKeyword]
      simp (disch := omega) only [S_Model_readKeyword, B_Model_readKeyword_40, q_lit, le_T, le_F, lt_T, lt_F, eq_T, eq_F, m1_lt, m1_le, lt_m1, le_m1, eq_m1, m1_eq, nI_add, nI_sub, nI_dec, nI_mul, nI_or, nI_and, nI_div, nI_mod, and_255, and_31, and_1, and_63, nI_shl, nI_shr, bI_F, bI_1, vp_T, cl_T, true_implies, false_implies, not_true_eq_false, not_false_eq_true, true_and, and_true, false_and, and_false, Bool.false_eq_true, Bool.true_eq_false, reduceCtorEq, implies_true]
      refine ⟨_, _, hby, ?_⟩
      rw [Bool.false_or]
      by_cases h2 : J.length ≤ p + 1 + k
      · rw [decide_eq_true h2]
        simp (disch := omega) only [q_lit, le_T, le_F, lt_T, lt_F, eq_T, eq_F, m1_lt, m1_le, lt_m1, le_m1, eq_m1, m1_eq, nI_add, nI_sub, nI_dec, nI_mul, nI_or, nI_and, nI_div, nI_mod, and_255, and_31, and_1, and_63, nI_shl, nI_shr, bI_F, bI_1, vp_T, cl_T, true_implies, false_implies, not_true_eq_false, not_false_eq_true, true_and, and_true, false_and, and_false, Bool.false_eq_true, Bool.true_eq_false, reduceCtorEq, implies_true]
        exact st
      · rw [decide_eq_false h2]
        simp (disch := omega) only [hu, q_lit, le_T, le_F, lt_T, lt_F, eq_T, eq_F, m1_lt, m1_le, lt_m1, le_m1, eq_m1, m1_eq, nI_add, nI_sub, nI_dec, nI_mul, nI_or, nI_and, nI_div, nI_mod, and_255, and_31, and_1, and_63, nI_shl, nI_shr, bI_F, bI_1, vp_T, cl_T, true_implies, false_implies, not_true_eq_false, not_false_eq_true, true_and, and_true, false_and, and_false, Bool.false_eq_true, Bool.true_eq_false, reduceCtorEq, implies_true]
        exact ⟨_, hs, by simp (disch := omega) only [q_lit, le_T, le_F, lt_T, lt_F, eq_T, eq_F, m1_lt, m1_le, lt_m1, le_m1, eq_m1, m1_eq, nI_add, nI_sub, nI_dec, nI_mul, nI_or, nI_and, nI_div, nI_mod, and_255, and_31, and_1, and_63, nI_shl, nI_shr, bI_F, bI_1, vp_T, cl_T, true_implies, false_implies, not_true_eq_false, not_false_eq_true, true_and, and_true, false_and, and_false, Bool.false_eq_true, Bool.true_eq_false, reduceCtorEq, implies_true]; exact st⟩
  · refine Or.inl ⟨smAll_stop (by omega), H, fun j hj => hold j (by omega), fun res C' Lt' Ln' Bt' U' HL' H' hq => ?_⟩
    obtain ⟨q, hq⟩ := hq
    refine ⟨q + 1, ?_⟩
    rw [T_Model_readKeyword]
    simp (disch := omega) only [S_Model_readKeyword, B_Model_readKeyword_40, q_lit, le_T, le_F, lt_T, lt_F, eq_T, eq_F, m1_lt, m1_le, lt_m1, le_m1, eq_m1, m1_eq, nI_add, nI_sub, nI_dec, nI_mul, nI_or, nI_and, nI_div, nI_mod, and_255, and_31, and_1, and_63, nI_shl, nI_shr, bI_F, bI_1, vp_T, cl_T, true_implies, false_implies, not_true_eq_false, not_false_eq_true, true_and, and_true, false_and, and_false, Bool.false_eq_true, Bool.true_eq_false, reduceCtorEq, implies_true]
    exact hq
termination_by h - k
decreasing_by all_goals omega
theorem smAll_seg {J : List Nat} {p m : Nat} (h : smAll J p (p + m) = true) : q_Wd (seg J p m) := by
  induction m generalizing p with
  | zero => intro x hx; simp [seg] at hx
  | succ m ih =>
    rw [smAll_step (by omega), Bool.and_eq_true] at h
    intro x hx
    simp only [seg, List.mem_cons] at hx
    rcases hx with hx | hx
    · rw [hx]; have := h.1; simp only [isSm, Bool.and_eq_true, decide_eq_true_eq] at this; exact this
    · exact ih (p := p + 1) (by rw [show p + 1 + m = p + (m + 1) by omega]; exact h.2) x hx
theorem mo_rk {J : List Nat} {iE : Nat → Int32} {iC : Int32} (hJ : Rw 8000 iE iC J) (hy : q_By J) {tn : Nat} (htn : tn ≤ 10) {p : Nat} (hp : p < 500000) {m : q_M2} (hml : m.length < 250) {C : Int32} {Lt Ln Bt : Nat → Int32} (hm : MW 8 250 Lt Ln Bt C m) (HL : Int32) (H : Nat → Int32) :
    ∃ (res C' : Int32) (Lt' Ln' Bt' : Nat → Int32) (U' : Bool) (HL' : Int32) (H' : Nat → Int32), D_Model_readKeyword (nI p) (nI tn) C Lt Ln Bt iC iE false HL H res C' Lt' Ln' Bt' U' HL' H' ∧ U' = (enM J tn p m).isNone ∧ ∀ q, enM J tn p m = some q → res = nI q.1 ∧ MW 8 250 Lt' Ln' Bt' C' q.2 := by
  have h8 := hJ.2.1
  have hv := hy.getD p
  have hby := mo_byteAt hJ (p := p) (by omega) false
  have hin := mo_in (x := J.getD p 0) (a := 1) (b := 8) (by omega) (by omega) (by omega)
  have e0 : ∀ {res C' Lt' Ln' Bt' U' HL' H'} {U : Bool} {hl : Int32} {H0 : Nat → Int32}, (∃ q, T_Model_readKeyword (nI tn) iC iE res C' Lt' Ln' Bt' U' HL' H' q 1 (nI p) (nI 0) (nI 0) C Lt Ln Bt U hl H0) → ∃ q, T_Model_readKeyword (nI tn) iC iE res C' Lt' Ln' Bt' U' HL' H' q 0 (nI p) (nI 0) (nI 0) C Lt Ln Bt U hl H0 := by
    intro res C' Lt' Ln' Bt' U' HL' H' U hl H0 hq
    obtain ⟨q, hq⟩ := hq
    refine ⟨q + 1, ?_⟩
    rw [T_Model_readKeyword]
    simp (disch := omega) only [S_Model_readKeyword, B_Model_readKeyword_38, q_lit, le_T, le_F, lt_T, lt_F, eq_T, eq_F, m1_lt, m1_le, lt_m1, le_m1, eq_m1, m1_eq, nI_add, nI_sub, nI_dec, nI_mul, nI_or, nI_and, nI_div, nI_mod, and_255, and_31, and_1, and_63, nI_shl, nI_shr, bI_F, bI_1, vp_T, cl_T, true_implies, false_implies, not_true_eq_false, not_false_eq_true, true_and, and_true, false_and, and_false, Bool.false_eq_true, Bool.true_eq_false, reduceCtorEq, implies_true]
    exact hq
  -- a fault ahead of the letters
  have bad2 : ∀ (x : Int32) (H2 : Nat → Int32), ∃ q, T_Model_readKeyword (nI tn) iC iE (nI p) C Lt Ln Bt true x H2 q 2 (nI p) (nI 0) (nI 0) C Lt Ln Bt true x H2 := by
    intro x H2
    refine ⟨1, ?_⟩
    rw [T_Model_readKeyword]
    simp (disch := omega) only [S_Model_readKeyword, B_Model_readKeyword_104, q_lit, le_T, le_F, lt_T, lt_F, eq_T, eq_F, m1_lt, m1_le, lt_m1, le_m1, eq_m1, m1_eq, nI_add, nI_sub, nI_dec, nI_mul, nI_or, nI_and, nI_div, nI_mod, and_255, and_31, and_1, and_63, nI_shl, nI_shr, bI_F, bI_1, vp_T, cl_T, true_implies, false_implies, not_true_eq_false, not_false_eq_true, true_and, and_true, false_and, and_false, Bool.false_eq_true, Bool.true_eq_false, reduceCtorEq, implies_true]
  have bad1 : ∀ (x : Int32) (H2 : Nat → Int32), ∃ q, T_Model_readKeyword (nI tn) iC iE (nI p) C Lt Ln Bt true x H2 q 0 (nI p) (nI 0) (nI 0) C Lt Ln Bt true x H2 := by
    intro x H2
    obtain ⟨q, hq⟩ := bad2 x H2
    refine e0 ⟨q + 1, ?_⟩
    rw [T_Model_readKeyword]
    simp only [S_Model_readKeyword, B_Model_readKeyword_40, q_lit]
    simp (disch := omega) only [q_lit, le_T, le_F, lt_T, lt_F, eq_T, eq_F, m1_lt, m1_le, lt_m1, le_m1, eq_m1, m1_eq, nI_add, nI_sub, nI_dec, nI_mul, nI_or, nI_and, nI_div, nI_mod, and_255, and_31, and_1, and_63, nI_shl, nI_shr, bI_F, bI_1, vp_T, cl_T, true_implies, false_implies, not_true_eq_false, not_false_eq_true, true_and, and_true, false_and, and_false, Bool.false_eq_true, Bool.true_eq_false, reduceCtorEq, implies_true]
    exact ⟨fun _ => hq, fun _ => hq⟩
  by_cases g1 : 1 ≤ J.getD p 0 ∧ J.getD p 0 ≤ 8
  · have hpl : p < J.length := by
      rcases Nat.lt_or_ge p J.length with h1 | h1
      · exact h1
      · have := getD_ge h1; omega
    rw [decide_eq_false (by omega), Bool.false_or] at hby
    rw [decide_eq_true g1.1, decide_eq_true g1.2, Bool.true_and] at hin
    have go : ∀ {res C' Lt' Ln' Bt' U' HL' H'}, (∃ q, T_Model_readKeyword (nI tn) iC iE res C' Lt' Ln' Bt' U' HL' H' q 1 (nI p) (nI 0) (nI 0) C Lt Ln Bt false (nI (J.getD p 0)) H) → D_Model_readKeyword (nI p) (nI tn) C Lt Ln Bt iC iE false HL H res C' Lt' Ln' Bt' U' HL' H' := by
      intro res C' Lt' Ln' Bt' U' HL' H' hq
      obtain ⟨q, hq⟩ := e0 hq
      refine ⟨q, _, _, hby, ?_⟩
      simp (disch := omega) only [q_lit, le_T, le_F, lt_T, lt_F, eq_T, eq_F, m1_lt, m1_le, lt_m1, le_m1, eq_m1, m1_eq, nI_add, nI_sub, nI_dec, nI_mul, nI_or, nI_and, nI_div, nI_mod, and_255, and_31, and_1, and_63, nI_shl, nI_shr, bI_F, bI_1, vp_T, cl_T, true_implies, false_implies, not_true_eq_false, not_false_eq_true, true_and, and_true, false_and, and_false, Bool.false_eq_true, Bool.true_eq_false, reduceCtorEq, implies_true]
      exact ⟨_, hin, by simp (disch := omega) only [q_lit, le_T, le_F, lt_T, lt_F, eq_T, eq_F, m1_lt, m1_le, lt_m1, le_m1, eq_m1, m1_eq, nI_add, nI_sub, nI_dec, nI_mul, nI_or, nI_and, nI_div, nI_mod, and_255, and_31, and_1, and_63, nI_shl, nI_shr, bI_F, bI_1, vp_T, cl_T, true_implies, false_implies, not_true_eq_false, not_false_eq_true, true_and, and_true, false_and, and_false, Bool.false_eq_true, Bool.true_eq_false, reduceCtorEq, implies_true]; exact hq⟩
    rcases rk1 hJ hy (tp := nI tn) (C := C) (Lt := Lt) (Ln := Ln) (Bt := Bt) hp g1.2 0 (by omega) H (fun j hj => by omega) with ⟨a1, H2, a2, a3⟩ | ⟨a1, H2, a3⟩
    · rw [Nat.add_zero] at a1
      have hw : q_Wd (seg J (p + 1) (J.getD p 0)) := smAll_seg a1
      have hHd : q_Hd H2 (nI (J.getD p 0)) (seg J (p + 1) (J.getD p 0)) := ⟨by rw [seg_len], by rw [seg_len]; omega, fun j hj => by rw [seg_len] at hj; rw [seg_getD J _ hj]; exact a2 j hj⟩
      have hql : p + 1 + J.getD p 0 ≤ J.length := by
        have : isSm (J.getD (p + 1 + (J.getD p 0 - 1)) 0) = true := by
          have hh := hw.at (k := J.getD p 0 - 1) (by rw [seg_len]; omega)
          rw [seg_getD J _ (by omega)] at hh
          simp only [isSm, Bool.and_eq_true, decide_eq_true_eq]; exact hh
        have := sm_in this; omega
      have ht := mo_twoAt hJ hy (p := p + 1 + J.getD p 0) (by omega) rfl
      rw [decide_eq_false (show ¬ J.length < p + 1 + J.getD p 0 by omega)] at ht
      have w1 := hy.getD (p + 1 + J.getD p 0)
      have w2 := hy.getD (p + 1 + J.getD p 0 + 1)
      have hb : pr J (p + 1 + J.getD p 0) < 65536 := by unfold pr; omega
      have h2p : 2 ^ tn ≤ 1024 := Nat.le_trans (Nat.pow_le_pow_right (by omega) htn) (by decide)
      have h2q : 1 ≤ 2 ^ tn := Nat.one_le_two_pow
      have hev : ((nI 1 <<< (nI tn &&& nI 31)) - nI 1 : Int32) = nI (2 ^ tn - 1) := by
        have : tn % 32 = tn := Nat.mod_eq_of_lt (by omega)
        have h2 : 1 ≤ 1 <<< tn := (shl_lt (t := tn) (n := tn + 1) (by omega)).1
        rw [nI_and, and_31, this, nI_shl (by omega), nI_sub h2, Nat.one_shiftLeft]
      have hev2 : (nI (1 <<< (tn % 32)) - nI 1 : Int32) = nI (2 ^ tn - 1) := by
        have := hev; rw [nI_and, and_31, nI_shl (by omega)] at this; exact this
      have hin2 := mo_in (x := pr J (p + 1 + J.getD p 0)) (a := 1) (b := 2 ^ tn - 1) (by omega) (by omega) (by omega)
      obtain ⟨C2, L2, G2, B2, b1, b2⟩ := mo_addKeyword hHd hw (by rw [seg_len]; omega) hm hml (pr J (p + 1 + J.getD p 0))
      have hC := hm.1
      have hC2 := b2.1
      have hl1 := insW_len (seg J (p + 1) (J.getD p 0)) (pr J (p + 1 + J.getD p 0)) m
      -- from label 3 on
      have st4 : ∀ U : Bool, T_Model_readKeyword (nI tn) iC iE (nI (p + 1 + J.getD p 0 + 2)) C2 L2 G2 B2 U (nI (J.getD p 0)) H2 1 4 (nI p) (nI 0) (nI 0) C2 L2 G2 B2 U (nI (J.getD p 0)) H2 := by
        intro U
        rw [T_Model_readKeyword]
        simp only [S_Model_readKeyword, B_Model_readKeyword_192, q_lit, nI_add]
        exact ⟨by congr 1; omega, trivial, trivial, trivial, trivial, trivial, trivial, trivial⟩
      have st3 : ∀ U : Bool, T_Model_readKeyword (nI tn) iC iE (nI (p + 1 + J.getD p 0 + 2)) C2 L2 G2 B2 (U || decide ((insW (seg J (p + 1) (J.getD p 0)) (pr J (p + 1 + J.getD p 0)) m).length = m.length)) (nI (J.getD p 0)) H2 2 3 (nI p) (nI (pr J (p + 1 + J.getD p 0))) C C Lt Ln Bt U (nI (J.getD p 0)) H2 := by
        intro U
        rw [T_Model_readKeyword]
        simp only [S_Model_readKeyword, B_Model_readKeyword_163]
        refine ⟨C2, L2, G2, B2, b1, ?_⟩
        cases U with
        | true =>
          simp (disch := omega) only [Bool.true_or, q_lit, le_T, le_F, lt_T, lt_F, eq_T, eq_F, m1_lt, m1_le, lt_m1, le_m1, eq_m1, m1_eq, nI_add, nI_sub, nI_dec, nI_mul, nI_or, nI_and, nI_div, nI_mod, and_255, and_31, and_1, and_63, nI_shl, nI_shr, bI_F, bI_1, vp_T, cl_T, true_implies, false_implies, not_true_eq_false, not_false_eq_true, true_and, and_true, false_and, and_false, Bool.false_eq_true, Bool.true_eq_false, reduceCtorEq, implies_true]
          exact st4 true
        | false =>
          rw [Bool.false_or]
          simp (disch := omega) only [q_lit, le_T, le_F, lt_T, lt_F, eq_T, eq_F, m1_lt, m1_le, lt_m1, le_m1, eq_m1, m1_eq, nI_add, nI_sub, nI_dec, nI_mul, nI_or, nI_and, nI_div, nI_mod, and_255, and_31, and_1, and_63, nI_shl, nI_shr, bI_F, bI_1, vp_T, cl_T, true_implies, false_implies, not_true_eq_false, not_false_eq_true, true_and, and_true, false_and, and_false, Bool.false_eq_true, Bool.true_eq_false, reduceCtorEq, implies_true]
          have hCC : (C2 = C) = ((insW (seg J (p + 1) (J.getD p 0)) (pr J (p + 1 + J.getD p 0)) m).length = m.length) := by
            rw [hC, hC2]
            by_cases h9 : (insW (seg J (p + 1) (J.getD p 0)) (pr J (p + 1 + J.getD p 0)) m).length = m.length
            · rw [h9]; simp
            · rw [eq_F h9 (by omega) (by omega)]; exact (eq_false h9).symm
          rw [hCC]
          by_cases h9 : (insW (seg J (p + 1) (J.getD p 0)) (pr J (p + 1 + J.getD p 0)) m).length = m.length
          · rw [decide_eq_true h9]
            exact ⟨fun _ => st4 true, fun h7 => absurd h9 h7⟩
          · rw [decide_eq_false h9]
            exact ⟨fun h7 => absurd h7 h9, fun _ => st4 false⟩
      have st2 : ∃ V : Bool, (V = false ↔ (p + 1 + J.getD p 0 + 2 ≤ J.length ∧ 1 ≤ pr J (p + 1 + J.getD p 0) ∧ pr J (p + 1 + J.getD p 0) < 2 ^ tn)) ∧ ∃ q, T_Model_readKeyword (nI tn) iC iE (nI (p + 1 + J.getD p 0 + 2)) C2 L2 G2 B2 (V || decide ((insW (seg J (p + 1) (J.getD p 0)) (pr J (p + 1 + J.getD p 0)) m).length = m.length)) (nI (J.getD p 0)) H2 q 2 (nI p) (nI 0) (nI 0) C Lt Ln Bt false (nI (J.getD p 0)) H2 := by
        by_cases k1 : J.length < p + 1 + J.getD p 0 + 2
        · rw [decide_eq_true k1] at ht
          refine ⟨true, ⟨(fun h => by cases h), fun h => by omega⟩, 3, ?_⟩
          rw [T_Model_readKeyword]
          simp (disch := omega) only [S_Model_readKeyword, B_Model_readKeyword_104, q_lit, le_T, le_F, lt_T, lt_F, eq_T, eq_F, m1_lt, m1_le, lt_m1, le_m1, eq_m1, m1_eq, nI_add, nI_sub, nI_dec, nI_mul, nI_or, nI_and, nI_div, nI_mod, and_255, and_31, and_1, and_63, nI_shl, nI_shr, bI_F, bI_1, vp_T, cl_T, true_implies, false_implies, not_true_eq_false, not_false_eq_true, true_and, and_true, false_and, and_false, Bool.false_eq_true, Bool.true_eq_false, reduceCtorEq, implies_true]
          refine ⟨_, _, ht, ?_⟩
          simp (disch := omega) only [q_lit, le_T, le_F, lt_T, lt_F, eq_T, eq_F, m1_lt, m1_le, lt_m1, le_m1, eq_m1, m1_eq, nI_add, nI_sub, nI_dec, nI_mul, nI_or, nI_and, nI_div, nI_mod, and_255, and_31, and_1, and_63, nI_shl, nI_shr, bI_F, bI_1, vp_T, cl_T, true_implies, false_implies, not_true_eq_false, not_false_eq_true, true_and, and_true, false_and, and_false, Bool.false_eq_true, Bool.true_eq_false, reduceCtorEq, implies_true]
          exact st3 true
        · rw [decide_eq_false k1] at ht
          by_cases k2 : 1 ≤ pr J (p + 1 + J.getD p 0) ∧ pr J (p + 1 + J.getD p 0) ≤ 2 ^ tn - 1
          · rw [decide_eq_true k2.1, decide_eq_true k2.2, Bool.true_and] at hin2
            refine ⟨false, ⟨fun _ => by omega, fun _ => rfl⟩, 3, ?_⟩
            rw [T_Model_readKeyword]
            simp (disch := omega) only [S_Model_readKeyword, B_Model_readKeyword_104, q_lit, le_T, le_F, lt_T, lt_F, eq_T, eq_F, m1_lt, m1_le, lt_m1, le_m1, eq_m1, m1_eq, nI_add, nI_sub, nI_dec, nI_mul, nI_or, nI_and, nI_div, nI_mod, and_255, and_31, and_1, and_63, nI_shl, nI_shr, bI_F, bI_1, vp_T, cl_T, true_implies, false_implies, not_true_eq_false, not_false_eq_true, true_and, and_true, false_and, and_false, Bool.false_eq_true, Bool.true_eq_false, reduceCtorEq, implies_true]
            refine ⟨_, _, ht, ?_⟩
            simp (disch := omega) only [q_lit, le_T, le_F, lt_T, lt_F, eq_T, eq_F, m1_lt, m1_le, lt_m1, le_m1, eq_m1, m1_eq, nI_add, nI_sub, nI_dec, nI_mul, nI_or, nI_and, nI_div, nI_mod, and_255, and_31, and_1, and_63, nI_shl, nI_shr, bI_F, bI_1, vp_T, cl_T, true_implies, false_implies, not_true_eq_false, not_false_eq_true, true_and, and_true, false_and, and_false, Bool.false_eq_true, Bool.true_eq_false, reduceCtorEq, implies_true]
            refine ⟨true, by rw [hev2]; exact hin2, ?_⟩
            simp (disch := omega) only [q_lit, le_T, le_F, lt_T, lt_F, eq_T, eq_F, m1_lt, m1_le, lt_m1, le_m1, eq_m1, m1_eq, nI_add, nI_sub, nI_dec, nI_mul, nI_or, nI_and, nI_div, nI_mod, and_255, and_31, and_1, and_63, nI_shl, nI_shr, bI_F, bI_1, vp_T, cl_T, true_implies, false_implies, not_true_eq_false, not_false_eq_true, true_and, and_true, false_and, and_false, Bool.false_eq_true, Bool.true_eq_false, reduceCtorEq, implies_true]
            exact st3 false
          · have hf : (decide (1 ≤ pr J (p + 1 + J.getD p 0)) && decide (pr J (p + 1 + J.getD p 0) ≤ 2 ^ tn - 1)) = false := by
              simp only [Bool.and_eq_false_iff, decide_eq_false_iff_not]; omega
            rw [hf] at hin2
            refine ⟨true, ⟨(fun h => by cases h), fun h => by omega⟩, 3, ?_⟩
            rw [T_Model_readKeyword]
            simp (disch := omega) only [S_Model_readKeyword, B_Model_readKeyword_104, q_lit, le_T, le_F, lt_T, lt_F, eq_T, eq_F, m1_lt, m1_le, lt_m1, le_m1, eq_m1, m1_eq, nI_add, nI_sub, nI_dec, nI_mul, nI_or, nI_and, nI_div, nI_mod, and_255, and_31, and_1, and_63, nI_shl, nI_shr, bI_F, bI_1, vp_T, cl_T, true_implies, false_implies, not_true_eq_false, not_false_eq_true, true_and, and_true, false_and, and_false, Bool.false_eq_true, Bool.true_eq_false, reduceCtorEq, implies_true]
            refine ⟨_, _, ht, ?_⟩
            simp (disch := omega) only [q_lit, le_T, le_F, lt_T, lt_F, eq_T, eq_F, m1_lt, m1_le, lt_m1, le_m1, eq_m1, m1_eq, nI_add, nI_sub, nI_dec, nI_mul, nI_or, nI_and, nI_div, nI_mod, and_255, and_31, and_1, and_63, nI_shl, nI_shr, bI_F, bI_1, vp_T, cl_T, true_implies, false_implies, not_true_eq_false, not_false_eq_true, true_and, and_true, false_and, and_false, Bool.false_eq_true, Bool.true_eq_false, reduceCtorEq, implies_true]
            refine ⟨false, by rw [hev2]; exact hin2, ?_⟩
            simp (disch := omega) only [q_lit, le_T, le_F, lt_T, lt_F, eq_T, eq_F, m1_lt, m1_le, lt_m1, le_m1, eq_m1, m1_eq, nI_add, nI_sub, nI_dec, nI_mul, nI_or, nI_and, nI_div, nI_mod, and_255, and_31, and_1, and_63, nI_shl, nI_shr, bI_F, bI_1, vp_T, cl_T, true_implies, false_implies, not_true_eq_false, not_false_eq_true, true_and, and_true, false_and, and_false, Bool.false_eq_true, Bool.true_eq_false, reduceCtorEq, implies_true]
            exact st3 true
      obtain ⟨V, hV, hq⟩ := st2
      refine ⟨_, C2, L2, G2, B2, _, _, H2, go (a3 _ _ _ _ _ _ _ _ hq), ?_, fun q hq2 => ?_⟩
      · unfold enM
        by_cases k9 : V = false ∧ ¬ (insW (seg J (p + 1) (J.getD p 0)) (pr J (p + 1 + J.getD p 0)) m).length = m.length
        · have k8 := hV.mp k9.1
          rw [if_pos ⟨g1.1, g1.2, a1, k8.1, k8.2.1, k8.2.2, k9.2⟩, k9.1, decide_eq_false k9.2]; rfl
        · rw [if_neg (fun h7 => k9 ⟨hV.mpr ⟨h7.2.2.2.1, h7.2.2.2.2.1, h7.2.2.2.2.2.1⟩, h7.2.2.2.2.2.2⟩)]
          cases V with
          | true => rfl
          | false =>
            have : (insW (seg J (p + 1) (J.getD p 0)) (pr J (p + 1 + J.getD p 0)) m).length = m.length := by
              by_cases h6 : (insW (seg J (p + 1) (J.getD p 0)) (pr J (p + 1 + J.getD p 0)) m).length = m.length
              · exact h6
              · exact absurd ⟨rfl, h6⟩ k9
            rw [decide_eq_true this]; rfl
      · unfold enM at hq2
        split at hq2
        · simp only [Option.some.injEq] at hq2
          rw [← hq2]
          exact ⟨rfl, b2⟩
        · cases hq2
    · rw [Nat.add_zero] at a1
      refine ⟨_, C, Lt, Ln, Bt, true, _, H2, go (a3 _ _ _ _ _ _ _ _ (bad2 _ _)), ?_, fun q hq => ?_⟩
      · unfold enM; rw [if_neg (fun h9 => by rw [a1] at h9; simp at h9)]; rfl
      · unfold enM at hq; rw [if_neg (fun h9 => by rw [a1] at h9; simp at h9)] at hq; cases hq
  · have hno : enM J tn p m = none := by unfold enM; rw [if_neg (fun h9 => g1 ⟨h9.1, h9.2.1⟩)]
    rw [hno]
    have hf : (decide (1 ≤ J.getD p 0) && decide (J.getD p 0 ≤ 8)) = false := by
      simp only [Bool.and_eq_false_iff, decide_eq_false_iff_not]; omega
    rw [hf] at hin
    obtain ⟨q, hq⟩ := bad1 (nI (J.getD p 0)) H
    refine ⟨nI p, C, Lt, Ln, Bt, true, nI (J.getD p 0), H, ⟨q, _, _, hby, ?_⟩, rfl, fun q hq => by cases hq⟩
    rw [Bool.false_or]
    by_cases k1 : J.length ≤ p
    · rw [decide_eq_true k1]
      simp (disch := omega) only [q_lit, le_T, le_F, lt_T, lt_F, eq_T, eq_F, m1_lt, m1_le, lt_m1, le_m1, eq_m1, m1_eq, nI_add, nI_sub, nI_dec, nI_mul, nI_or, nI_and, nI_div, nI_mod, and_255, and_31, and_1, and_63, nI_shl, nI_shr, bI_F, bI_1, vp_T, cl_T, true_implies, false_implies, not_true_eq_false, not_false_eq_true, true_and, and_true, false_and, and_false, Bool.false_eq_true, Bool.true_eq_false, reduceCtorEq, implies_true]
      exact hq
    · rw [decide_eq_false k1]
      simp (disch := omega) only [q_lit, le_T, le_F, lt_T, lt_F, eq_T, eq_F, m1_lt, m1_le, lt_m1, le_m1, eq_m1, m1_eq, nI_add, nI_sub, nI_dec, nI_mul, nI_or, nI_and, nI_div, nI_mod, and_255, and_31, and_1, and_63, nI_shl, nI_shr, bI_F, bI_1, vp_T, cl_T, true_implies, false_implies, not_true_eq_false, not_false_eq_true, true_and, and_true, false_and, and_false, Bool.false_eq_true, Bool.true_eq_false, reduceCtorEq, implies_true]
      exact ⟨_, hin, by simp (disch := omega) only [q_lit, le_T, le_F, lt_T, lt_F, eq_T, eq_F, m1_lt, m1_le, lt_m1, le_m1, eq_m1, m1_eq, nI_add, nI_sub, nI_dec, nI_mul, nI_or, nI_and, nI_div, nI_mod, and_255, and_31, and_1, and_63, nI_shl, nI_shr, bI_F, bI_1, vp_T, cl_T, true_implies, false_implies, not_true_eq_false, not_false_eq_true, true_and, and_true, false_and, and_false, Bool.false_eq_true, Bool.true_eq_false, reduceCtorEq, implies_true]; exact hq⟩
