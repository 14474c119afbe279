/-! Pure: all keywords of an image are read, the reference. -/
theorem treeN_lt : ∀ a b : Fin 64, a < b → treeN (4 * a.val) < treeN (4 * b.val) := by decide +kernel
theorem treeN_sm {l : Nat} (h : l ≤ 64) : treeN (4 * l) < 1000 := by
  unfold treeN up4; split <;> (try split) <;> (try split) <;> omega
set_option maxRecDepth 100000 in
theorem lvO_none {x : Nat} (l : Nat) (h : ∀ r, l ≤ r → r ≤ 63 → ¬ treeN (4 * r) = x) : lvO x l = none := by
  rw [lvO]; split
  · rename_i h1
    rw [if_neg (h l (Nat.le_refl _) h1)]
    exact lvO_none (l + 1) (fun r h2 h3 => h r (by omega) h3)
  · rfl
termination_by 64 - l
decreasing_by all_goals omega
set_option maxRecDepth 100000 in
theorem kl0 {iE : Nat → Int32} {iC tp : Int32} {x p : Nat} (hx : x < 2147483648) {C : Int32} {Lt Ln Bt : Nat → Int32} {U : Bool} {HL : Int32} {H : Nat → Int32} (l : Nat) (hl : l ≤ 63) (hb : ∀ r, r < l → treeN (4 * r) < x) :
    ∃ l2, l2 ≤ 63 ∧ lvO x 0 = (if treeN (4 * l2) = x then some l2 else none) ∧ ∀ C' Lt' Ln' Bt' U' HL' H', (∃ q, T_Model_readKeywords tp iC iE C' Lt' Ln' Bt' U' HL' H' q 1 (nI p) (nI x) (nI l2) (nI 0) (nI 0) (nI 0) (nI 0) C Lt Ln Bt U HL H) → ∃ q, T_Model_readKeywords tp iC iE C' Lt' Ln' Bt' U' HL' H' q 0 (nI p) (nI x) (nI l) (nI 0) (nI 0) (nI 0) (nI 0) C Lt Ln Bt U HL H := by
  have hn := mo_nodes (n := l) (by omega)
  have hts := treeN_sm (l := l) (by omega)
  have ends : (63 ≤ l ∨ x ≤ treeN (4 * l)) → lvO x 0 = (if treeN (4 * l) = x then some l else none) := by
    intro he
    by_cases h1 : treeN (4 * l) = x
    · rw [if_pos h1, ← h1]; exact lvO_eq hl 0 (by omega)
    · rw [if_neg h1]
      refine lvO_none 0 (fun r _ h3 h4 => ?_)
      rcases Nat.lt_trichotomy r l with h5 | h5 | h5
      · have := hb r h5; omega
      · rw [h5] at h4; exact h1 h4
      · rcases he with he | he
        · omega
        · have := treeN_lt ⟨l, by omega⟩ ⟨r, by omega⟩ h5
          simp only at this; omega
  by_cases h1 : 63 ≤ l
  · refine ⟨l, hl, ends (Or.inl h1), fun C' Lt' Ln' Bt' U' HL' H' hq => ?_⟩
    obtain ⟨q, hq⟩ := hq
    refine ⟨q + 1, ?_⟩
    rw [T_Model_readKeywords]
    simp (disch := omega) only [S_Model_readKeywords, B_Model_readKeywords_13, q_lit, le_T, le_F, lt_T, lt_F, eq_T, eq_F, m1_lt, m1_le, lt_m1, le_m1, eq_m1, m1_eq, nI_add, nI_sub, nI_dec, nI_mul, nI_or, nI_and, nI_div, nI_mod, and_255, and_31, and_1, and_63, nI_shl, nI_shr, bI_F, bI_1, vp_T, cl_T, true_implies, false_implies, not_true_eq_false, not_false_eq_true, true_and, and_true, false_and, and_false, Bool.false_eq_true, Bool.true_eq_false, reduceCtorEq, implies_true]
    exact hq
  · by_cases h2 : x ≤ treeN (4 * l)
    · refine ⟨l, hl, ends (Or.inr h2), fun C' Lt' Ln' Bt' U' HL' H' hq => ?_⟩
      obtain ⟨q, hq⟩ := hq
      refine ⟨q + 1, ?_⟩
      rw [T_Model_readKeywords]
      simp (disch := omega) only [S_Model_readKeywords, B_Model_readKeywords_13, q_lit, le_T, le_F, lt_T, lt_F, eq_T, eq_F, m1_lt, m1_le, lt_m1, le_m1, eq_m1, m1_eq, nI_add, nI_sub, nI_dec, nI_mul, nI_or, nI_and, nI_div, nI_mod, and_255, and_31, and_1, and_63, nI_shl, nI_shr, bI_F, bI_1, vp_T, cl_T, true_implies, false_implies, not_true_eq_false, not_false_eq_true, true_and, and_true, false_and, and_false, Bool.false_eq_true, Bool.true_eq_false, reduceCtorEq, implies_true]
      exact ⟨_, hn, by simp (disch := omega) only [q_lit, le_T, le_F, lt_T, lt_F, eq_T, eq_F, m1_lt, m1_le, lt_m1, le_m1, eq_m1, m1_eq, nI_add, nI_sub, nI_dec, nI_mul, nI_or, nI_and, nI_div, nI_mod, and_255, and_31, and_1, and_63, nI_shl, nI_shr, bI_F, bI_1, vp_T, cl_T, true_implies, false_implies, not_true_eq_false, not_false_eq_true, true_and, and_true, false_and, and_false, Bool.false_eq_true, Bool.true_eq_false, reduceCtorEq, implies_true]; exact hq⟩
    · obtain ⟨l2, a1, a2, a3⟩ := kl0 (iE := iE) (iC := iC) (tp := tp) (p := p) hx (C := C) (Lt := Lt) (Ln := Ln) (Bt := Bt) (U := U) (HL := HL) (H := H) (l + 1) (by omega) (fun r hr => by
        by_cases h3 : r = l
        · rw [h3]; omega
        · exact hb r (by omega))
      refine ⟨l2, a1, a2, fun C' Lt' Ln' Bt' U' HL' H' hq => ?_⟩
      obtain ⟨q, hq⟩ := a3 C' Lt' Ln' Bt' U' HL' H' hq
      refine ⟨q + 1, ?_⟩
      rw [T_Model_readKeywords]
      simp (disch := omega) only [S_Model_readKeywords, B_Model_readKeywords_13, q_lit, le_T, le_F, lt_T, lt_F, eq_T, eq_F, m1_lt, m1_le, lt_m1, le_m1, eq_m1, m1_eq, nI_add, nI_sub, nI_dec, nI_mul, nI_or, nI_and, nI_div, nI_mod, and_255, and_31, and_1, and_63, nI_shl, nI_shr, bI_F, bI_1, vp_T, cl_T, true_implies, false_implies, not_true_eq_false, not_false_eq_true, true_and, and_true, false_and, and_false, Bool.false_eq_true, Bool.true_eq_false, reduceCtorEq, implies_true]
      exact ⟨_, hn, by simp (disch := omega) only [q_lit, le_T, le_F, lt_T, lt_F, eq_T, eq_F, m1_lt, m1_le, lt_m1, le_m1, eq_m1, m1_eq, nI_add, nI_sub, nI_dec, nI_mul, nI_or, nI_and, nI_div, nI_mod, and_255, and_31, and_1, and_63, nI_shl, nI_shr, bI_F, bI_1, vp_T, cl_T, true_implies, false_implies, not_true_eq_false, not_false_eq_true, true_and, and_true, false_and, and_false, Bool.false_eq_true, Bool.true_eq_false, reduceCtorEq, implies_true]; exact hq⟩
termination_by 63 - l
decreasing_by all_goals omega
def enMs (J : List Nat) (tn : Nat) : Nat → Nat → q_M2 → Option (Nat × q_M2)
  | 0, p, m => some (p, m)
  | n + 1, p, m => (enM J tn p m).bind fun q => enMs J tn n q.1 q.2
def lfM (J : List Nat) (tn : Nat) : Nat → Nat → q_M2 → Option q_M2
  | 0, _, m => some m
  | c + 1, p, m => if 1 ≤ J.getD p 0 ∧ J.getD p 0 ≤ 4 ∧ m.length + J.getD p 0 ≤ 250 then (enMs J tn (J.getD p 0) (p + 1) m).bind fun q => lfM J tn c q.1 q.2 else none
theorem kl_bad {iE : Nat → Int32} {iC : Int32} {tp x3 x4 x5 : Int32} {C : Int32} {Lt Ln Bt : Nat → Int32} {HL : Int32} {H : Nat → Int32} : ∃ q, T_Model_readKeywords tp iC iE C Lt Ln Bt true HL H q 3 (nI 0) (nI 0) x3 x4 x5 (nI 0) (nI 0) C Lt Ln Bt true HL H := by
  refine ⟨1, ?_⟩
  rw [T_Model_readKeywords]
  simp (disch := omega) only [S_Model_readKeywords, B_Model_readKeywords_65, q_lit, le_T, le_F, lt_T, lt_F, eq_T, eq_F, m1_lt, m1_le, lt_m1, le_m1, eq_m1, m1_eq, nI_add, nI_sub, nI_dec, nI_mul, nI_or, nI_and, nI_div, nI_mod, and_255, and_31, and_1, and_63, nI_shl, nI_shr, bI_F, bI_1, vp_T, cl_T, true_implies, false_implies, not_true_eq_false, not_false_eq_true, true_and, and_true, false_and, and_false, Bool.false_eq_true, Bool.true_eq_false, reduceCtorEq, implies_true]
theorem kl5_bad {iE : Nat → Int32} {iC : Int32} {tp x3 x4 x5 x6 x7 : Int32} {C : Int32} {Lt Ln Bt : Nat → Int32} {HL : Int32} {H : Nat → Int32} : ∃ q, T_Model_readKeywords tp iC iE C Lt Ln Bt true HL H q 5 (nI 0) (nI 0) x3 x4 x5 x6 x7 C Lt Ln Bt true HL H := by
  obtain ⟨q, hq⟩ := kl_bad (iE := iE) (iC := iC) (tp := tp) (x3 := x3) (x4 := x4) (x5 := x5 + nI 1) (C := C) (Lt := Lt) (Ln := Ln) (Bt := Bt) (HL := HL) (H := H)
  refine ⟨q + 1, ?_⟩
  rw [T_Model_readKeywords]
  simp only [S_Model_readKeywords, B_Model_readKeywords_131, q_lit]
  simp only [bI_F, Bool.true_eq_false, false_implies, not_false_eq_true, true_implies, true_and]
  exact ⟨fun _ => hq, fun _ => hq⟩
theorem enM_ok {J : List Nat} (h8 : J.length ≤ 8000) {tn p : Nat} {m : q_M2} {q : Nat × q_M2} (h : enM J tn p m = some q) : q.1 ≤ 8000 ∧ q.2.length ≤ m.length + 1 := by
  unfold enM at h
  split at h
  · rename_i h1
    simp only [Option.some.injEq] at h
    rw [← h]
    exact ⟨by simp only; omega, insW_len _ _ _⟩
  · cases h
set_option maxRecDepth 100000 in
theorem kl5 {J : List Nat} {iE : Nat → Int32} {iC : Int32} (hJ : Rw 8000 iE iC J) (hy : q_By J) {tn : Nat} (htn : tn ≤ 10) {lv leaf : Nat} (hlv : lv ≤ 63) (hlf : leaf < lv)
    (ih : ∀ (p : Nat) (m : q_M2) (C : Int32) (Lt Ln Bt : Nat → Int32) (HL : Int32) (H : Nat → Int32), p ≤ 8000 → MW 8 250 Lt Ln Bt C m → ∃ (C' : Int32) (Lt' Ln' Bt' : Nat → Int32) (U' : Bool) (HL' : Int32) (H' : Nat → Int32), (∃ q, T_Model_readKeywords (nI tn) iC iE C' Lt' Ln' Bt' U' HL' H' q 3 (nI 0) (nI 0) (nI lv) (nI p) (nI (leaf + 1)) (nI 0) (nI 0) C Lt Ln Bt false HL H) ∧ U' = (lfM J tn (lv - (leaf + 1)) p m).isNone ∧ ∀ r, lfM J tn (lv - (leaf + 1)) p m = some r → MW 8 250 Lt' Ln' Bt' C' r)
    {e : Nat} (he : e ≤ 4) (j : Nat) (hj : j ≤ e) (p : Nat) (m : q_M2) (C : Int32) (Lt Ln Bt : Nat → Int32) (HL : Int32) (H : Nat → Int32) (hp : p ≤ 9000) (hp2 : j = e → p ≤ 8000) (hml : m.length + (e - j) ≤ 250) (hm : MW 8 250 Lt Ln Bt C m) :
    ∃ (C' : Int32) (Lt' Ln' Bt' : Nat → Int32) (U' : Bool) (HL' : Int32) (H' : Nat → Int32), (∃ q, T_Model_readKeywords (nI tn) iC iE C' Lt' Ln' Bt' U' HL' H' q 5 (nI 0) (nI 0) (nI lv) (nI p) (nI leaf) (nI e) (nI j) C Lt Ln Bt false HL H) ∧ U' = ((enMs J tn (e - j) p m).bind fun q => lfM J tn (lv - (leaf + 1)) q.1 q.2).isNone ∧ ∀ r, ((enMs J tn (e - j) p m).bind fun q => lfM J tn (lv - (leaf + 1)) q.1 q.2) = some r → MW 8 250 Lt' Ln' Bt' C' r := by
  by_cases h1 : j < e
  · obtain ⟨res, C2, L2, G2, B2, U2, HL2, H2, a1, a2, a3⟩ := mo_rk hJ hy htn (p := p) (by omega) (m := m) (by omega) hm HL H
    rw [show e - j = (e - (j + 1)) + 1 by omega, enMs]
    cases hq : enM J tn p m with
    | none =>
      rw [hq] at a2
      simp only [Option.isNone_none] at a2
      subst a2
      obtain ⟨q, hq5⟩ := kl5_bad (iE := iE) (iC := iC) (tp := nI tn) (x3 := nI lv) (x4 := res) (x5 := nI leaf) (x6 := nI e) (x7 := nI (j + 1)) (C := C2) (Lt := L2) (Ln := G2) (Bt := B2) (HL := HL2) (H := H2)
      refine ⟨C2, L2, G2, B2, true, HL2, H2, ⟨q + 1, ?_⟩, rfl, fun r hr => by cases hr⟩
      rw [T_Model_readKeywords]
      simp (disch := omega) only [S_Model_readKeywords, B_Model_readKeywords_131, q_lit, le_T, le_F, lt_T, lt_F, eq_T, eq_F, m1_lt, m1_le, lt_m1, le_m1, eq_m1, m1_eq, nI_add, nI_sub, nI_dec, nI_mul, nI_or, nI_and, nI_div, nI_mod, and_255, and_31, and_1, and_63, nI_shl, nI_shr, bI_F, bI_1, vp_T, cl_T, true_implies, false_implies, not_true_eq_false, not_false_eq_true, true_and, and_true, false_and, and_false, Bool.false_eq_true, Bool.true_eq_false, reduceCtorEq, implies_true]
      exact ⟨_, _, _, _, _, _, _, _, a1, hq5⟩
    | some q0 =>
      rw [hq] at a2 a3
      simp only [Option.isNone_some] at a2
      subst a2
      obtain ⟨b1, b2⟩ := a3 q0 rfl
      have hok := enM_ok hJ.2.1 hq
      obtain ⟨C', Lt', Ln', Bt', U', HL', H', ⟨q, hq5⟩, g1, g2⟩ := kl5 hJ hy htn hlv hlf ih he (j + 1) h1 q0.1 q0.2 C2 L2 G2 B2 HL2 H2 (by omega) (fun _ => by omega) (by omega) b2
      refine ⟨C', Lt', Ln', Bt', U', HL', H', ⟨q + 1, ?_⟩, g1, g2⟩
      rw [T_Model_readKeywords]
      simp (disch := omega) only [S_Model_readKeywords, B_Model_readKeywords_131, q_lit, le_T, le_F, lt_T, lt_F, eq_T, eq_F, m1_lt, m1_le, lt_m1, le_m1, eq_m1, m1_eq, nI_add, nI_sub, nI_dec, nI_mul, nI_or, nI_and, nI_div, nI_mod, and_255, and_31, and_1, and_63, nI_shl, nI_shr, bI_F, bI_1, vp_T, cl_T, true_implies, false_implies, not_true_eq_false, not_false_eq_true, true_and, and_true, false_and, and_false, Bool.false_eq_true, Bool.true_eq_false, reduceCtorEq, implies_true]
      rw [b1] at a1
      exact ⟨_, _, _, _, _, _, _, _, a1, hq5⟩
  · rw [show e - j = 0 by omega, enMs]
    obtain ⟨C', Lt', Ln', Bt', U', HL', H', ⟨q, hq⟩, g1, g2⟩ := ih p m C Lt Ln Bt HL H (hp2 (by omega)) hm
    refine ⟨C', Lt', Ln', Bt', U', HL', H', ⟨q + 1, ?_⟩, g1, g2⟩
    rw [T_Model_readKeywords]
    simp (disch := omega) only [S_Model_readKeywords, B_Model_readKeywords_131, q_lit, le_T, le_F, lt_T, lt_F, eq_T, eq_F, m1_lt, m1_le, lt_m1, le_m1, eq_m1, m1_eq, nI_add, nI_sub, nI_dec, nI_mul, nI_or, nI_and, nI_div, nI_mod, and_255, and_31, and_1, and_63, nI_shl, nI_shr, bI_F, bI_1, vp_T, cl_T, true_implies, false_implies, not_true_eq_false, not_false_eq_true, true_and, and_true, false_and, and_false, Bool.false_eq_true, Bool.true_eq_false, reduceCtorEq, implies_true]
    exact hq
termination_by e - j
decreasing_by all_goals omega
set_option maxRecDepth 100000 in
theorem kl3 {J : List Nat} {iE : Nat → Int32} {iC : Int32} (hJ : Rw 8000 iE iC J) (hy : q_By J) {tn : Nat} (htn : tn ≤ 10) {lv : Nat} (hlv : lv ≤ 63) (leaf : Nat) (hlf : leaf ≤ lv) (p : Nat) (m : q_M2) (C : Int32) (Lt Ln Bt : Nat → Int32) (HL : Int32) (H : Nat → Int32) (hp : p ≤ 8001) (hm : MW 8 250 Lt Ln Bt C m) :
    ∃ (C' : Int32) (Lt' Ln' Bt' : Nat → Int32) (U' : Bool) (HL' : Int32) (H' : Nat → Int32), (∃ q, T_Model_readKeywords (nI tn) iC iE C' Lt' Ln' Bt' U' HL' H' q 3 (nI 0) (nI 0) (nI lv) (nI p) (nI leaf) (nI 0) (nI 0) C Lt Ln Bt false HL H) ∧ U' = (lfM J tn (lv - leaf) p m).isNone ∧ ∀ r, lfM J tn (lv - leaf) p m = some r → MW 8 250 Lt' Ln' Bt' C' r := by
  by_cases h1 : leaf < lv
  · rw [show lv - leaf = (lv - (leaf + 1)) + 1 by omega, lfM]
    have hv := hy.getD p
    have hC := hm.1
    have hm2 := hm.2.1
    have hby := mo_byteAt hJ (p := p) (by omega) false
    rw [Bool.false_or] at hby
    have hin := mo_in (x := J.getD p 0) (a := 1) (b := 4) (by omega) (by omega) (by omega)
    by_cases hc : 1 ≤ J.getD p 0 ∧ J.getD p 0 ≤ 4 ∧ m.length + J.getD p 0 ≤ 250
    · rw [if_pos hc]
      have hpl : p < J.length := by
        rcases Nat.lt_or_ge p J.length with h1 | h1
        · exact h1
        · have := getD_ge h1; omega
      rw [decide_eq_false (by omega)] at hby
      rw [decide_eq_true hc.1, decide_eq_true hc.2.1, Bool.true_and] at hin
      obtain ⟨C', Lt', Ln', Bt', U', HL', H', ⟨q, hq⟩, g1, g2⟩ := kl5 hJ hy htn hlv h1 (fun p m C Lt Ln Bt HL H h2 h3 => kl3 hJ hy htn hlv (leaf + 1) h1 p m C Lt Ln Bt HL H (by omega) h3) hc.2.1 0 (by omega) (p + 1) m C Lt Ln Bt HL H (by omega) (fun h9 => by omega) (by omega) hm
      refine ⟨C', Lt', Ln', Bt', U', HL', H', ⟨q + 2, ?_⟩, g1, g2⟩
      rw [T_Model_readKeywords]
      simp only [S_Model_readKeywords, B_Model_readKeywords_65]
      rw [hC] at hq ⊢
      simp (disch := omega) only [q_lit, le_T, le_F, lt_T, lt_F, eq_T, eq_F, m1_lt, m1_le, lt_m1, le_m1, eq_m1, m1_eq, nI_add, nI_sub, nI_dec, nI_mul, nI_or, nI_and, nI_div, nI_mod, and_255, and_31, and_1, and_63, nI_shl, nI_shr, bI_F, bI_1, vp_T, cl_T, true_implies, false_implies, not_true_eq_false, not_false_eq_true, true_and, and_true, false_and, and_false, Bool.false_eq_true, Bool.true_eq_false, reduceCtorEq, implies_true]
      refine ⟨_, _, hby, ?_⟩
      simp (disch := omega) only [q_lit, le_T, le_F, lt_T, lt_F, eq_T, eq_F, m1_lt, m1_le, lt_m1, le_m1, eq_m1, m1_eq, nI_add, nI_sub, nI_dec, nI_mul, nI_or, nI_and, nI_div, nI_mod, and_255, and_31, and_1, and_63, nI_shl, nI_shr, bI_F, bI_1, vp_T, cl_T, true_implies, false_implies, not_true_eq_false, not_false_eq_true, true_and, and_true, false_and, and_false, Bool.false_eq_true, Bool.true_eq_false, reduceCtorEq, implies_true]
      refine ⟨_, hin, ?_⟩
      simp (disch := omega) only [q_lit, le_T, le_F, lt_T, lt_F, eq_T, eq_F, m1_lt, m1_le, lt_m1, le_m1, eq_m1, m1_eq, nI_add, nI_sub, nI_dec, nI_mul, nI_or, nI_and, nI_div, nI_mod, and_255, and_31, and_1, and_63, nI_shl, nI_shr, bI_F, bI_1, vp_T, cl_T, true_implies, false_implies, not_true_eq_false, not_false_eq_true, true_and, and_true, false_and, and_false, Bool.false_eq_true, Bool.true_eq_false, reduceCtorEq, implies_true]
      rw [T_Model_readKeywords]
      simp (disch := omega) only [S_Model_readKeywords, B_Model_readKeywords_125, q_lit, le_T, le_F, lt_T, lt_F, eq_T, eq_F, m1_lt, m1_le, lt_m1, le_m1, eq_m1, m1_eq, nI_add, nI_sub, nI_dec, nI_mul, nI_or, nI_and, nI_div, nI_mod, and_255, and_31, and_1, and_63, nI_shl, nI_shr, bI_F, bI_1, vp_T, cl_T, true_implies, false_implies, not_true_eq_false, not_false_eq_true, true_and, and_true, false_and, and_false, Bool.false_eq_true, Bool.true_eq_false, reduceCtorEq, implies_true]
      exact hq
    · rw [if_neg hc]
      -- label 4 with a fault
      obtain ⟨q, hq5⟩ := kl5_bad (iE := iE) (iC := iC) (tp := nI tn) (x3 := nI lv) (x4 := nI (p + 1)) (x5 := nI leaf) (x6 := nI (J.getD p 0)) (x7 := nI 0) (C := C) (Lt := Lt) (Ln := Ln) (Bt := Bt) (HL := HL) (H := H)
      have st : T_Model_readKeywords (nI tn) iC iE C Lt Ln Bt true HL H (q + 1) 4 (nI 0) (nI 0) (nI lv) (nI p) (nI leaf) (nI (J.getD p 0)) (nI 0) C Lt Ln Bt true HL H := by
        rw [T_Model_readKeywords]
        simp (disch := omega) only [S_Model_readKeywords, B_Model_readKeywords_125, q_lit, le_T, le_F, lt_T, lt_F, eq_T, eq_F, m1_lt, m1_le, lt_m1, le_m1, eq_m1, m1_eq, nI_add, nI_sub, nI_dec, nI_mul, nI_or, nI_and, nI_div, nI_mod, and_255, and_31, and_1, and_63, nI_shl, nI_shr, bI_F, bI_1, vp_T, cl_T, true_implies, false_implies, not_true_eq_false, not_false_eq_true, true_and, and_true, false_and, and_false, Bool.false_eq_true, Bool.true_eq_false, reduceCtorEq, implies_true]
        exact hq5
      refine ⟨C, Lt, Ln, Bt, true, HL, H, ⟨q + 2, ?_⟩, rfl, fun r hr => by cases hr⟩
      rw [T_Model_readKeywords]
      simp only [S_Model_readKeywords, B_Model_readKeywords_65]
      simp (disch := omega) only [q_lit, le_T, le_F, lt_T, lt_F, eq_T, eq_F, m1_lt, m1_le, lt_m1, le_m1, eq_m1, m1_eq, nI_add, nI_sub, nI_dec, nI_mul, nI_or, nI_and, nI_div, nI_mod, and_255, and_31, and_1, and_63, nI_shl, nI_shr, bI_F, bI_1, vp_T, cl_T, true_implies, false_implies, not_true_eq_false, not_false_eq_true, true_and, and_true, false_and, and_false, Bool.false_eq_true, Bool.true_eq_false, reduceCtorEq, implies_true]
      refine ⟨_, _, hby, ?_⟩
      by_cases k1 : J.length ≤ p
      · rw [decide_eq_true k1]
        simp (disch := omega) only [q_lit, le_T, le_F, lt_T, lt_F, eq_T, eq_F, m1_lt, m1_le, lt_m1, le_m1, eq_m1, m1_eq, nI_add, nI_sub, nI_dec, nI_mul, nI_or, nI_and, nI_div, nI_mod, and_255, and_31, and_1, and_63, nI_shl, nI_shr, bI_F, bI_1, vp_T, cl_T, true_implies, false_implies, not_true_eq_false, not_false_eq_true, true_and, and_true, false_and, and_false, Bool.false_eq_true, Bool.true_eq_false, reduceCtorEq, implies_true]
        exact st
      · rw [decide_eq_false k1]
        simp (disch := omega) only [q_lit, le_T, le_F, lt_T, lt_F, eq_T, eq_F, m1_lt, m1_le, lt_m1, le_m1, eq_m1, m1_eq, nI_add, nI_sub, nI_dec, nI_mul, nI_or, nI_and, nI_div, nI_mod, and_255, and_31, and_1, and_63, nI_shl, nI_shr, bI_F, bI_1, vp_T, cl_T, true_implies, false_implies, not_true_eq_false, not_false_eq_true, true_and, and_true, false_and, and_false, Bool.false_eq_true, Bool.true_eq_false, reduceCtorEq, implies_true]
        refine ⟨_, hin, ?_⟩
        by_cases k2 : 1 ≤ J.getD p 0 ∧ J.getD p 0 ≤ 4
        · rw [decide_eq_true k2.1, decide_eq_true k2.2, Bool.true_and]
          rw [hC] at st ⊢
          simp (disch := omega) only [q_lit, le_T, le_F, lt_T, lt_F, eq_T, eq_F, m1_lt, m1_le, lt_m1, le_m1, eq_m1, m1_eq, nI_add, nI_sub, nI_dec, nI_mul, nI_or, nI_and, nI_div, nI_mod, and_255, and_31, and_1, and_63, nI_shl, nI_shr, bI_F, bI_1, vp_T, cl_T, true_implies, false_implies, not_true_eq_false, not_false_eq_true, true_and, and_true, false_and, and_false, Bool.false_eq_true, Bool.true_eq_false, reduceCtorEq, implies_true]
          exact st
        · have hf : (decide (1 ≤ J.getD p 0) && decide (J.getD p 0 ≤ 4)) = false := by
            simp only [Bool.and_eq_false_iff, decide_eq_false_iff_not]; omega
          rw [hf]
          simp (disch := omega) only [q_lit, le_T, le_F, lt_T, lt_F, eq_T, eq_F, m1_lt, m1_le, lt_m1, le_m1, eq_m1, m1_eq, nI_add, nI_sub, nI_dec, nI_mul, nI_or, nI_and, nI_div, nI_mod, and_255, and_31, and_1, and_63, nI_shl, nI_shr, bI_F, bI_1, vp_T, cl_T, true_implies, false_implies, not_true_eq_false, not_false_eq_true, true_and, and_true, false_and, and_false, Bool.false_eq_true, Bool.true_eq_false, reduceCtorEq, implies_true]
          exact st
  · rw [show lv - leaf = 0 by omega, lfM]
    refine ⟨C, Lt, Ln, Bt, false, HL, H, ⟨1, ?_⟩, rfl, fun r hr => by simp only [Option.some.injEq] at hr; rw [← hr]; exact hm⟩
    rw [T_Model_readKeywords]
    simp (disch := omega) only [S_Model_readKeywords, B_Model_readKeywords_65, q_lit, le_T, le_F, lt_T, lt_F, eq_T, eq_F, m1_lt, m1_le, lt_m1, le_m1, eq_m1, m1_eq, nI_add, nI_sub, nI_dec, nI_mul, nI_or, nI_and, nI_div, nI_mod, and_255, and_31, and_1, and_63, nI_shl, nI_shr, bI_F, bI_1, vp_T, cl_T, true_implies, false_implies, not_true_eq_false, not_false_eq_true, true_and, and_true, false_and, and_false, Bool.false_eq_true, Bool.true_eq_false, reduceCtorEq, implies_true]
termination_by lv - leaf
decreasing_by all_goals omega
def trM (J : List Nat) (tn p : Nat) : Option q_M2 := if J.length ≤ p then none else (lvO (J.getD p 0) 0).bind fun l => lfM J tn l (p + 1) []
theorem mo_keys {J : List Nat} {iE : Nat → Int32} {iC : Int32} (hJ : Rw 8000 iE iC J) (hy : q_By J) {tn : Nat} (htn : tn ≤ 10) {p : Nat} (hp : p ≤ 8000) (C : Int32) (Lt Ln Bt : Nat → Int32) (HL : Int32) (H : Nat → Int32) :
    ∃ (C' : Int32) (Lt' Ln' Bt' : Nat → Int32) (U' : Bool) (HL' : Int32) (H' : Nat → Int32), D_Model_readKeywords (nI p) (nI tn) C Lt Ln Bt iC iE false HL H C' Lt' Ln' Bt' U' HL' H' ∧ U' = (trM J tn p).isNone ∧ ∀ r, trM J tn p = some r → MW 8 250 Lt' Ln' Bt' C' r := by
  have h8 := hJ.2.1
  have hv := hy.getD p
  have hby := mo_byteAt hJ (p := p) (by omega) false
  rw [Bool.false_or] at hby
  obtain ⟨l2, a1, a2, a3⟩ := kl0 (iE := iE) (iC := iC) (tp := nI tn) (x := J.getD p 0) (p := p) (by omega) (C := nI 0) (Lt := Lt) (Ln := Ln) (Bt := Bt) (U := decide (J.length ≤ p)) (HL := HL) (H := H) 0 (by omega) (fun r hr => by omega)
  have hn := mo_nodes (n := l2) (by omega)
  have hts := treeN_sm (l := l2) (by omega)
  have go : ∀ {C' Lt' Ln' Bt' U' HL' H'}, (∃ q, T_Model_readKeywords (nI tn) iC iE C' Lt' Ln' Bt' U' HL' H' q 3 (nI 0) (nI 0) (nI l2) (nI (p + 1)) (nI 0) (nI 0) (nI 0) (nI 0) Lt Ln Bt (decide (J.length ≤ p) || !(decide (treeN (4 * l2) = J.getD p 0))) HL H) → D_Model_readKeywords (nI p) (nI tn) C Lt Ln Bt iC iE false HL H C' Lt' Ln' Bt' U' HL' H' := by
    intro C' Lt' Ln' Bt' U' HL' H' hq
    obtain ⟨q, hq⟩ := hq
    have st2 : T_Model_readKeywords (nI tn) iC iE C' Lt' Ln' Bt' U' HL' H' (q + 1) 2 (nI p) (nI 0) (nI l2) (nI 0) (nI 0) (nI 0) (nI 0) (nI 0) Lt Ln Bt (decide (J.length ≤ p) || !(decide (treeN (4 * l2) = J.getD p 0))) HL H := by
      rw [T_Model_readKeywords]
      simp (disch := omega) only [S_Model_readKeywords, B_Model_readKeywords_57, q_lit, le_T, le_F, lt_T, lt_F, eq_T, eq_F, m1_lt, m1_le, lt_m1, le_m1, eq_m1, m1_eq, nI_add, nI_sub, nI_dec, nI_mul, nI_or, nI_and, nI_div, nI_mod, and_255, and_31, and_1, and_63, nI_shl, nI_shr, bI_F, bI_1, vp_T, cl_T, true_implies, false_implies, not_true_eq_false, not_false_eq_true, true_and, and_true, false_and, and_false, Bool.false_eq_true, Bool.true_eq_false, reduceCtorEq, implies_true]
      exact hq
    obtain ⟨q2, hq2⟩ := a3 C' Lt' Ln' Bt' U' HL' H' ⟨q + 2, by
      rw [T_Model_readKeywords]
      simp only [S_Model_readKeywords, B_Model_readKeywords_33, q_lit]
      by_cases k1 : J.length ≤ p
      · rw [decide_eq_true k1, Bool.true_or] at st2
        rw [decide_eq_true k1]
        simp (disch := omega) only [q_lit, le_T, le_F, lt_T, lt_F, eq_T, eq_F, m1_lt, m1_le, lt_m1, le_m1, eq_m1, m1_eq, nI_add, nI_sub, nI_dec, nI_mul, nI_or, nI_and, nI_div, nI_mod, and_255, and_31, and_1, and_63, nI_shl, nI_shr, bI_F, bI_1, vp_T, cl_T, true_implies, false_implies, not_true_eq_false, not_false_eq_true, true_and, and_true, false_and, and_false, Bool.false_eq_true, Bool.true_eq_false, reduceCtorEq, implies_true]
        exact st2
      · rw [decide_eq_false k1, Bool.false_or] at st2
        rw [decide_eq_false k1]
        simp (disch := omega) only [q_lit, le_T, le_F, lt_T, lt_F, eq_T, eq_F, m1_lt, m1_le, lt_m1, le_m1, eq_m1, m1_eq, nI_add, nI_sub, nI_dec, nI_mul, nI_or, nI_and, nI_div, nI_mod, and_255, and_31, and_1, and_63, nI_shl, nI_shr, bI_F, bI_1, vp_T, cl_T, true_implies, false_implies, not_true_eq_false, not_false_eq_true, true_and, and_true, false_and, and_false, Bool.false_eq_true, Bool.true_eq_false, reduceCtorEq, implies_true]
        refine ⟨_, hn, ?_⟩
        by_cases k2 : treeN (4 * l2) = J.getD p 0
        · rw [decide_eq_true k2] at st2
          simp (disch := omega) only [q_lit, le_T, le_F, lt_T, lt_F, eq_T, eq_F, m1_lt, m1_le, lt_m1, le_m1, eq_m1, m1_eq, nI_add, nI_sub, nI_dec, nI_mul, nI_or, nI_and, nI_div, nI_mod, and_255, and_31, and_1, and_63, nI_shl, nI_shr, bI_F, bI_1, vp_T, cl_T, true_implies, false_implies, not_true_eq_false, not_false_eq_true, true_and, and_true, false_and, and_false, Bool.false_eq_true, Bool.true_eq_false, reduceCtorEq, implies_true]
          exact st2
        · rw [decide_eq_false k2] at st2
          simp (disch := omega) only [q_lit, le_T, le_F, lt_T, lt_F, eq_T, eq_F, m1_lt, m1_le, lt_m1, le_m1, eq_m1, m1_eq, nI_add, nI_sub, nI_dec, nI_mul, nI_or, nI_and, nI_div, nI_mod, and_255, and_31, and_1, and_63, nI_shl, nI_shr, bI_F, bI_1, vp_T, cl_T, true_implies, false_implies, not_true_eq_false, not_false_eq_true, true_and, and_true, false_and, and_false, Bool.false_eq_true, Bool.true_eq_false, reduceCtorEq, implies_true]
          exact st2⟩
    exact ⟨q2, _, _, hby, hq2⟩
  unfold trM
  by_cases k1 : J.length ≤ p
  · rw [if_pos k1]
    rw [decide_eq_true k1, Bool.true_or] at go
    exact ⟨_, _, _, _, _, _, _, go kl_bad, rfl, fun r hr => by cases hr⟩
  · rw [if_neg k1]
    rw [decide_eq_false k1, Bool.false_or] at go
    rw [a2]
    by_cases k2 : treeN (4 * l2) = J.getD p 0
    · rw [if_pos k2, Option.bind_some]
      rw [decide_eq_true k2] at go
      obtain ⟨C', Lt', Ln', Bt', U', HL', H', hq, g1, g2⟩ := kl3 hJ hy htn a1 0 (by omega) (p + 1) [] (nI 0) Lt Ln Bt HL H (by omega) ⟨rfl, by simp, fun i hi => by simp at hi⟩
      exact ⟨C', Lt', Ln', Bt', U', HL', H', go hq, g1, g2⟩
    · rw [if_neg k2]
      rw [decide_eq_false k2] at go
      exact ⟨_, _, _, _, _, _, _, go kl_bad, rfl, fun r hr => by cases hr⟩
