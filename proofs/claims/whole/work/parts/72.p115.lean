/-! Pure: an image is read, the class. -/
theorem cb_begin {S BE : Nat → Int32} {BC T : Int32} {bs : List (List Nat)} (h : CB S BE BC T bs) (h10 : bs.length < 10) (N : Nat → Int64) (w : Int64) :
    D_Book_beginTopic w N S BC T (vp_updL N bs.length w) (upd (upd S bs.length BC) (bs.length + 1) BC) (nI (bs.length + 1)) ∧ CB (upd (upd S bs.length BC) (bs.length + 1) BC) BE BC (nI (bs.length + 1)) (bs ++ [[]]) := by
  obtain ⟨hT, z2, z3, z4, z5⟩ := h
  have hBC := z3.1
  refine ⟨?_, by simp, by simp; omega, by simpa using z3, fun t ht h0 => ?_, by simpa using z5⟩
  · rw [hT]
    simp (disch := omega) only [D_Book_beginTopic, q_lit, le_T, le_F, lt_T, lt_F, eq_T, eq_F, m1_lt, m1_le, lt_m1, le_m1, eq_m1, m1_eq, nI_add, nI_sub, nI_dec, nI_mul, nI_or, nI_and, nI_div, nI_mod, and_255, and_31, and_1, and_63, nI_shl, nI_shr, bI_F, bI_1, vp_T, cl_T, true_implies, false_implies, not_true_eq_false, not_false_eq_true, true_and, and_true, false_and, and_false, Bool.false_eq_true, Bool.true_eq_false, reduceCtorEq, implies_true]
  · simp only [List.length_append, List.length_cons, List.length_nil] at ht
    by_cases h6 : t = bs.length + 1
    · subst h6
      rw [upd_eq, hBC]
      have := off_all (bs ++ [[]])
      simp only [List.length_append, List.length_cons, List.length_nil, flat_snoc, List.append_nil] at this
      rw [this]
    · rw [upd_ne (by omega), off_app (by omega)]
      by_cases h7 : t = bs.length
      · subst h7
        rw [upd_eq, hBC, off_all]
      · rw [upd_ne (by omega)]
        exact z4 t (by omega) (by omega)
def nmC (J : List Nat) (t : Nat) : List Nat := (letRun J (2 + 10 * t) (2 + 10 * t + 6)).map smL
def nmsC (J : List Nat) : Nat → List (List Nat)
  | 0 => []
  | n + 1 => nmsC J n ++ [nmC J n]
theorem nmsC_len (J : List Nat) (n : Nat) : (nmsC J n).length = n := by
  induction n with
  | zero => rfl
  | succ n ih => simp [nmsC, ih]
theorem nmsC_bd (J : List Nat) {n t : Nat} (h : t < n) : bd (nmsC J n) t = nmC J t := by
  induction n with
  | zero => omega
  | succ n ih =>
    simp only [bd, nmsC]
    rw [getD_snoc, nmsC_len]
    by_cases h1 : t = n
    · rw [if_pos h1, h1]
    · rw [if_neg h1]; exact ih (by omega)
def tps (J : List Nat) : Nat → Nat → Nat → List (List Nat) → Option (Nat × List (List Nat))
  | 0, _, p, bs => some (p, bs)
  | n + 1, t, p, bs => if (upk J (p + pr J (2 + 10 * t + 8)) 255 p []).1 = true then tps J n (t + 1) (p + pr J (2 + 10 * t + 8)) (bs ++ [(upk J (p + pr J (2 + 10 * t + 8)) 255 p []).2]) else none
def rdC (J : List Nat) : Option (List (List Nat) × List (List Nat) × q_M2) := if 1 ≤ J.getD 1 0 ∧ J.getD 1 0 ≤ 10 then (tps J (J.getD 1 0) 0 (2 + 10 * J.getD 1 0) []).bind fun q => (trO J q.1).map fun ks => (nmsC J (J.getD 1 0), q.2, ks) else none
theorem row_pair {J : List Nat} {iE : Nat → Int32} {iC : Int32} (hJ : Rw 3000 iE iC J) (hy : q_By J) {q : Nat} (hq : q < 1000000) : D_Row_pair 3000 (nI q) iE iC (nI (pr J q)) ∧ pr J q < 65536 := by
  have hq1 := hy.getD q
  have hq2 := hy.getD (q + 1)
  refine ⟨⟨_, row_el hJ (by omega), _, by rw [show (nI q + 1 : Int32) = nI (q + 1) by simp (disch := omega) only [q_lit, le_T, le_F, lt_T, lt_F, eq_T, eq_F, m1_lt, m1_le, lt_m1, le_m1, eq_m1, m1_eq, nI_add, nI_sub, nI_dec, nI_mul, nI_or, nI_and, nI_div, nI_mod, and_255, and_31, and_1, and_63, nI_shl, nI_shr, bI_F, bI_1, vp_T, cl_T, true_implies, false_implies, not_true_eq_false, not_false_eq_true, true_and, and_true, false_and, and_false, Bool.false_eq_true, Bool.true_eq_false, reduceCtorEq, implies_true]]; exact row_el hJ (by omega), by unfold pr; simp (disch := omega) only [q_lit, le_T, le_F, lt_T, lt_F, eq_T, eq_F, m1_lt, m1_le, lt_m1, le_m1, eq_m1, m1_eq, nI_add, nI_sub, nI_dec, nI_mul, nI_or, nI_and, nI_div, nI_mod, and_255, and_31, and_1, and_63, nI_shl, nI_shr, bI_F, bI_1, vp_T, cl_T, true_implies, false_implies, not_true_eq_false, not_false_eq_true, true_and, and_true, false_and, and_false, Bool.false_eq_true, Bool.true_eq_false, reduceCtorEq, implies_true]⟩, by unfold pr; omega⟩
set_option maxRecDepth 100000 in
theorem ird {J : List Nat} {iE : Nat → Int32} {iC : Int32} (hJ : Rw 3000 iE iC J) (hy : q_By J) {tn : Nat} (htn : tn ≤ 10) (t : Nat) (ht : t ≤ tn) (p : Nat) (hp : p ≤ 200 + 600 * t) (bs : List (List Nat)) (hbl : bs.length = t) (hb2 : ∀ b ∈ bs, q_By b ∧ b.length ≤ 255) (N : Nat → Int64) (hN : ∀ u, u < t → N u = lN (enc (nmC J u))) {S BE : Nat → Int32} {BC T : Int32} (O : Bool) (h : CB S BE BC T bs) (KW : Nat → Int64) (KT : Nat → Int32) :
    ∃ (res : Bool) (irP' : Int32) (N' : Nat → Int64) (S' BE' : Nat → Int32) (BC' : Int32) (O' : Bool) (KW' : Nat → Int64) (KT' : Nat → Int32) (KC' T' : Int32), (∃ q, T_ImageReader_read 3000 2550 252 iE iC res irP' N' S' BE' BC' O' KW' KT' KC' T' q (nI tn) (nI t) (nI p) N S BE BC O KW KT (nI 0) T) ∧ (∃ n', BC' = nI n' ∧ n' ≤ 2550) ∧ res = ((tps J (tn - t) t p bs).bind fun q => trO J q.1).isSome ∧
      ∀ p2 bs2 ks, tps J (tn - t) t p bs = some (p2, bs2) → trO J p2 = some ks → q_DB N' S' BE' BC' KW' KT' KC' T' (nmsC J tn) bs2 ks ∧ (∀ b ∈ bs2, q_By b ∧ b.length ≤ 255) := by
  by_cases h1 : t < tn
  · have hw := let_word hJ (fun i => by have := hy.getD i; omega) (s := 2 + 10 * t) (f := 2 + 10 * t + 6) (by omega) (by omega)
    obtain ⟨hpr, hprl⟩ := row_pair hJ hy (q := 2 + 10 * t + 8) (by omega)
    obtain ⟨b1, b2⟩ := cb_begin h (by omega) N (lN (enc (letRun J (2 + 10 * t) (2 + 10 * t + 6))))
    rw [hbl] at b1 b2
    obtain ⟨p', S2, B2, C2, ⟨q, hq⟩, c2, c3, c4⟩ := ir_unp hJ hy (d := bs) (by omega) (fun b hb => (hb2 b hb).2) (f := p + pr J (2 + 10 * t + 8)) (by omega) 255 0 (by omega) p (by omega) [] (by simp) (by simp; omega) q_By.nil O b2
    rw [hbl] at hq
    have hun : D_ImageReader_unpack 3000 2550 (nI t) (nI (pr J (2 + 10 * t + 8))) (nI p) iE iC (upd (upd S t BC) (t + 1) BC) BE BC O (nI (t + 1)) (upk J (p + pr J (2 + 10 * t + 8)) 255 p []).1 (nI p') S2 B2 C2 O := ⟨q, by rw [nI_add]; exact hq⟩
    have huby := upk_by hy (f := p + pr J (2 + 10 * t + 8)) 255 p q_By.nil (by simp)
    have hN2 : ∀ u, u < t + 1 → vp_updL N t (lN (enc (letRun J (2 + 10 * t) (2 + 10 * t + 6)))) u = lN (enc (nmC J u)) := by
      intro u hu
      simp only [vp_updL]
      by_cases h7 : u = t
      · rw [if_pos h7, h7]; unfold nmC; rw [enc_sm]
      · rw [if_neg h7]; exact hN u (by omega)
    rw [show tn - t = (tn - (t + 1)) + 1 by omega, tps]
    have e6 : (nI 2 + nI 10 * nI t + nI 6 : Int32) = nI (2 + 10 * t + 6) := by simp (disch := omega) only [q_lit, le_T, le_F, lt_T, lt_F, eq_T, eq_F, m1_lt, m1_le, lt_m1, le_m1, eq_m1, m1_eq, nI_add, nI_sub, nI_dec, nI_mul, nI_or, nI_and, nI_div, nI_mod, and_255, and_31, and_1, and_63, nI_shl, nI_shr, bI_F, bI_1, vp_T, cl_T, true_implies, false_implies, not_true_eq_false, not_false_eq_true, true_and, and_true, false_and, and_false, Bool.false_eq_true, Bool.true_eq_false, reduceCtorEq, implies_true]
    have e8 : (nI 2 + nI 10 * nI t + nI 8 : Int32) = nI (2 + 10 * t + 8) := by simp (disch := omega) only [q_lit, le_T, le_F, lt_T, lt_F, eq_T, eq_F, m1_lt, m1_le, lt_m1, le_m1, eq_m1, m1_eq, nI_add, nI_sub, nI_dec, nI_mul, nI_or, nI_and, nI_div, nI_mod, and_255, and_31, and_1, and_63, nI_shl, nI_shr, bI_F, bI_1, vp_T, cl_T, true_implies, false_implies, not_true_eq_false, not_false_eq_true, true_and, and_true, false_and, and_false, Bool.false_eq_true, Bool.true_eq_false, reduceCtorEq, implies_true]
    have e0 : (nI 2 + nI 10 * nI t : Int32) = nI (2 + 10 * t) := by simp (disch := omega) only [q_lit, le_T, le_F, lt_T, lt_F, eq_T, eq_F, m1_lt, m1_le, lt_m1, le_m1, eq_m1, m1_eq, nI_add, nI_sub, nI_dec, nI_mul, nI_or, nI_and, nI_div, nI_mod, and_255, and_31, and_1, and_63, nI_shl, nI_shr, bI_F, bI_1, vp_T, cl_T, true_implies, false_implies, not_true_eq_false, not_false_eq_true, true_and, and_true, false_and, and_false, Bool.false_eq_true, Bool.true_eq_false, reduceCtorEq, implies_true]
    cases hr : (upk J (p + pr J (2 + 10 * t + 8)) 255 p []).1 with
    | false =>
      rw [hr] at hun
      rw [if_neg (by simp)]
      refine ⟨false, nI p', vp_updL N t (lN (enc (letRun J (2 + 10 * t) (2 + 10 * t + 6)))), S2, B2, C2, O, KW, KT, nI 0, nI (t + 1), ⟨1, ?_⟩, ⟨_, c2.2.2.1.1, c2.2.2.1.2.1⟩, rfl, fun p2 bs2 ks h9 => by cases h9⟩
      rw [T_ImageReader_read]
      simp (disch := omega) only [S_ImageReader_read, B_ImageReader_read_52, q_lit, le_T, le_F, lt_T, lt_F, eq_T, eq_F, m1_lt, m1_le, lt_m1, le_m1, eq_m1, m1_eq, nI_add, nI_sub, nI_dec, nI_mul, nI_or, nI_and, nI_div, nI_mod, and_255, and_31, and_1, and_63, nI_shl, nI_shr, bI_F, bI_1, vp_T, cl_T, true_implies, false_implies, not_true_eq_false, not_false_eq_true, true_and, and_true, false_and, and_false, Bool.false_eq_true, Bool.true_eq_false, reduceCtorEq, implies_true]
      exact ⟨_, hw, _, _, _, b1, _, hpr, _, _, _, _, _, _, hun, by simp [bI], fun h9 => absurd rfl h9⟩
    | true =>
      rw [hr] at hun
      rw [if_pos rfl]
      have hpf := c4 hr
      simp only [List.length_nil, Nat.sub_zero] at c3
      obtain ⟨res, irP', N', S', BE', BC', O', KW', KT', KC', T', ⟨q2, hq2⟩, g1, g2, g3⟩ := ird hJ hy htn (t + 1) h1 p' (by omega) (bs ++ [(upk J (p + pr J (2 + 10 * t + 8)) 255 p []).2]) (by simp [hbl]) (fun b hb => by
        simp only [List.mem_append, List.mem_singleton] at hb
        rcases hb with hb | hb
        · exact hb2 b hb
        · rw [hb]; exact huby) _ hN2 O c2 KW KT
      rw [hpf] at g2 g3
      refine ⟨res, irP', N', S', BE', BC', O', KW', KT', KC', T', ⟨q2 + 1, ?_⟩, g1, g2, g3⟩
      rw [T_ImageReader_read]
      simp (disch := omega) only [S_ImageReader_read, B_ImageReader_read_52, q_lit, le_T, le_F, lt_T, lt_F, eq_T, eq_F, m1_lt, m1_le, lt_m1, le_m1, eq_m1, m1_eq, nI_add, nI_sub, nI_dec, nI_mul, nI_or, nI_and, nI_div, nI_mod, and_255, and_31, and_1, and_63, nI_shl, nI_shr, bI_F, bI_1, vp_T, cl_T, true_implies, false_implies, not_true_eq_false, not_false_eq_true, true_and, and_true, false_and, and_false, Bool.false_eq_true, Bool.true_eq_false, reduceCtorEq, implies_true]
      refine ⟨_, hw, _, _, _, b1, _, hpr, _, _, _, _, _, _, hun, ?_⟩
      simp (disch := omega) only [q_lit, le_T, le_F, lt_T, lt_F, eq_T, eq_F, m1_lt, m1_le, lt_m1, le_m1, eq_m1, m1_eq, nI_add, nI_sub, nI_dec, nI_mul, nI_or, nI_and, nI_div, nI_mod, and_255, and_31, and_1, and_63, nI_shl, nI_shr, bI_F, bI_1, vp_T, cl_T, true_implies, false_implies, not_true_eq_false, not_false_eq_true, true_and, and_true, false_and, and_false, Bool.false_eq_true, Bool.true_eq_false, reduceCtorEq, implies_true]
      exact hq2
  · rw [show tn - t = 0 by omega, tps]
    obtain ⟨res, p', KW', KT', KC', m', a1, a2, a3, a4, a5⟩ := ir_tree hJ hy (p := p) (by omega) KW KT
    refine ⟨res, nI p', N, S, BE, BC, O, KW', KT', KC', T, ⟨1, ?_⟩, ⟨_, h.2.2.1.1, h.2.2.1.2.1⟩, a4, fun p2 bs2 ks h9 h8 => ?_⟩
    · rw [T_ImageReader_read]
      simp (disch := omega) only [S_ImageReader_read, B_ImageReader_read_52, q_lit, le_T, le_F, lt_T, lt_F, eq_T, eq_F, m1_lt, m1_le, lt_m1, le_m1, eq_m1, m1_eq, nI_add, nI_sub, nI_dec, nI_mul, nI_or, nI_and, nI_div, nI_mod, and_255, and_31, and_1, and_63, nI_shl, nI_shr, bI_F, bI_1, vp_T, cl_T, true_implies, false_implies, not_true_eq_false, not_false_eq_true, true_and, and_true, false_and, and_false, Bool.false_eq_true, Bool.true_eq_false, reduceCtorEq, implies_true]
      exact ⟨_, _, _, _, _, a1, rfl, rfl, rfl, rfl, rfl⟩
    · simp only [Option.some.injEq, Prod.mk.injEq] at h9
      obtain ⟨rfl, rfl⟩ := h9
      have := a5 ks h8
      subst this
      have htt : t = tn := by omega
      exact ⟨⟨h, by rw [nmsC_len, hbl, htt], fun u hu => by rw [nmsC_bd J (by omega)]; exact hN u (by omega), a2, a3⟩, hb2⟩
termination_by tn - t
decreasing_by all_goals omega
theorem ir_read {J : List Nat} {iE : Nat → Int32} {iC : Int32} (hJ : Rw 3000 iE iC J) (hy : q_By J) (irP : Int32) (N : Nat → Int64) (S BE : Nat → Int32) {n : Nat} (hn : n ≤ 2550) (O : Bool) (KW : Nat → Int64) (KT : Nat → Int32) (KC T : Int32) :
    ∃ (res : Bool) (irP' : Int32) (N' : Nat → Int64) (S' BE' : Nat → Int32) (BC' : Int32) (O' : Bool) (KW' : Nat → Int64) (KT' : Nat → Int32) (KC' T' : Int32), D_ImageReader_read 3000 2550 252 irP iE iC N S BE (nI n) O KW KT KC T res irP' N' S' BE' BC' O' KW' KT' KC' T' ∧ (∃ n', BC' = nI n' ∧ n' ≤ 2550) ∧ res = (rdC J).isSome ∧ ∀ ns bs ks, rdC J = some (ns, bs, ks) → q_DB N' S' BE' BC' KW' KT' KC' T' ns bs ks ∧ (∀ b ∈ bs, q_By b ∧ b.length ≤ 255) := by
  have hcut : D_Row_shorten 0 (nI n) O (nI 0) false := by simp (disch := omega) only [D_Row_shorten, q_lit, le_T, le_F, lt_T, lt_F, eq_T, eq_F, m1_lt, m1_le, lt_m1, le_m1, eq_m1, m1_eq, nI_add, nI_sub, nI_dec, nI_mul, nI_or, nI_and, nI_div, nI_mod, and_255, and_31, and_1, and_63, nI_shl, nI_shr, bI_F, bI_1, vp_T, cl_T, true_implies, false_implies, not_true_eq_false, not_false_eq_true, true_and, and_true, false_and, and_false, Bool.false_eq_true, Bool.true_eq_false, reduceCtorEq, implies_true]
  have hclr : D_Book_clear (nI n) O KC T (nI 0) false (nI 0) (nI 0) := ⟨_, _, hcut, rfl, rfl, rfl, rfl⟩
  have hel := row_el hJ (k := 1) (by omega)
  have hv := hy.getD 1
  unfold rdC
  by_cases h1 : J.getD 1 0 < 1
  · rw [if_neg (by omega)]
    refine ⟨false, irP, N, S, BE, nI 0, false, KW, KT, nI 0, nI 0, ⟨0, _, _, _, _, hclr, _, hel, ?_⟩, ⟨0, rfl, by omega⟩, rfl, fun ns bs ks h9 => by cases h9⟩
    simp (disch := omega) only [q_lit, le_T, le_F, lt_T, lt_F, eq_T, eq_F, m1_lt, m1_le, lt_m1, le_m1, eq_m1, m1_eq, nI_add, nI_sub, nI_dec, nI_mul, nI_or, nI_and, nI_div, nI_mod, and_255, and_31, and_1, and_63, nI_shl, nI_shr, bI_F, bI_1, vp_T, cl_T, true_implies, false_implies, not_true_eq_false, not_false_eq_true, true_and, and_true, false_and, and_false, Bool.false_eq_true, Bool.true_eq_false, reduceCtorEq, implies_true]
  · by_cases h2 : J.getD 1 0 ≤ 10
    · rw [if_pos (by omega)]
      obtain ⟨res, irP', N', S', BE', BC', O', KW', KT', KC', T', ⟨q2, hq2⟩, g1, g2, g3⟩ := ird hJ hy (tn := J.getD 1 0) h2 0 (by omega) (2 + 10 * J.getD 1 0) (by omega) [] rfl (fun b hb => by simp at hb) N (fun u hu => by omega) (S := S) (BE := BE) (BC := nI 0) (T := nI 0) false ⟨rfl, by simp, rw_nil (by decide) _, fun t _ h => by simp at h, by simp⟩ KW KT
      refine ⟨res, irP', N', S', BE', BC', O', KW', KT', KC', T', ⟨q2, _, _, _, _, hclr, _, hel, ?_⟩, g1, ?_, fun ns bs ks h9 => ?_⟩
      · simp (disch := omega) only [q_lit, le_T, le_F, lt_T, lt_F, eq_T, eq_F, m1_lt, m1_le, lt_m1, le_m1, eq_m1, m1_eq, nI_add, nI_sub, nI_dec, nI_mul, nI_or, nI_and, nI_div, nI_mod, and_255, and_31, and_1, and_63, nI_shl, nI_shr, bI_F, bI_1, vp_T, cl_T, true_implies, false_implies, not_true_eq_false, not_false_eq_true, true_and, and_true, false_and, and_false, Bool.false_eq_true, Bool.true_eq_false, reduceCtorEq, implies_true]
        exact hq2
      · rw [g2]
        simp only [Nat.sub_zero]
        cases tps J (J.getD 1 0) 0 (2 + 10 * J.getD 1 0) [] with
        | none => rfl
        | some q => simp
      · simp only [Nat.sub_zero] at g3
        cases hq : tps J (J.getD 1 0) 0 (2 + 10 * J.getD 1 0) [] with
        | none => rw [hq] at h9; cases h9
        | some q =>
          obtain ⟨p2, bs2⟩ := q
          rw [hq] at h9
          simp only [Option.bind_some] at h9
          cases ht : trO J p2 with
          | none => rw [ht] at h9; cases h9
          | some k2 =>
            rw [ht] at h9
            simp only [Option.map_some, Option.some.injEq, Prod.mk.injEq] at h9
            obtain ⟨rfl, rfl, rfl⟩ := h9
            exact g3 p2 bs2 k2 hq ht
    · rw [if_neg (by omega)]
      refine ⟨false, irP, N, S, BE, nI 0, false, KW, KT, nI 0, nI 0, ⟨0, _, _, _, _, hclr, _, hel, ?_⟩, ⟨0, rfl, by omega⟩, rfl, fun ns bs ks h9 => by cases h9⟩
      simp (disch := omega) only [q_lit, le_T, le_F, lt_T, lt_F, eq_T, eq_F, m1_lt, m1_le, lt_m1, le_m1, eq_m1, m1_eq, nI_add, nI_sub, nI_dec, nI_mul, nI_or, nI_and, nI_div, nI_mod, and_255, and_31, and_1, and_63, nI_shl, nI_shr, bI_F, bI_1, vp_T, cl_T, true_implies, false_implies, not_true_eq_false, not_false_eq_true, true_and, and_true, false_and, and_false, Bool.false_eq_true, Bool.true_eq_false, reduceCtorEq, implies_true]
