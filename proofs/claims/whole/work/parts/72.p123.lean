/-! Pure: the topics of an image are read, the reference: bodies. -/
def tpm (J : List Nat) : Nat → Nat → Nat → List (List Nat) → Option (Nat × List (List Nat))
  | 0, _, p, bs => some (p, bs)
  | n + 1, t, p, bs => (upm J (ln0 J t) (p + pk0 J t) 256 p []).bind fun b => tpm J n (t + 1) (p + pk0 J t) (bs ++ [b])
theorem pcm_le {J : List Nat} {len p : Nat} {c : List Nat} {p' : Nat} {c' : List Nat} (h : pcm J len p c = some (p', c')) : p' ≤ J.length := by
  unfold pcm at h
  split at h
  · cases h
  · split at h
    · split at h
      · cases h
      · simp only [Option.some.injEq, Prod.mk.injEq] at h; omega
    · split at h
      · cases h
      · simp only [Option.some.injEq, Prod.mk.injEq] at h; omega
theorem upm_le {J : List Nat} {len f : Nat} (i p : Nat) {c r : List Nat} (hp : p ≤ J.length) (h : upm J len f i p c = some r) : f ≤ J.length := by
  induction i generalizing p c with
  | zero => simp [upm] at h
  | succ i ih =>
    rw [upm] at h
    split at h
    · cases hq : pcm J len p c with
      | none => rw [hq] at h; cases h
      | some q => rw [hq] at h; exact ih _ (pcm_le hq) h
    · split at h
      · rename_i h1; omega
      · cases h
/-- bodies as the reference holds them -/
def Bs (J : List Nat) (Bo : Nat → Int32) (bs : List (List Nat)) : Prop := ∀ u, u < bs.length → Bt u Bo (bd bs u) ∧ q_By (bd bs u) ∧ (bd bs u).length = ln0 J u
set_option maxRecDepth 100000 in
theorem rt5 {J : List Nat} {iE : Nat → Int32} {iC : Int32} (hJ : Rw 8000 iE iC J) (hy : q_By J) {tn : Nat} (htn : tn ≤ 10) {Nm Le Hg : Nat → Int32} (hA : HA J tn Nm Le Hg) (hD : ∀ u, u < tn → HD J u) (t : Nat) (ht : t ≤ tn) (p : Nat) (hp : p ≤ J.length) (bs : List (List Nat)) (hbl : bs.length = t) (Bo : Nat → Int32) (hB : Bs J Bo bs) :
    (∃ p2 bs2 Bo2, tpm J (tn - t) t p bs = some (p2, bs2) ∧ p2 ≤ J.length ∧ bs2.length = tn ∧ Bs J Bo2 bs2 ∧ ∀ res T' Nm' Bo' Le' Hg' U', (∃ q, T_Model_readTopics iC iE res T' Nm' Bo' Le' Hg' U' q 6 (nI p2) (nI 0) (nI 0) (nI tn) Nm Bo2 Le Hg false) → ∃ q, T_Model_readTopics iC iE res T' Nm' Bo' Le' Hg' U' q 5 (nI p) (nI t) (nI 0) (nI tn) Nm Bo Le Hg false) ∨
    (tpm J (tn - t) t p bs = none ∧ ∃ (x : Nat) (Bo2 : Nat → Int32), x < 400000 ∧ ∃ q, T_Model_readTopics iC iE (nI x) (nI tn) Nm Bo2 Le Hg true q 5 (nI p) (nI t) (nI 0) (nI tn) Nm Bo Le Hg false) := by
  have h8 := hJ.2.1
  by_cases h1 : t < tn
  · obtain ⟨a1, a2⟩ := hA.2 t h1
    obtain ⟨d1, d2, d3⟩ := hD t h1
    have l1 := (hy.getD (2 + 10 * t + 8))
    have l2 := (hy.getD (2 + 10 * t + 8 + 1))
    have hpk : pk0 J t < 65536 := by unfold pk0 pr; omega
    obtain ⟨p', Bx, U', c1, c2, c3, c4⟩ := mo_unp hJ hy (t := t) (by omega) a1 d2 (s := p) (w := pk0 J t) (by omega) (by omega) 256 p (by omega) [] (by simp) (by simp; omega) Bo (fun i hi => by simp at hi)
    have hun : D_Model_unpack (nI t) (nI p) (Hg t) Bo Le iC iE false (nI p') Bx U' := by rw [a2]; exact c1
    rw [show tn - t = (tn - (t + 1)) + 1 by omega, tpm]
    cases hu : upm J (ln0 J t) (p + pk0 J t) 256 p [] with
    | none =>
      rw [hu] at c3
      simp only [Option.isNone_none] at c3
      subst c3
      refine Or.inr ⟨rfl, p', Bx, by omega, ?_⟩
      have s7 : T_Model_readTopics iC iE (nI p') (nI tn) Nm Bx Le Hg true 1 7 (nI p') (nI 0) (nI 0) (nI tn) Nm Bx Le Hg true := by
        rw [T_Model_readTopics]
        simp (disch := omega) only [S_Model_readTopics, B_Model_readTopics_212, q_lit, le_T, le_F, lt_T, lt_F, eq_T, eq_F, m1_lt, m1_le, lt_m1, le_m1, eq_m1, m1_eq, nI_add, nI_sub, nI_dec, nI_mul, nI_or, nI_and, nI_div, nI_mod, and_255, and_31, and_1, and_63, nI_shl, nI_shr, bI_F, bI_1, vp_T, cl_T, true_implies, false_implies, not_true_eq_false, not_false_eq_true, true_and, and_true, false_and, and_false, Bool.false_eq_true, Bool.true_eq_false, reduceCtorEq, implies_true]
      have s6 : T_Model_readTopics iC iE (nI p') (nI tn) Nm Bx Le Hg true 2 6 (nI p') (nI 0) (nI 0) (nI tn) Nm Bx Le Hg true := by
        rw [T_Model_readTopics]
        simp (disch := omega) only [S_Model_readTopics, B_Model_readTopics_210, q_lit, le_T, le_F, lt_T, lt_F, eq_T, eq_F, m1_lt, m1_le, lt_m1, le_m1, eq_m1, m1_eq, nI_add, nI_sub, nI_dec, nI_mul, nI_or, nI_and, nI_div, nI_mod, and_255, and_31, and_1, and_63, nI_shl, nI_shr, bI_F, bI_1, vp_T, cl_T, true_implies, false_implies, not_true_eq_false, not_false_eq_true, true_and, and_true, false_and, and_false, Bool.false_eq_true, Bool.true_eq_false, reduceCtorEq, implies_true]
        exact s7
      have s5 : T_Model_readTopics iC iE (nI p') (nI tn) Nm Bx Le Hg true 3 5 (nI p') (nI (t + 1)) (nI 0) (nI tn) Nm Bx Le Hg true := by
        rw [T_Model_readTopics]
        simp only [S_Model_readTopics, B_Model_readTopics_176, q_lit]
        simp (disch := omega) only [q_lit, le_T, le_F, lt_T, lt_F, eq_T, eq_F, m1_lt, m1_le, lt_m1, le_m1, eq_m1, m1_eq, nI_add, nI_sub, nI_dec, nI_mul, nI_or, nI_and, nI_div, nI_mod, and_255, and_31, and_1, and_63, nI_shl, nI_shr, bI_F, bI_1, vp_T, cl_T, true_implies, false_implies, not_true_eq_false, not_false_eq_true, true_and, and_true, false_and, and_false, Bool.false_eq_true, Bool.true_eq_false, reduceCtorEq, implies_true]
        exact ⟨fun _ => s6, fun _ => s6⟩
      refine ⟨4, ?_⟩
      rw [T_Model_readTopics]
      simp (disch := omega) only [S_Model_readTopics, B_Model_readTopics_176, q_lit, le_T, le_F, lt_T, lt_F, eq_T, eq_F, m1_lt, m1_le, lt_m1, le_m1, eq_m1, m1_eq, nI_add, nI_sub, nI_dec, nI_mul, nI_or, nI_and, nI_div, nI_mod, and_255, and_31, and_1, and_63, nI_shl, nI_shr, bI_F, bI_1, vp_T, cl_T, true_implies, false_implies, not_true_eq_false, not_false_eq_true, true_and, and_true, false_and, and_false, Bool.false_eq_true, Bool.true_eq_false, reduceCtorEq, implies_true]
      exact ⟨_, _, _, hun, s5⟩
    | some b =>
      rw [hu] at c3 c4
      simp only [Option.isNone_some] at c3
      subst c3
      obtain ⟨e1, e2, e3⟩ := c4 b rfl
      have hby := upm_by hy 256 p q_By.nil hu
      have hle := upm_le 256 p hp hu
      rw [Option.bind_some]
      have hB2 : Bs J Bx (bs ++ [b]) := by
        intro u hu2
        simp only [List.length_append, List.length_cons, List.length_nil] at hu2
        simp only [bd]
        rw [getD_snoc, hbl]
        by_cases h2 : u = t
        · rw [if_pos h2, h2]; exact ⟨e1, hby.1, hby.2⟩
        · rw [if_neg h2]
          obtain ⟨f1, f2, f3⟩ := hB u (by omega)
          refine ⟨fun i hi => ?_, f2, f3⟩
          have hlu : (bd bs u).length ≤ 255 := by rw [f3]; exact (hD u (by omega)).2.1
          have hi2 : i < (bd bs u).length := hi
          rw [e2 _ (by omega)]; exact f1 i hi
      have nx : ∀ {res T' Nm' Bo' Le' Hg' U'}, (∃ q, T_Model_readTopics iC iE res T' Nm' Bo' Le' Hg' U' q 5 (nI (p + pk0 J t)) (nI (t + 1)) (nI 0) (nI tn) Nm Bx Le Hg false) → ∃ q, T_Model_readTopics iC iE res T' Nm' Bo' Le' Hg' U' q 5 (nI p) (nI t) (nI 0) (nI tn) Nm Bo Le Hg false := by
        intro res T' Nm' Bo' Le' Hg' U' hq
        obtain ⟨q, hq⟩ := hq
        refine ⟨q + 1, ?_⟩
        rw [T_Model_readTopics]
        simp (disch := omega) only [S_Model_readTopics, B_Model_readTopics_176, q_lit, le_T, le_F, lt_T, lt_F, eq_T, eq_F, m1_lt, m1_le, lt_m1, le_m1, eq_m1, m1_eq, nI_add, nI_sub, nI_dec, nI_mul, nI_or, nI_and, nI_div, nI_mod, and_255, and_31, and_1, and_63, nI_shl, nI_shr, bI_F, bI_1, vp_T, cl_T, true_implies, false_implies, not_true_eq_false, not_false_eq_true, true_and, and_true, false_and, and_false, Bool.false_eq_true, Bool.true_eq_false, reduceCtorEq, implies_true]
        refine ⟨_, _, _, hun, ?_⟩
        rw [e3]
        exact hq
      rcases rt5 hJ hy htn hA hD (t + 1) h1 (p + pk0 J t) hle (bs ++ [b]) (by simp [hbl]) Bx hB2 with ⟨p2, bs2, B2, g1, g2, g3, g4, g5⟩ | ⟨g1, x, B2, g2, g3⟩
      · exact Or.inl ⟨p2, bs2, B2, g1, g2, g3, g4, fun res T' Nm' Bo' Le' Hg' U' hq => nx (g5 res T' Nm' Bo' Le' Hg' U' hq)⟩
      · exact Or.inr ⟨g1, x, B2, g2, nx g3⟩
  · rw [show tn - t = 0 by omega, tpm]
    refine Or.inl ⟨p, bs, Bo, rfl, hp, by omega, hB, fun res T' Nm' Bo' Le' Hg' U' hq => ?_⟩
    obtain ⟨q, hq⟩ := hq
    refine ⟨q + 1, ?_⟩
    rw [T_Model_readTopics]
    simp (disch := omega) only [S_Model_readTopics, B_Model_readTopics_176, q_lit, le_T, le_F, lt_T, lt_F, eq_T, eq_F, m1_lt, m1_le, lt_m1, le_m1, eq_m1, m1_eq, nI_add, nI_sub, nI_dec, nI_mul, nI_or, nI_and, nI_div, nI_mod, and_255, and_31, and_1, and_63, nI_shl, nI_shr, bI_F, bI_1, vp_T, cl_T, true_implies, false_implies, not_true_eq_false, not_false_eq_true, true_and, and_true, false_and, and_false, Bool.false_eq_true, Bool.true_eq_false, reduceCtorEq, implies_true]
    exact hq
termination_by tn - t
decreasing_by all_goals omega
set_option maxRecDepth 100000 in
theorem rt7 {J : List Nat} {iE : Nat → Int32} {iC : Int32} (hJ : Rw 8000 iE iC J) (hy : q_By J) {tn : Nat} (htn : tn ≤ 10) {Nm Le Hg : Nat → Int32} (hA : HA J tn Nm Le Hg) (hD : ∀ u, u < tn → HD J u) {bs : List (List Nat)} (hbl : bs.length = tn) {Bo : Nat → Int32} (hB : Bs J Bo bs) {x1 : Int32} (t : Nat) (ht : t ≤ tn) :
    ∃ U', (∃ q, T_Model_readTopics iC iE x1 (nI tn) Nm Bo Le Hg U' q 7 x1 (nI t) (nI 0) (nI tn) Nm Bo Le Hg false) ∧ (U' = false ↔ ∀ u, t ≤ u → u < tn → bOk tn 10 false (bd bs u) = true) := by
  by_cases h1 : t < tn
  · obtain ⟨a1, a2⟩ := hA.2 t h1
    obtain ⟨d1, d2, d3⟩ := hD t h1
    obtain ⟨f1, f2, f3⟩ := hB t (by omega)
    have hb := mo_isBody (t := t) (by omega) (Le := Le) (b := bd bs t) (by rw [a1, f3]) (by rw [f3]; exact d2) f1 f2 htn
    cases hk : bOk tn 10 false (bd bs t) with
    | true =>
      rw [hk] at hb
      obtain ⟨U', ⟨q, hq⟩, hi⟩ := rt7 hJ hy htn hA hD hbl hB (x1 := x1) (t + 1) h1
      refine ⟨U', ⟨q + 1, ?_⟩, ?_⟩
      · rw [T_Model_readTopics]
        simp (disch := omega) only [S_Model_readTopics, B_Model_readTopics_212, q_lit, le_T, le_F, lt_T, lt_F, eq_T, eq_F, m1_lt, m1_le, lt_m1, le_m1, eq_m1, m1_eq, nI_add, nI_sub, nI_dec, nI_mul, nI_or, nI_and, nI_div, nI_mod, and_255, and_31, and_1, and_63, nI_shl, nI_shr, bI_F, bI_1, vp_T, cl_T, true_implies, false_implies, not_true_eq_false, not_false_eq_true, true_and, and_true, false_and, and_false, Bool.false_eq_true, Bool.true_eq_false, reduceCtorEq, implies_true]
        refine ⟨_, hb, ?_⟩
        simp (disch := omega) only [q_lit, le_T, le_F, lt_T, lt_F, eq_T, eq_F, m1_lt, m1_le, lt_m1, le_m1, eq_m1, m1_eq, nI_add, nI_sub, nI_dec, nI_mul, nI_or, nI_and, nI_div, nI_mod, and_255, and_31, and_1, and_63, nI_shl, nI_shr, bI_F, bI_1, vp_T, cl_T, true_implies, false_implies, not_true_eq_false, not_false_eq_true, true_and, and_true, false_and, and_false, Bool.false_eq_true, Bool.true_eq_false, reduceCtorEq, implies_true]
        exact hq
      · rw [hi]
        constructor
        · intro h9 u h2 h3
          by_cases h4 : u = t
          · rw [h4]; exact hk
          · exact h9 u (by omega) h3
        · intro h9 u h2 h3; exact h9 u (by omega) h3
    | false =>
      rw [hk] at hb
      refine ⟨true, ⟨2, ?_⟩, ?_⟩
      · have s7 : T_Model_readTopics iC iE x1 (nI tn) Nm Bo Le Hg true 1 7 x1 (nI (t + 1)) (nI 0) (nI tn) Nm Bo Le Hg true := by
          rw [T_Model_readTopics]
          simp only [S_Model_readTopics, B_Model_readTopics_212]
          simp (disch := omega) only [q_lit, le_T, le_F, lt_T, lt_F, eq_T, eq_F, m1_lt, m1_le, lt_m1, le_m1, eq_m1, m1_eq, nI_add, nI_sub, nI_dec, nI_mul, nI_or, nI_and, nI_div, nI_mod, and_255, and_31, and_1, and_63, nI_shl, nI_shr, bI_F, bI_1, vp_T, cl_T, true_implies, false_implies, not_true_eq_false, not_false_eq_true, true_and, and_true, false_and, and_false, Bool.false_eq_true, Bool.true_eq_false, reduceCtorEq, implies_true]
        rw [T_Model_readTopics]
        simp (disch := omega) only [S_Model_readTopics, B_Model_readTopics_212, q_lit, le_T, le_F, lt_T, lt_F, eq_T, eq_F, m1_lt, m1_le, lt_m1, le_m1, eq_m1, m1_eq, nI_add, nI_sub, nI_dec, nI_mul, nI_or, nI_and, nI_div, nI_mod, and_255, and_31, and_1, and_63, nI_shl, nI_shr, bI_F, bI_1, vp_T, cl_T, true_implies, false_implies, not_true_eq_false, not_false_eq_true, true_and, and_true, false_and, and_false, Bool.false_eq_true, Bool.true_eq_false, reduceCtorEq, implies_true]
        refine ⟨_, hb, ?_⟩
        simp (disch := omega) only [q_lit, le_T, le_F, lt_T, lt_F, eq_T, eq_F, m1_lt, m1_le, lt_m1, le_m1, eq_m1, m1_eq, nI_add, nI_sub, nI_dec, nI_mul, nI_or, nI_and, nI_div, nI_mod, and_255, and_31, and_1, and_63, nI_shl, nI_shr, bI_F, bI_1, vp_T, cl_T, true_implies, false_implies, not_true_eq_false, not_false_eq_true, true_and, and_true, false_and, and_false, Bool.false_eq_true, Bool.true_eq_false, reduceCtorEq, implies_true]
        exact s7
      · simp only [Bool.true_eq_false, false_iff]
        intro h9
        have := h9 t (Nat.le_refl _) h1
        rw [hk] at this; cases this
  · refine ⟨false, ⟨1, ?_⟩, by simp only [true_iff]; intro u h2 h3; omega⟩
    rw [T_Model_readTopics]
    simp (disch := omega) only [S_Model_readTopics, B_Model_readTopics_212, q_lit, le_T, le_F, lt_T, lt_F, eq_T, eq_F, m1_lt, m1_le, lt_m1, le_m1, eq_m1, m1_eq, nI_add, nI_sub, nI_dec, nI_mul, nI_or, nI_and, nI_div, nI_mod, and_255, and_31, and_1, and_63, nI_shl, nI_shr, bI_F, bI_1, vp_T, cl_T, true_implies, false_implies, not_true_eq_false, not_false_eq_true, true_and, and_true, false_and, and_false, Bool.false_eq_true, Bool.true_eq_false, reduceCtorEq, implies_true]
termination_by tn - t
decreasing_by all_goals omega
/-- that topics can be read -/
def SCo (J : List Nat) : Prop := J.getD 0 0 = 72 ∧ 1 ≤ J.getD 1 0 ∧ J.getD 1 0 ≤ 10 ∧ (∀ u, u < J.getD 1 0 → HD J u) ∧ ∃ p bs, tpm J (J.getD 1 0) 0 (2 + 10 * J.getD 1 0) [] = some (p, bs) ∧ ∀ u, u < J.getD 1 0 → bOk (J.getD 1 0) 10 false (bd bs u) = true
theorem mo_topics {J : List Nat} {iE : Nat → Int32} {iC : Int32} (hJ : Rw 8000 iE iC J) (hy : q_By J) (h2 : 2 ≤ J.length) (tp : Int32) (Nm Bo Le Hg : Nat → Int32) :
    ∃ (p' : Nat) (T' : Int32) (Nm' Bo' Le' Hg' : Nat → Int32) (U' : Bool), D_Model_readTopics tp Nm Bo Le Hg iC iE false (nI p') T' Nm' Bo' Le' Hg' U' ∧ p' < 400000 ∧ ((U' = true ∧ ¬ SCo J) ∨ (U' = false ∧ SCo J ∧ T' = nI (J.getD 1 0) ∧ p' ≤ J.length ∧ ∃ bs, tpm J (J.getD 1 0) 0 (2 + 10 * J.getD 1 0) [] = some (p', bs) ∧ bs.length = J.getD 1 0 ∧ HA J (J.getD 1 0) Nm' Le' Hg' ∧ Bs J Bo' bs ∧ ∀ u, u < J.getD 1 0 → bOk (J.getD 1 0) 10 false (bd bs u) = true)) := by
  have h8 := hJ.2.1
  have b1 := mo_byteIn hJ (p := 1) (by omega)
  have b0 := mo_byteIn hJ (p := 0) (by omega)
  have v1 := hy.getD 1
  have v0 := hy.getD 0
  have hin := mo_in (x := J.getD 1 0) (a := 1) (b := 10) (by omega) (by omega) (by omega)
  -- a fault
  have bad : ¬ SCo J → (∃ q, T_Model_readTopics iC iE (nI 2) (nI (J.getD 1 0)) Nm Bo Le Hg true q 0 (nI 0) (nI 0) (nI 0) (nI (J.getD 1 0)) Nm Bo Le Hg true) := by
    intro _
    obtain ⟨q, hq⟩ := rt_bad (iE := iE) (iC := iC) (x1 := nI 2) (x2 := nI 0) (tp := nI (J.getD 1 0)) (Nm := Nm) (Bo := Bo) (Le := Le) (Hg := Hg)
    refine ⟨q + 1, ?_⟩
    rw [T_Model_readTopics]
    simp (disch := omega) only [S_Model_readTopics, B_Model_readTopics_48, q_lit, le_T, le_F, lt_T, lt_F, eq_T, eq_F, m1_lt, m1_le, lt_m1, le_m1, eq_m1, m1_eq, nI_add, nI_sub, nI_dec, nI_mul, nI_or, nI_and, nI_div, nI_mod, and_255, and_31, and_1, and_63, nI_shl, nI_shr, bI_F, bI_1, vp_T, cl_T, true_implies, false_implies, not_true_eq_false, not_false_eq_true, true_and, and_true, false_and, and_false, Bool.false_eq_true, Bool.true_eq_false, reduceCtorEq, implies_true]
    exact hq
  by_cases g0 : J.getD 0 0 = 72
  · by_cases g1 : 1 ≤ J.getD 1 0 ∧ J.getD 1 0 ≤ 10
    · rw [decide_eq_true g1.1, decide_eq_true g1.2, Bool.true_and] at hin
      have go : ∀ {res T' Nm' Bo' Le' Hg' U'}, (∃ q, T_Model_readTopics iC iE res T' Nm' Bo' Le' Hg' U' q 1 (nI 2) (nI 0) (nI 0) (nI (J.getD 1 0)) Nm Bo Le Hg false) → D_Model_readTopics tp Nm Bo Le Hg iC iE false res T' Nm' Bo' Le' Hg' U' := by
        intro res T' Nm' Bo' Le' Hg' U' hq
        obtain ⟨q, hq⟩ := hq
        refine ⟨q + 1, _, _, b1, ?_⟩
        simp (disch := omega) only [q_lit, le_T, le_F, lt_T, lt_F, eq_T, eq_F, m1_lt, m1_le, lt_m1, le_m1, eq_m1, m1_eq, nI_add, nI_sub, nI_dec, nI_mul, nI_or, nI_and, nI_div, nI_mod, and_255, and_31, and_1, and_63, nI_shl, nI_shr, bI_F, bI_1, vp_T, cl_T, true_implies, false_implies, not_true_eq_false, not_false_eq_true, true_and, and_true, false_and, and_false, Bool.false_eq_true, Bool.true_eq_false, reduceCtorEq, implies_true]
        refine ⟨_, _, b0, ?_⟩
        simp (disch := omega) only [q_lit, le_T, le_F, lt_T, lt_F, eq_T, eq_F, m1_lt, m1_le, lt_m1, le_m1, eq_m1, m1_eq, nI_add, nI_sub, nI_dec, nI_mul, nI_or, nI_and, nI_div, nI_mod, and_255, and_31, and_1, and_63, nI_shl, nI_shr, bI_F, bI_1, vp_T, cl_T, true_implies, false_implies, not_true_eq_false, not_false_eq_true, true_and, and_true, false_and, and_false, Bool.false_eq_true, Bool.true_eq_false, reduceCtorEq, implies_true]
        refine ⟨_, hin, ?_⟩
        simp (disch := omega) only [q_lit, le_T, le_F, lt_T, lt_F, eq_T, eq_F, m1_lt, m1_le, lt_m1, le_m1, eq_m1, m1_eq, nI_add, nI_sub, nI_dec, nI_mul, nI_or, nI_and, nI_div, nI_mod, and_255, and_31, and_1, and_63, nI_shl, nI_shr, bI_F, bI_1, vp_T, cl_T, true_implies, false_implies, not_true_eq_false, not_false_eq_true, true_and, and_true, false_and, and_false, Bool.false_eq_true, Bool.true_eq_false, reduceCtorEq, implies_true]
        rw [T_Model_readTopics]
        simp (disch := omega) only [S_Model_readTopics, B_Model_readTopics_48, q_lit, le_T, le_F, lt_T, lt_F, eq_T, eq_F, m1_lt, m1_le, lt_m1, le_m1, eq_m1, m1_eq, nI_add, nI_sub, nI_dec, nI_mul, nI_or, nI_and, nI_div, nI_mod, and_255, and_31, and_1, and_63, nI_shl, nI_shr, bI_F, bI_1, vp_T, cl_T, true_implies, false_implies, not_true_eq_false, not_false_eq_true, true_and, and_true, false_and, and_false, Bool.false_eq_true, Bool.true_eq_false, reduceCtorEq, implies_true]
        exact hq
      rcases rt1 hJ hy g1.2 (Bo := Bo) 0 (by omega) (by omega) Nm Le Hg ⟨fun t ht => by simp [Vs] at ht, fun u hu => by omega⟩ with ⟨N2, L2, H2, a1, a2, a3⟩ | ⟨a1, x, N2, L2, H2, a2, a3⟩
      · have hD : ∀ u, u < J.getD 1 0 → HD J u := fun u hu => a2 u (by omega) hu
        have hl10 : 2 + 10 * J.getD 1 0 ≤ J.length := by have := (hD (J.getD 1 0 - 1) (by omega)).1; omega
        have go2 : ∀ {res T' Nm' Bo' Le' Hg' U'}, (∃ q, T_Model_readTopics iC iE res T' Nm' Bo' Le' Hg' U' q 5 (nI (2 + 10 * J.getD 1 0)) (nI 0) (nI 0) (nI (J.getD 1 0)) N2 Bo L2 H2 false) → D_Model_readTopics tp Nm Bo Le Hg iC iE false res T' Nm' Bo' Le' Hg' U' := by
          intro res T' Nm' Bo' Le' Hg' U' hq
          obtain ⟨q, hq⟩ := hq
          refine go (a3 _ _ _ _ _ _ _ ⟨q + 1, ?_⟩)
          rw [T_Model_readTopics]
          simp (disch := omega) only [S_Model_readTopics, B_Model_readTopics_174, q_lit, le_T, le_F, lt_T, lt_F, eq_T, eq_F, m1_lt, m1_le, lt_m1, le_m1, eq_m1, m1_eq, nI_add, nI_sub, nI_dec, nI_mul, nI_or, nI_and, nI_div, nI_mod, and_255, and_31, and_1, and_63, nI_shl, nI_shr, bI_F, bI_1, vp_T, cl_T, true_implies, false_implies, not_true_eq_false, not_false_eq_true, true_and, and_true, false_and, and_false, Bool.false_eq_true, Bool.true_eq_false, reduceCtorEq, implies_true]
          exact hq
        rcases rt5 hJ hy g1.2 a1 hD 0 (by omega) (2 + 10 * J.getD 1 0) hl10 [] rfl Bo (fun u hu => by simp at hu) with ⟨p2, bs2, B2, c1, c2, c3, c4, c5⟩ | ⟨c1, x, B2, c2, c3⟩
        · rw [Nat.sub_zero] at c1
          obtain ⟨U', ⟨q, hq⟩, hi⟩ := rt7 hJ hy g1.2 a1 hD c3 c4 (x1 := nI p2) 0 (by omega)
          refine ⟨p2, nI (J.getD 1 0), N2, B2, L2, H2, U', go2 (c5 _ _ _ _ _ _ _ ⟨q + 1, ?_⟩), by omega, ?_⟩
          · rw [T_Model_readTopics]
            simp (disch := omega) only [S_Model_readTopics, B_Model_readTopics_210, q_lit, le_T, le_F, lt_T, lt_F, eq_T, eq_F, m1_lt, m1_le, lt_m1, le_m1, eq_m1, m1_eq, nI_add, nI_sub, nI_dec, nI_mul, nI_or, nI_and, nI_div, nI_mod, and_255, and_31, and_1, and_63, nI_shl, nI_shr, bI_F, bI_1, vp_T, cl_T, true_implies, false_implies, not_true_eq_false, not_false_eq_true, true_and, and_true, false_and, and_false, Bool.false_eq_true, Bool.true_eq_false, reduceCtorEq, implies_true]
            exact hq
          · cases U' with
            | false =>
              have hall : ∀ u, u < J.getD 1 0 → bOk (J.getD 1 0) 10 false (bd bs2 u) = true := fun u hu => hi.mp rfl u (by omega) hu
              exact Or.inr ⟨rfl, ⟨g0, g1.1, g1.2, hD, p2, bs2, c1, hall⟩, rfl, c2, bs2, c1, c3, a1, c4, hall⟩
            | true =>
              refine Or.inl ⟨rfl, fun h9 => ?_⟩
              obtain ⟨_, _, _, _, p3, bs3, e1, e2⟩ := h9
              rw [c1] at e1
              simp only [Option.some.injEq, Prod.mk.injEq] at e1
              obtain ⟨_, rfl⟩ := e1
              have := hi.mpr (fun u _ hu => e2 u hu)
              cases this
        · rw [Nat.sub_zero] at c1
          refine ⟨x, nI (J.getD 1 0), N2, B2, L2, H2, true, go2 c3, c2, Or.inl ⟨rfl, fun h9 => ?_⟩⟩
          obtain ⟨_, _, _, _, p3, bs3, e1, e2⟩ := h9
          rw [c1] at e1; cases e1
      · exact ⟨x, nI (J.getD 1 0), N2, Bo, L2, H2, true, go a3, by omega, Or.inl ⟨rfl, fun h9 => a1 (fun u _ hu => h9.2.2.2.1 u hu)⟩⟩
    · have hns : ¬ SCo J := fun h9 => g1 ⟨h9.2.1, h9.2.2.1⟩
      obtain ⟨q, hq⟩ := bad hns
      refine ⟨2, nI (J.getD 1 0), Nm, Bo, Le, Hg, true, ⟨q, _, _, b1, ?_⟩, by omega, Or.inl ⟨rfl, hns⟩⟩
      have hf : (decide (1 ≤ J.getD 1 0) && decide (J.getD 1 0 ≤ 10)) = false := by
        simp only [Bool.and_eq_false_iff, decide_eq_false_iff_not]; omega
      rw [hf] at hin
      simp (disch := omega) only [q_lit, le_T, le_F, lt_T, lt_F, eq_T, eq_F, m1_lt, m1_le, lt_m1, le_m1, eq_m1, m1_eq, nI_add, nI_sub, nI_dec, nI_mul, nI_or, nI_and, nI_div, nI_mod, and_255, and_31, and_1, and_63, nI_shl, nI_shr, bI_F, bI_1, vp_T, cl_T, true_implies, false_implies, not_true_eq_false, not_false_eq_true, true_and, and_true, false_and, and_false, Bool.false_eq_true, Bool.true_eq_false, reduceCtorEq, implies_true]
      refine ⟨_, _, b0, ?_⟩
      simp (disch := omega) only [q_lit, le_T, le_F, lt_T, lt_F, eq_T, eq_F, m1_lt, m1_le, lt_m1, le_m1, eq_m1, m1_eq, nI_add, nI_sub, nI_dec, nI_mul, nI_or, nI_and, nI_div, nI_mod, and_255, and_31, and_1, and_63, nI_shl, nI_shr, bI_F, bI_1, vp_T, cl_T, true_implies, false_implies, not_true_eq_false, not_false_eq_true, true_and, and_true, false_and, and_false, Bool.false_eq_true, Bool.true_eq_false, reduceCtorEq, implies_true]
      refine ⟨_, hin, ?_⟩
      simp (disch := omega) only [q_lit, le_T, le_F, lt_T, lt_F, eq_T, eq_F, m1_lt, m1_le, lt_m1, le_m1, eq_m1, m1_eq, nI_add, nI_sub, nI_dec, nI_mul, nI_or, nI_and, nI_div, nI_mod, and_255, and_31, and_1, and_63, nI_shl, nI_shr, bI_F, bI_1, vp_T, cl_T, true_implies, false_implies, not_true_eq_false, not_false_eq_true, true_and, and_true, false_and, and_false, Bool.false_eq_true, Bool.true_eq_false, reduceCtorEq, implies_true]
      exact hq
  · have hns : ¬ SCo J := fun h9 => g0 h9.1
    obtain ⟨q, hq⟩ := bad hns
    refine ⟨2, nI (J.getD 1 0), Nm, Bo, Le, Hg, true, ⟨q, _, _, b1, ?_⟩, by omega, Or.inl ⟨rfl, hns⟩⟩
    simp (disch := omega) only [q_lit, le_T, le_F, lt_T, lt_F, eq_T, eq_F, m1_lt, m1_le, lt_m1, le_m1, eq_m1, m1_eq, nI_add, nI_sub, nI_dec, nI_mul, nI_or, nI_and, nI_div, nI_mod, and_255, and_31, and_1, and_63, nI_shl, nI_shr, bI_F, bI_1, vp_T, cl_T, true_implies, false_implies, not_true_eq_false, not_false_eq_true, true_and, and_true, false_and, and_false, Bool.false_eq_true, Bool.true_eq_false, reduceCtorEq, implies_true]
    refine ⟨_, _, b0, ?_⟩
    simp (disch := omega) only [q_lit, le_T, le_F, lt_T, lt_F, eq_T, eq_F, m1_lt, m1_le, lt_m1, le_m1, eq_m1, m1_eq, nI_add, nI_sub, nI_dec, nI_mul, nI_or, nI_and, nI_div, nI_mod, and_255, and_31, and_1, and_63, nI_shl, nI_shr, bI_F, bI_1, vp_T, cl_T, true_implies, false_implies, not_true_eq_false, not_false_eq_true, true_and, and_true, false_and, and_false, Bool.false_eq_true, Bool.true_eq_false, reduceCtorEq, implies_true]
    exact hq
