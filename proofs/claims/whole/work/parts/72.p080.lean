/-! Pure: queries. Stacks with their top first. -/
def SR (A : Nat → Int32) : List Int32 → Prop
  | [] => True
  | x :: r => A r.length = x ∧ SR A r
theorem SR.up {A : Nat → Int32} {L : List Int32} (h : SR A L) {k : Nat} (hk : L.length ≤ k) (x : Int32) : SR (upd A k x) L := by
  induction L with
  | nil => trivial
  | cons y r ih =>
    simp only [List.length_cons] at hk
    exact ⟨by rw [← h.1]; simp only [upd]; rw [if_neg (by omega)], ih h.2 (by omega)⟩
theorem SR.push {A : Nat → Int32} {L : List Int32} (h : SR A L) (x : Int32) : SR (upd A L.length x) (x :: L) := ⟨by simp [upd], h.up (Nat.le_refl _) x⟩
theorem SR.app {A : Nat → Int32} {L M : List Int32} (h : SR A (L ++ M)) : SR A M := by
  induction L with
  | nil => exact h
  | cons y r ih => exact ih h.2
/-- all topics of a book -/
abbrev eT (tn : Nat) : Int32 := nI (1 <<< (tn % 32)) - nI 1
abbrev cmp1 (E v : Int32) : Int32 := E &&& (v ^^^ -nI 1)
def q_sb (E v : Int32) : Prop := v &&& E = v
theorem bit_ext {a b : Int32} (h : ∀ i, a.toBitVec.getLsbD i = b.toBitVec.getLsbD i) : a = b := Int32.toBitVec_inj.mp (BitVec.eq_of_getLsbD_eq (fun i _ => h i))
theorem sb_bit {E v : Int32} (h : q_sb E v) (i : Nat) : v.toBitVec.getLsbD i = (v.toBitVec.getLsbD i && E.toBitVec.getLsbD i) := by
  have := congrArg (fun z : Int32 => z.toBitVec.getLsbD i) h
  simp only [Int32.toBitVec_and, BitVec.getLsbD_and] at this
  exact this.symm
theorem not_bit (v : Int32) {i : Nat} (hi : i < 32) : (v ^^^ -nI 1).toBitVec.getLsbD i = !(v.toBitVec.getLsbD i) := by
  rw [Int32.toBitVec_xor, BitVec.getLsbD_xor]
  have : (-nI 1 : Int32).toBitVec.getLsbD i = true := by
    have e : (-nI 1 : Int32).toBitVec = BitVec.allOnes 32 := by decide +kernel
    rw [e, BitVec.getLsbD_allOnes]; simp [hi]
  rw [this, Bool.xor_true]
theorem q_sb_cmp (E v : Int32) : q_sb E (cmp1 E v) := by
  refine bit_ext (fun i => ?_)
  simp only [cmp1, Int32.toBitVec_and, BitVec.getLsbD_and]
  cases E.toBitVec.getLsbD i <;> simp
theorem cmp_cmp {E v : Int32} (h : q_sb E v) : cmp1 E (cmp1 E v) = v := by
  refine Int32.toBitVec_inj.mp (BitVec.eq_of_getLsbD_eq (fun i hi => ?_))
  rw [sb_bit h i]
  simp only [cmp1, Int32.toBitVec_and, BitVec.getLsbD_and]
  rw [not_bit _ hi, Int32.toBitVec_and, BitVec.getLsbD_and, not_bit _ hi]
  cases E.toBitVec.getLsbD i <;> simp
theorem sb_and {E a b : Int32} (h : q_sb E a) : q_sb E (a &&& b) := by
  refine bit_ext (fun i => ?_)
  have := sb_bit h i
  simp only [Int32.toBitVec_and, BitVec.getLsbD_and]
  revert this
  cases E.toBitVec.getLsbD i <;> cases a.toBitVec.getLsbD i <;> simp
theorem sb_or {E a b : Int32} (h : q_sb E a) (h2 : q_sb E b) : q_sb E (a ||| b) := by
  refine bit_ext (fun i => ?_)
  have := sb_bit h i
  have := sb_bit h2 i
  simp only [Int32.toBitVec_and, Int32.toBitVec_or, BitVec.getLsbD_and, BitVec.getLsbD_or]
  revert this; revert this
  cases E.toBitVec.getLsbD i <;> cases a.toBitVec.getLsbD i <;> cases b.toBitVec.getLsbD i <;> simp
theorem sb_e {E a : Int32} (h : q_sb E a) : E &&& a = a := by rw [Int32.and_comm]; exact h
theorem or_z (a : Int32) : nI 0 ||| a = a := by
  refine bit_ext (fun i => ?_)
  have e : (nI 0).toBitVec = 0#32 := by decide +kernel
  rw [Int32.toBitVec_or, BitVec.getLsbD_or, e]; simp
def ngt (E : Int32) : Nat → Int32 → Int32
  | 0, v => v
  | n + 1, v => ngt E n (cmp1 E v)
theorem ngt_eq {E : Int32} (n : Nat) {v : Int32} (h : q_sb E v) : ngt E n v = if n % 2 = 1 then cmp1 E v else v := by
  induction n generalizing v with
  | zero => simp [ngt]
  | succ n ih =>
    rw [ngt, ih (q_sb_cmp E v)]
    by_cases h1 : n % 2 = 1
    · rw [if_pos h1, if_neg (by omega), cmp_cmp h]
    · rw [if_neg h1, if_pos (by omega)]
theorem ngt_sb {E : Int32} (n : Nat) {v : Int32} (h : q_sb E v) : q_sb E (ngt E n v) := by
  rw [ngt_eq n h]; split
  · exact q_sb_cmp E v
  · exact h
theorem t_negate {tn : Nat} {G : Nat → Int32} (nb : Nat) {gs vs : List Int32} (hg : SR G (List.replicate nb (nI 33) ++ gs)) (hgt : ∀ x r, gs = x :: r → ¬ x = nI 33) (hl : nb + gs.length ≤ 42) (hvl : vs.length < 42) (v : Int32) (V : Nat → Int32) (hv : SR V (v :: vs)) :
    ∃ V', (∃ m, T_Model_negate (nI tn) (nI (vs.length + 1)) G V' (nI gs.length) m V (nI (nb + gs.length))) ∧ SR V' (ngt (eT tn) nb v :: vs) := by
  induction nb generalizing v V with
  | zero =>
    refine ⟨V, ⟨1, ?_⟩, hv⟩
    cases gs with
    | nil =>
      simp (disch := omega) only [T_Model_negate, S_Model_negate, B_Model_negate_0, List.length_nil, Nat.zero_add, q_lit, le_T, le_F, lt_T, lt_F, eq_T, eq_F, m1_lt, m1_le, lt_m1, le_m1, eq_m1, m1_eq, nI_add, nI_sub, nI_dec, nI_mul, nI_or, nI_and, nI_div, nI_mod, and_255, and_31, and_1, and_63, nI_shl, nI_shr, bI_F, bI_1, vp_T, cl_T, true_implies, false_implies, not_true_eq_false, not_false_eq_true, true_and, and_true, false_and, and_false, Bool.false_eq_true, Bool.true_eq_false, reduceCtorEq, implies_true, q_lc_eq, q_lc_ge, q_lc_gt, q_lc_le, lN_or, lN_and, lN_shl, lN_shr, nI_L, lN_I, l_0]
    | cons x r =>
      have h1 := hgt x r rfl
      have h2 : G r.length = x := hg.1
      simp only [List.length_cons] at hl
      simp (disch := omega) only [T_Model_negate, S_Model_negate, B_Model_negate_0, List.length_cons, Nat.zero_add, Nat.add_sub_cancel, h2, h1, q_lit, le_T, le_F, lt_T, lt_F, eq_T, eq_F, m1_lt, m1_le, lt_m1, le_m1, eq_m1, m1_eq, nI_add, nI_sub, nI_dec, nI_mul, nI_or, nI_and, nI_div, nI_mod, and_255, and_31, and_1, and_63, nI_shl, nI_shr, bI_F, bI_1, vp_T, cl_T, true_implies, false_implies, not_true_eq_false, not_false_eq_true, true_and, and_true, false_and, and_false, Bool.false_eq_true, Bool.true_eq_false, reduceCtorEq, implies_true, q_lc_eq, q_lc_ge, q_lc_gt, q_lc_le, lN_or, lN_and, lN_shl, lN_shr, nI_L, lN_I, l_0]
  | succ nb ih =>
    have h2 : G (nb + gs.length) = nI 33 := by
      have := hg.1
      simpa using this
    have h3 : V vs.length = v := hv.1
    obtain ⟨V', ⟨m, hm⟩, h4⟩ := ih (hg := hg.2) (by omega) (cmp1 (eT tn) v) (upd V vs.length (cmp1 (eT tn) v)) (hv.2.push _)
    refine ⟨V', ⟨m + 1, ?_⟩, h4⟩
    rw [show nb + 1 + gs.length = nb + gs.length + 1 by omega]
    simp (disch := omega) only [T_Model_negate, S_Model_negate, B_Model_negate_0, Nat.add_sub_cancel, h2, h3, q_lit, le_T, le_F, lt_T, lt_F, eq_T, eq_F, m1_lt, m1_le, lt_m1, le_m1, eq_m1, m1_eq, nI_add, nI_sub, nI_dec, nI_mul, nI_or, nI_and, nI_div, nI_mod, and_255, and_31, and_1, and_63, nI_shl, nI_shr, bI_F, bI_1, vp_T, cl_T, true_implies, false_implies, not_true_eq_false, not_false_eq_true, true_and, and_true, false_and, and_false, Bool.false_eq_true, Bool.true_eq_false, reduceCtorEq, implies_true, q_lc_eq, q_lc_ge, q_lc_gt, q_lc_le, lN_or, lN_and, lN_shl, lN_shr, nI_L, lN_I, l_0]
    exact hm
theorem mo_negate {tn : Nat} {G : Nat → Int32} (nb : Nat) {gs vs : List Int32} (hg : SR G (List.replicate nb (nI 33) ++ gs)) (hgt : ∀ x r, gs = x :: r → ¬ x = nI 33) (hl : nb + gs.length ≤ 42) (hvl : vs.length < 42) (v : Int32) (V : Nat → Int32) (hv : SR V (v :: vs)) :
    ∃ V', D_Model_negate (nI tn) V (nI (vs.length + 1)) G (nI (nb + gs.length)) V' (nI gs.length) ∧ SR V' (ngt (eT tn) nb v :: vs) := by
  obtain ⟨V', h1, h2⟩ := t_negate nb hg hgt hl hvl v V hv
  exact ⟨V', h1, h2⟩
theorem jn_and {G : Nat → Int32} {gs vs : List Int32} (hg : SR G (nI 38 :: gs)) (hl : gs.length < 42) (hvl : vs.length + 1 < 42) {c J : Int32} {V : Nat → Int32} (hv : SR V (c :: J :: vs)) {b : Bool} {V' : Nat → Int32} {vc gc : Int32}
    (h : ∃ m, T_Model_join G V' vc gc m 0 b false (upd V vs.length (J &&& c)) (nI (vs.length + 1)) (nI gs.length)) : ∃ m, T_Model_join G V' vc gc m 0 b false V (nI (vs.length + 2)) (nI (gs.length + 1)) := by
  obtain ⟨m, hm⟩ := h
  have h1 : G gs.length = nI 38 := hg.1
  have h2 : V (vs.length + 1) = c := hv.1
  have h3 : V vs.length = J := hv.2.1
  refine ⟨m + 3, ?_⟩
  simp (disch := omega) only [T_Model_join, S_Model_join, B_Model_join_0, B_Model_join_43, B_Model_join_83, Nat.add_sub_cancel, h1, show vs.length + 2 - 1 = vs.length + 1 by omega, h2, h3, q_lit, le_T, le_F, lt_T, lt_F, eq_T, eq_F, m1_lt, m1_le, lt_m1, le_m1, eq_m1, m1_eq, nI_add, nI_sub, nI_dec, nI_mul, nI_or, nI_and, nI_div, nI_mod, and_255, and_31, and_1, and_63, nI_shl, nI_shr, bI_F, bI_1, vp_T, cl_T, true_implies, false_implies, not_true_eq_false, not_false_eq_true, true_and, and_true, false_and, and_false, Bool.false_eq_true, Bool.true_eq_false, reduceCtorEq, implies_true, q_lc_eq, q_lc_ge, q_lc_gt, q_lc_le, lN_or, lN_and, lN_shl, lN_shr, nI_L, lN_I, l_0]
  exact hm
theorem jn_or {G : Nat → Int32} {gs vs : List Int32} (hg : SR G (nI 124 :: gs)) (hl : gs.length < 42) (hvl : vs.length + 1 < 42) {c J : Int32} {V : Nat → Int32} (hv : SR V (c :: J :: vs)) {V' : Nat → Int32} {vc gc : Int32}
    (h : ∃ m, T_Model_join G V' vc gc m 0 true false (upd V vs.length (J ||| c)) (nI (vs.length + 1)) (nI gs.length)) : ∃ m, T_Model_join G V' vc gc m 0 true false V (nI (vs.length + 2)) (nI (gs.length + 1)) := by
  obtain ⟨m, hm⟩ := h
  have h1 : G gs.length = nI 124 := hg.1
  have h2 : V (vs.length + 1) = c := hv.1
  have h3 : V vs.length = J := hv.2.1
  refine ⟨m + 3, ?_⟩
  simp (disch := omega) only [T_Model_join, S_Model_join, B_Model_join_0, B_Model_join_43, B_Model_join_83, Nat.add_sub_cancel, h1, show vs.length + 2 - 1 = vs.length + 1 by omega, h2, h3, q_lit, le_T, le_F, lt_T, lt_F, eq_T, eq_F, m1_lt, m1_le, lt_m1, le_m1, eq_m1, m1_eq, nI_add, nI_sub, nI_dec, nI_mul, nI_or, nI_and, nI_div, nI_mod, and_255, and_31, and_1, and_63, nI_shl, nI_shr, bI_F, bI_1, vp_T, cl_T, true_implies, false_implies, not_true_eq_false, not_false_eq_true, true_and, and_true, false_and, and_false, Bool.false_eq_true, Bool.true_eq_false, reduceCtorEq, implies_true, q_lc_eq, q_lc_ge, q_lc_gt, q_lc_le, lN_or, lN_and, lN_shl, lN_shr, nI_L, lN_I, l_0]
  exact hm
theorem jn_end {G : Nat → Int32} {gs : List Int32} (hg : SR G gs) (hl : gs.length ≤ 42) {b : Bool} (hgt : ∀ x r, gs = x :: r → ¬ x = nI 38 ∧ (b = true → ¬ x = nI 124)) (V : Nat → Int32) (vc : Int32) : ∃ m, T_Model_join G V vc (nI gs.length) m 0 b false V vc (nI gs.length) := by
  refine ⟨1, ?_⟩
  cases gs with
  | nil => simp (disch := omega) only [T_Model_join, S_Model_join, B_Model_join_0, List.length_nil, q_lit, le_T, le_F, lt_T, lt_F, eq_T, eq_F, m1_lt, m1_le, lt_m1, le_m1, eq_m1, m1_eq, nI_add, nI_sub, nI_dec, nI_mul, nI_or, nI_and, nI_div, nI_mod, and_255, and_31, and_1, and_63, nI_shl, nI_shr, bI_F, bI_1, vp_T, cl_T, true_implies, false_implies, not_true_eq_false, not_false_eq_true, true_and, and_true, false_and, and_false, Bool.false_eq_true, Bool.true_eq_false, reduceCtorEq, implies_true, q_lc_eq, q_lc_ge, q_lc_gt, q_lc_le, lN_or, lN_and, lN_shl, lN_shr, nI_L, lN_I, l_0]
  | cons x r =>
    have h1 := hgt x r rfl
    have h2 : G r.length = x := hg.1
    simp only [List.length_cons] at hl
    cases b with
    | false => simp (disch := omega) only [T_Model_join, S_Model_join, B_Model_join_0, List.length_cons, Nat.add_sub_cancel, h2, h1.1, q_lit, le_T, le_F, lt_T, lt_F, eq_T, eq_F, m1_lt, m1_le, lt_m1, le_m1, eq_m1, m1_eq, nI_add, nI_sub, nI_dec, nI_mul, nI_or, nI_and, nI_div, nI_mod, and_255, and_31, and_1, and_63, nI_shl, nI_shr, bI_F, bI_1, vp_T, cl_T, true_implies, false_implies, not_true_eq_false, not_false_eq_true, true_and, and_true, false_and, and_false, Bool.false_eq_true, Bool.true_eq_false, reduceCtorEq, implies_true, q_lc_eq, q_lc_ge, q_lc_gt, q_lc_le, lN_or, lN_and, lN_shl, lN_shr, nI_L, lN_I, l_0]
    | true => simp (disch := omega) only [T_Model_join, S_Model_join, B_Model_join_0, List.length_cons, Nat.add_sub_cancel, h2, h1.1, h1.2 rfl, q_lit, le_T, le_F, lt_T, lt_F, eq_T, eq_F, m1_lt, m1_le, lt_m1, le_m1, eq_m1, m1_eq, nI_add, nI_sub, nI_dec, nI_mul, nI_or, nI_and, nI_div, nI_mod, and_255, and_31, and_1, and_63, nI_shl, nI_shr, bI_F, bI_1, vp_T, cl_T, true_implies, false_implies, not_true_eq_false, not_false_eq_true, true_and, and_true, false_and, and_false, Bool.false_eq_true, Bool.true_eq_false, reduceCtorEq, implies_true, q_lc_eq, q_lc_ge, q_lc_gt, q_lc_le, lN_or, lN_and, lN_shl, lN_shr, nI_L, lN_I, l_0]
/-- a level's stacks where a condition is due: found and joined -/
def LV (E f j : Int32) (v g : List Int32) : Prop := (f = nI 0 ∧ j = E ∧ v = [] ∧ g = []) ∨ (f = nI 0 ∧ v = [j] ∧ g = [nI 38] ∧ q_sb E j) ∨ (j = E ∧ v = [f] ∧ g = [nI 124] ∧ q_sb E f) ∨ (v = [j, f] ∧ g = [nI 38, nI 124] ∧ q_sb E f ∧ q_sb E j)
theorem LV.n00 {E : Int32} : LV E (nI 0) E [] [] := Or.inl ⟨rfl, rfl, rfl, rfl⟩
theorem LV.n01 {E : Int32} (J : Int32) (h : q_sb E J) : LV E (nI 0) J [J] [nI 38] := Or.inr (Or.inl ⟨rfl, rfl, rfl, h⟩)
theorem LV.n10 {E : Int32} (F : Int32) (h : q_sb E F) : LV E F E [F] [nI 124] := Or.inr (Or.inr (Or.inl ⟨rfl, rfl, rfl, h⟩))
theorem LV.n11 {E : Int32} (F J : Int32) (h : q_sb E F) (h2 : q_sb E J) : LV E F J [J, F] [nI 38, nI 124] := Or.inr (Or.inr (Or.inr ⟨rfl, rfl, h, h2⟩))
theorem LV.cs {E : Int32} {motive : (f j : Int32) → (v g : List Int32) → LV E f j v g → Prop} (n00 : motive (nI 0) E [] [] LV.n00) (n01 : ∀ (J : Int32) (h : q_sb E J), motive (nI 0) J [J] [nI 38] (LV.n01 J h)) (n10 : ∀ (F : Int32) (h : q_sb E F), motive F E [F] [nI 124] (LV.n10 F h)) (n11 : ∀ (F J : Int32) (h : q_sb E F) (h2 : q_sb E J), motive F J [J, F] [nI 38, nI 124] (LV.n11 F J h h2)) {f j : Int32} {v g : List Int32} (t : LV E f j v g) : motive f j v g t := by
  rcases t with ⟨rfl, rfl, rfl, rfl⟩ | ⟨rfl, rfl, rfl, h⟩ | ⟨rfl, rfl, rfl, h⟩ | ⟨rfl, rfl, h, h2⟩
  · exact n00
  · exact n01 _ h
  · exact n10 _ h
  · exact n11 _ _ h h2
def q_QD (E : Int32) : List (Int32 × Int32 × Bool) → Nat → List Int32 → List Int32 → Prop
  | [], _, _, _ => False
  | (f, j, n) :: r, nb, vs, gs => n = decide (nb % 2 = 1) ∧ ∃ v1 g1 v2 g2, LV E f j v1 g1 ∧ vs = v1 ++ v2 ∧ gs = List.replicate nb (nI 33) ++ (g1 ++ g2) ∧ ((r = [] ∧ v2 = [] ∧ g2 = []) ∨ (r ≠ [] ∧ ∃ nb' g3, g2 = nI 40 :: g3 ∧ q_QD E r nb' v2 g3))
/-- what a joined level has -/
def jnV (f j : Int32) : Int32 := f ||| j
theorem g2_top {E : Int32} {r : List (Int32 × Int32 × Bool)} {v2 g2 : List Int32} (h : (r = [] ∧ v2 = [] ∧ g2 = []) ∨ (r ≠ [] ∧ ∃ nb' g3, g2 = nI 40 :: g3 ∧ q_QD E r nb' v2 g3)) : ∀ x q, g2 = x :: q → ¬ x = nI 38 ∧ ¬ x = nI 124 ∧ ¬ x = nI 33 := by
  intro x q hq
  rcases h with ⟨_, _, h⟩ | ⟨_, nb', g3, h, _⟩
  · rw [h] at hq; cases hq
  · rw [h] at hq; cases hq
    refine ⟨?_, ?_, ?_⟩ <;> decide +kernel
theorem join_t {E f j c : Int32} {v1 g1 v2 g2 : List Int32} (hL : LV E f j v1 g1) (hc : q_sb E c) (hgt : ∀ x q, g2 = x :: q → ¬ x = nI 38 ∧ ¬ x = nI 124 ∧ ¬ x = nI 33) {G V : Nat → Int32} (hg : SR G (g1 ++ g2)) (hv : SR V (c :: (v1 ++ v2))) (hgl : (g1 ++ g2).length ≤ 42) (hvl : (v1 ++ v2).length < 42) :
    ∃ V', D_Model_join true V (nI ((v1 ++ v2).length + 1)) G (nI (g1 ++ g2).length) V' (nI (v2.length + 1)) (nI g2.length) ∧ SR V' ((f ||| (j &&& c)) :: v2) := by
  have hend := fun (hg2 : SR G g2) (hl : g2.length ≤ 42) W vc => jn_end (b := true) hg2 hl (fun x r h => ⟨(hgt x r h).1, fun _ => (hgt x r h).2.1⟩) W vc
  cases hL using LV.cs with
  | n00 =>
    refine ⟨V, hend hg hgl V _, ?_⟩
    rw [or_z, sb_e hc]; exact hv
  | n01 _ hJ =>
    simp only [List.cons_append, List.nil_append, List.length_cons] at hg hv hgl hvl ⊢
    refine ⟨_, jn_and hg (by omega) (by omega) hv (hend hg.2 (by omega) _ _), ?_⟩
    rw [or_z]; exact hv.2.2.push _
  | n10 _ hF =>
    simp only [List.cons_append, List.nil_append, List.length_cons] at hg hv hgl hvl ⊢
    refine ⟨_, jn_or hg (by omega) (by omega) hv (hend hg.2 (by omega) _ _), ?_⟩
    rw [sb_e hc]; exact hv.2.2.push _
  | n11 _ _ hF hJ =>
    simp only [List.cons_append, List.nil_append, List.length_cons] at hg hv hgl hvl ⊢
    have hv2 : SR (upd V (v2.length + 1) (j &&& c)) ((j &&& c) :: f :: v2) := by
      have := (hv.2.2).push (j &&& c)
      simpa using this
    have hv3 := hv.2.2.2.push (f ||| (j &&& c))
    refine ⟨upd (upd V (v2.length + 1) (j &&& c)) v2.length (f ||| (j &&& c)), ?_, hv2.2.2.push _⟩
    have a := jn_or hg.2 (by omega) (by omega) hv2 (hend hg.2.2 (by omega) (upd (upd V (v2.length + 1) (j &&& c)) v2.length (f ||| (j &&& c))) (nI (v2.length + 1)))
    have := jn_and (vs := f :: v2) hg (by simp; omega) (by simp; omega) hv (b := true) a
    exact this
theorem join_f {E f j c : Int32} {v1 g1 v2 g2 : List Int32} (hL : LV E f j v1 g1) (hc : q_sb E c) (hgt : ∀ x q, g2 = x :: q → ¬ x = nI 38 ∧ ¬ x = nI 124 ∧ ¬ x = nI 33) {G V : Nat → Int32} (hg : SR G (g1 ++ g2)) (hv : SR V (c :: (v1 ++ v2))) (hgl : (g1 ++ g2).length ≤ 42) (hvl : (v1 ++ v2).length < 42) :
    ∃ V' v3 g3, D_Model_join false V (nI ((v1 ++ v2).length + 1)) G (nI (g1 ++ g2).length) V' (nI (v3 ++ v2).length) (nI (g3 ++ g2).length) ∧ SR V' (v3 ++ v2) ∧ SR G (g3 ++ g2) ∧ LV E f (j &&& c) v3 (nI 38 :: g3) ∧ (v3 ++ v2).length ≤ (v1 ++ v2).length + 1 ∧ (g3 ++ g2).length ≤ (g1 ++ g2).length ∧ (∀ x q, g3 ++ g2 = x :: q → ¬ x = nI 38) := by
  have n124 : ¬ nI 124 = nI 38 := by decide +kernel
  have htop : ∀ x q, nI 124 :: g2 = x :: q → ¬ x = nI 38 := fun x q h => by cases h; exact n124
  cases hL using LV.cs with
  | n00 =>
    refine ⟨V, [c], [], jn_end hg hgl (fun x r h => ⟨(hgt x r h).1, fun h => by cases h⟩) V _, hv, hg, ?_, Nat.le_refl _, Nat.le_refl _, fun x q h => (hgt x q h).1⟩
    rw [sb_e hc]; exact .n01 c hc
  | n01 _ hJ =>
    simp only [List.cons_append, List.nil_append, List.length_cons] at hg hv hgl hvl ⊢
    refine ⟨_, [j &&& c], [], jn_and hg (by omega) (by omega) hv (jn_end hg.2 (by omega) (fun x r h => ⟨(hgt x r h).1, fun h => by cases h⟩) _ _), hv.2.2.push _, hg.2, .n01 _ (sb_and hJ), by simp, by simp, fun x q h => (hgt x q h).1⟩
  | n10 _ hF =>
    refine ⟨V, [c, f], [nI 124], jn_end hg hgl (fun x r h => ⟨htop x r h, fun h => by cases h⟩) V _, hv, hg, ?_, by simp, by simp, htop⟩
    rw [sb_e hc]; exact .n11 _ _ hF hc
  | n11 _ _ hF hJ =>
    simp only [List.cons_append, List.nil_append, List.length_cons] at hg hv hgl hvl ⊢
    have hv2 : SR (upd V (v2.length + 1) (j &&& c)) ((j &&& c) :: f :: v2) := by
      have := (hv.2.2).push (j &&& c)
      simpa using this
    have := jn_and (vs := f :: v2) hg (by simp; omega) (by simp; omega) hv (b := false) (jn_end hg.2 (by simp; omega) (fun x r h => ⟨htop x r h, fun h => by cases h⟩) (upd V (v2.length + 1) (j &&& c)) (nI (v2.length + 2)))
    exact ⟨upd V (v2.length + 1) (j &&& c), [j &&& c, f], [nI 124], by simpa [D_Model_join] using this, hv2, hg.2, .n11 _ _ hF (sb_and hJ), by simp, by simp, htop⟩
theorem join_no {g : List Int32} {G : Nat → Int32} (hg : SR G g) (hl : g.length ≤ 42) (hgt : ∀ x q, g = x :: q → ¬ x = nI 38) (V : Nat → Int32) (vc : Int32) : D_Model_join false V vc G (nI g.length) V vc (nI g.length) := jn_end hg hl (fun x r h => ⟨hgt x r h, fun h => by cases h⟩) V vc
