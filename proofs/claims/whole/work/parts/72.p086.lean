/-! Pure: show, both sides at once. -/
def mayF (bf x : Nat) : Bool := if x = 32 ∨ x = 10 then decide (bf ≠ 32 ∧ bf ≠ 10) else decide (33 ≤ x ∧ x ≤ 126 ∧ x ≠ 42 ∧ x ≠ 91 ∧ x ≠ 93)
/-- a body, or the rest of one: what was before, and whether emphasis is on -/
def bOk (tn : Nat) : Nat → Bool → List Nat → Bool
  | bf, _, [] => decide (bf = 10)
  | bf, em, x :: r => if x = 1 then bOk tn 1 (!em) r else if x = 2 then (match r with
    | [] => false
    | t :: r' => decide (t < tn) && bOk tn 2 em r') else mayF bf x && !(decide (x = 10) && em) && bOk tn x em r
theorem bOk_cons (tn bf : Nat) (em : Bool) (x : Nat) (r : List Nat) : bOk tn bf em (x :: r) = if x = 1 then bOk tn 1 (!em) r else if x = 2 then (match r with
    | [] => false
    | t :: r' => decide (t < tn) && bOk tn 2 em r') else mayF bf x && !(decide (x = 10) && em) && bOk tn x em r := by
  cases r <;> rfl
theorem bok_1 {tn bf : Nat} {em : Bool} {b : List Nat} {p : Nat} (hp : p < b.length) (h : b.getD p 0 = 1) (ho : bOk tn bf em (b.drop p) = true) : bOk tn 1 (!em) (b.drop (p + 1)) = true := by
  rw [drop_s hp, h, bOk_cons, if_pos rfl] at ho
  exact ho
theorem bok_2 {tn bf : Nat} {em : Bool} {b : List Nat} {p : Nat} (hp : p < b.length) (h : b.getD p 0 = 2) (ho : bOk tn bf em (b.drop p) = true) : p + 1 < b.length ∧ b.getD (p + 1) 0 < tn ∧ bOk tn 2 em (b.drop (p + 2)) = true := by
  rw [drop_s hp, h, bOk_cons] at ho
  rcases Nat.lt_or_ge (p + 1) b.length with h1 | h1
  · rw [drop_s h1] at ho
    simp only [show ¬ (2 = 1) by omega, if_true, if_false, Bool.and_eq_true, decide_eq_true_eq] at ho
    exact ⟨h1, ho.1, ho.2⟩
  · rw [List.drop_eq_nil_of_le h1] at ho
    simp at ho
theorem bok_x {tn bf : Nat} {em : Bool} {b : List Nat} {p : Nat} (hp : p < b.length) (h1 : ¬ b.getD p 0 = 1) (h2 : ¬ b.getD p 0 = 2) (ho : bOk tn bf em (b.drop p) = true) : mayF bf (b.getD p 0) = true ∧ bOk tn (b.getD p 0) em (b.drop (p + 1)) = true := by
  rw [drop_s hp, bOk_cons, if_neg h1, if_neg h2] at ho
  simp only [Bool.and_eq_true] at ho
  exact ⟨ho.1.1, ho.2⟩
abbrev q_ShC : Type := (Nat → Int64) × (Nat → Int32) × (Nat → Int32) × Int32 × Int32 × (Nat → Int32) × (Nat → Int32) × (Nat → Int32) × Bool × Int32 × Nat × Nat
/-- both laid the same lines -/
def ShO (X : q_ShC) (p lc : Nat) (b4 : Bool) (lm : Nat) (b2 b3 : Bool) (x5 : Int32) (off0 : Nat) (SE : Nat → Int32) (SN : Int32) (SO : Bool) (PE : Nat → Int32) (PC : Int32) (PO : Bool) (A : Nat → Int32) (Ls : Int32) (Lm : Int32) (Fr Sz : Nat → Int32) (Sh : Int32) (Tx : Nat → Int32) (PL : Int32) (P : Nat → Int32) : Prop :=
  ∃ ln SE' SN' SO' PE' PC' PO' A' Ls' Lm' Fr' Sz' Sh' Tx' PL' P', (∃ m, T_Screen_lay 1024 1024 2550 X.1 X.2.1 X.2.2.1 X.2.2.2.1 X.2.2.2.2.1 SE' SN' SO' PE' PC' PO' A' Ls' (nI X.2.2.2.2.2.2.2.2.2.2.2) m lc (nI X.2.2.2.2.2.2.2.2.2.2.1) b4 (nI (off0 + p)) (nI 0) SE SN SO PE PC PO A Ls (nI X.2.2.2.2.2.2.2.2.2.2.2)) ∧ (∃ m, T_Model_show X.2.2.2.2.2.2.2.2.1 X.2.2.2.2.2.1 X.2.2.2.2.2.2.1 X.2.2.2.2.2.2.2.1 (nI X.2.2.2.2.2.2.2.2.2.2.1) Lm' X.2.2.2.2.2.2.2.2.2.1 (nI X.2.2.2.2.2.2.2.2.2.2.2) Lm' Fr' Sz' Sh' Tx' PL' P' m lm (nI 0) b2 b3 (nI p) x5 X.2.2.2.2.2.2.2.2.2.1 (nI X.2.2.2.2.2.2.2.2.2.2.2) Lm Fr Sz Sh Tx PL P) ∧ q_SC SE' SN' A' Ls' ln ∧ q_SM Lm' Fr' Sz' Sh' Tx' ln ∧ Rw 1024 PE' PC' []
def ShH (X : q_ShC) (ns bs : List (List Nat)) : Prop := CB X.2.1 X.2.2.1 X.2.2.2.1 X.2.2.2.2.1 bs ∧ MB X.2.2.2.2.2.2.1 X.2.2.2.2.2.2.2.1 bs ∧ X.2.2.2.2.2.2.2.2.2.2.1 < bs.length ∧ ns.length = bs.length ∧ 4 ≤ X.2.2.2.2.2.2.2.2.2.2.2 ∧ X.2.2.2.2.2.2.2.2.2.2.2 ≤ 40 ∧ ∀ t, t < bs.length → X.1 t = lN (enc (bd ns t)) ∧ q_Wd (bd ns t) ∧ (bd ns t).length ≤ 6 ∧ ∀ k, k < 6 → X.2.2.2.2.2.1 (6 * t + k) = nI ((bd ns t).getD k 0)
/-- how it stands where a sign of a body is read next -/
def ShS (X : q_ShC) (b : List Nat) (bf p : Nat) (b4 b2 : Bool) (SE : Nat → Int32) (SN : Int32) (A : Nat → Int32) (Ls : Int32) (pt : List Nat) (Lm : Int32) (Fr Sz : Nat → Int32) (Sh : Int32) (Tx : Nat → Int32) : Prop :=
  (bf = 10 ∧ pt = [] ∧ b4 = true ∧ b2 = true ∧ ∃ ln, q_SC SE SN A Ls ln ∧ q_SM Lm Fr Sz Sh Tx ln ∧ ln.length ≤ p ∧ ln.flatten.length ≤ 4 * p ∧ (ln ≠ [] → 0 < p ∧ b.getD (p - 1) 0 = 10)) ∨
  (¬ bf = 10 ∧ b4 = false ∧ (b2 = true → 0 < p ∧ ¬ b.getD (p - 1) 0 = 10) ∧ ∃ d c, q_SC SE SN A Ls (d ++ [c]) ∧ ((b2 = true ∧ c = [] ∧ q_SM Lm Fr Sz Sh Tx d) ∨ (b2 = false ∧ c ≠ [] ∧ q_SM Lm Fr Sz Sh Tx (d ++ [c]))) ∧ c.length ≤ X.2.2.2.2.2.2.2.2.2.2.2 ∧ d.length + (pt.length - 1) / 4 + (if c = [] then 0 else 1) ≤ p ∧ (d ++ [c]).flatten.length + pt.length ≤ 4 * p)
def ShP (X : q_ShC) (bs : List (List Nat)) (p : Nat) : Prop := ∀ bf em b4 b2 SE SN SO PE PC PO A Ls Lm Fr Sz Sh Tx PL P pt, p ≤ (bd bs X.2.2.2.2.2.2.2.2.2.2.1).length → bOk bs.length bf em ((bd bs X.2.2.2.2.2.2.2.2.2.2.1).drop p) = true → Rw 1024 PE PC pt → Rw 1200 P PL pt → ShS X (bd bs X.2.2.2.2.2.2.2.2.2.2.1) bf p b4 b2 SE SN A Ls pt Lm Fr Sz Sh Tx → ShO X p 0 b4 1 b2 (decide (0 < p)) (nI 0) (q_off bs X.2.2.2.2.2.2.2.2.2.2.1) SE SN SO PE PC PO A Ls Lm Fr Sz Sh Tx PL P
theorem sh_mid {X : q_ShC} {ns bs : List (List Nat)} (hX : ShH X ns bs) {p : Nat} (ih : ∀ p', p < p' → ShP X bs p') {bf : Nat} {em b2 : Bool} {SE : Nat → Int32} {SN : Int32} {SO : Bool} {PE : Nat → Int32} {PC : Int32} {PO : Bool} {A : Nat → Int32} {Ls Lm : Int32} {Fr Sz : Nat → Int32} {Sh : Int32} {Tx : Nat → Int32} {PL : Int32} {P : Nat → Int32} {pt : List Nat} (hp : p < (bd bs X.2.2.2.2.2.2.2.2.2.2.1).length) (ho : bOk bs.length bf em ((bd bs X.2.2.2.2.2.2.2.2.2.2.1).drop p) = true) (hP : Rw 1024 PE PC pt) (hQ : Rw 1200 P PL pt) {d : List (List Nat)} {c : List Nat}
    (hS : q_SC SE SN A Ls (d ++ [c])) (hM : (b2 = true ∧ c = [] ∧ q_SM Lm Fr Sz Sh Tx d) ∨ (b2 = false ∧ c ≠ [] ∧ q_SM Lm Fr Sz Sh Tx (d ++ [c]))) (hc : c.length ≤ X.2.2.2.2.2.2.2.2.2.2.2) (hn : (bf = 10 ∧ pt = [] ∧ c = [] ∧ d.length ≤ p + 1) ∨ (¬ bf = 10 ∧ d.length + (pt.length - 1) / 4 + (if c = [] then 0 else 1) ≤ p)) (hf : (d ++ [c]).flatten.length + pt.length ≤ 4 * p) (b3 : Bool) :
    ShO X p 1 false 2 b2 b3 (nI ((bd bs X.2.2.2.2.2.2.2.2.2.2.1).getD p 0)) (q_off bs X.2.2.2.2.2.2.2.2.2.2.1) SE SN SO PE PC PO A Ls Lm Fr Sz Sh Tx PL P := by
  obtain ⟨hB, hMB, ht, hnl, hw4, hw40, hN⟩ := hX
  have hl := hB.len ht
  have hv := hB.v ht
  have m0 := hMB.1
  obtain ⟨m1, m2, m3⟩ := hMB.2 X.2.2.2.2.2.2.2.2.2.2.1 ht
  obtain ⟨m4, m5⟩ := m3 p hp
  have hPl := hP.2.1
  have hel := cb_el hB ht hp
  by_cases h2 : (bd bs X.2.2.2.2.2.2.2.2.2.2.1).getD p 0 = 2
  · -- a link
    obtain ⟨a1, a2, a3⟩ := bok_2 hp h2 ho
    obtain ⟨m6, m7⟩ := m3 (p + 1) a1
    obtain ⟨n1, n2, n3, n4⟩ := hN _ a2
    obtain ⟨PE1, PC1, c1, c2⟩ := sc_link n2 n3 PO hP (by omega)
    obtain ⟨P1, PL1, d1, d2⟩ := mo_link n2 n3 (by omega) n4 hQ (by omega)
    have hlen : (pt ++ lkSg (bd ns ((bd bs X.2.2.2.2.2.2.2.2.2.2.1).getD (p + 1) 0))).length ≤ pt.length + 8 := by simp only [lkSg, List.length_append, List.length_cons, List.length_nil]; omega
    have hi : d.length + ((pt ++ lkSg (bd ns ((bd bs X.2.2.2.2.2.2.2.2.2.2.1).getD (p + 1) 0))).length - 1) / 4 + (if c = [] then 0 else 1) ≤ p + 2 := by
      rcases hn with ⟨_, z1, z2, h⟩ | ⟨_, h⟩
      · rw [if_pos z2]; rw [z1] at hlen ⊢; simp only [List.length_nil] at hlen; omega
      · generalize (if c = [] then 0 else 1) = z at *; omega
    obtain ⟨ln, SE', SN', SO', PE', PC', PO', A', Ls', Lm', Fr', Sz', Sh', Tx', PL', P', ⟨k1, e1⟩, ⟨k2, e2⟩, e3, e4, e5⟩ := ih (p + 2) (by omega) 2 em false b2 SE SN SO PE1 PC1 PO A Ls Lm Fr Sz Sh Tx PL1 P1 _ (by omega) a3 c2 d2 (Or.inr ⟨by omega, rfl, fun _ => ⟨by omega, by rw [show p + 2 - 1 = p + 1 by omega]; omega⟩, d, c, hS, hM, hc, hi, by omega⟩)
    refine ⟨ln, SE', SN', SO', PE', PC', PO', A', Ls', Lm', Fr', Sz', Sh', Tx', PL', P', ⟨k1 + 2, ?_⟩, ⟨k2 + 3, ?_⟩, e3, e4, e5⟩
    · have hel2 := cb_el hB ht a1
      rw [← Nat.add_assoc] at hel2
      simp only [T_Screen_lay, S_Screen_lay, B_Screen_lay_55, B_Screen_lay_80]
      refine ⟨_, hel, ?_⟩
      simp (disch := omega) only [h2, q_lit, le_T, le_F, lt_T, lt_F, eq_T, eq_F, m1_lt, m1_le, lt_m1, le_m1, eq_m1, m1_eq, nI_add, nI_sub, nI_dec, nI_mul, nI_or, nI_and, nI_div, nI_mod, and_255, and_31, and_1, and_63, nI_shl, nI_shr, bI_F, bI_1, vp_T, cl_T, true_implies, false_implies, not_true_eq_false, not_false_eq_true, true_and, and_true, false_and, and_false, Bool.false_eq_true, Bool.true_eq_false, reduceCtorEq, implies_true]
      refine ⟨_, hel2, lN (enc (bd ns ((bd bs X.2.2.2.2.2.2.2.2.2.2.1).getD (p + 1) 0))), ?_, PE1, PC1, PO, c1, ?_⟩
      · refine ⟨_, cb_has hB.1 hB.2.1 (by omega), ?_⟩
        rw [decide_eq_true a2]
        simp (disch := omega) only [n1, q_lit, le_T, le_F, lt_T, lt_F, eq_T, eq_F, m1_lt, m1_le, lt_m1, le_m1, eq_m1, m1_eq, nI_add, nI_sub, nI_dec, nI_mul, nI_or, nI_and, nI_div, nI_mod, and_255, and_31, and_1, and_63, nI_shl, nI_shr, bI_F, bI_1, vp_T, cl_T, true_implies, false_implies, not_true_eq_false, not_false_eq_true, true_and, and_true, false_and, and_false, Bool.false_eq_true, Bool.true_eq_false, reduceCtorEq, implies_true]
      · exact e1
    · simp (disch := omega) only [T_Model_show, S_Model_show, B_Model_show_149, B_Model_show_209, B_Model_show_237, h2, m6, q_lit, le_T, le_F, lt_T, lt_F, eq_T, eq_F, m1_lt, m1_le, lt_m1, le_m1, eq_m1, m1_eq, nI_add, nI_sub, nI_dec, nI_mul, nI_or, nI_and, nI_div, nI_mod, and_255, and_31, and_1, and_63, nI_shl, nI_shr, bI_F, bI_1, vp_T, cl_T, true_implies, false_implies, not_true_eq_false, not_false_eq_true, true_and, and_true, false_and, and_false, Bool.false_eq_true, Bool.true_eq_false, reduceCtorEq, implies_true, q_lc_eq, q_lc_ge, q_lc_gt, q_lc_le, lN_or, lN_and, lN_shl, lN_shr, nI_L, lN_I, l_0]
      refine ⟨_, _, d1, ?_⟩
      rw [decide_eq_true (by omega)] at e2
      exact e2
  · by_cases h1 : (bd bs X.2.2.2.2.2.2.2.2.2.2.1).getD p 0 = 1
    · have a3 := bok_1 hp h1 ho
      have hi : d.length + (pt.length - 1) / 4 + (if c = [] then 0 else 1) ≤ p + 1 := by
        rcases hn with ⟨_, z1, z2, h⟩ | ⟨_, h⟩
        · rw [if_pos z2, z1]; simp only [List.length_nil]; omega
        · generalize (if c = [] then 0 else 1) = z at *; omega
      obtain ⟨ln, SE', SN', SO', PE', PC', PO', A', Ls', Lm', Fr', Sz', Sh', Tx', PL', P', ⟨k1, e1⟩, ⟨k2, e2⟩, e3, e4, e5⟩ := ih (p + 1) (by omega) 1 (!em) false b2 SE SN SO PE PC PO A Ls Lm Fr Sz Sh Tx PL P pt (by omega) a3 hP hQ (Or.inr ⟨by omega, rfl, fun _ => ⟨by omega, by rw [Nat.add_sub_cancel]; omega⟩, d, c, hS, hM, hc, hi, by omega⟩)
      refine ⟨ln, SE', SN', SO', PE', PC', PO', A', Ls', Lm', Fr', Sz', Sh', Tx', PL', P', ⟨k1 + 2, ?_⟩, ⟨k2 + 3, ?_⟩, e3, e4, e5⟩
      · simp only [T_Screen_lay, S_Screen_lay, B_Screen_lay_55, B_Screen_lay_80]
        refine ⟨_, hel, ?_⟩
        simp (disch := omega) only [h1, q_lit, le_T, le_F, lt_T, lt_F, eq_T, eq_F, m1_lt, m1_le, lt_m1, le_m1, eq_m1, m1_eq, nI_add, nI_sub, nI_dec, nI_mul, nI_or, nI_and, nI_div, nI_mod, and_255, and_31, and_1, and_63, nI_shl, nI_shr, bI_F, bI_1, vp_T, cl_T, true_implies, false_implies, not_true_eq_false, not_false_eq_true, true_and, and_true, false_and, and_false, Bool.false_eq_true, Bool.true_eq_false, reduceCtorEq, implies_true]
        exact e1
      · simp (disch := omega) only [T_Model_show, S_Model_show, B_Model_show_149, B_Model_show_209, B_Model_show_237, h1, q_lit, le_T, le_F, lt_T, lt_F, eq_T, eq_F, m1_lt, m1_le, lt_m1, le_m1, eq_m1, m1_eq, nI_add, nI_sub, nI_dec, nI_mul, nI_or, nI_and, nI_div, nI_mod, and_255, and_31, and_1, and_63, nI_shl, nI_shr, bI_F, bI_1, vp_T, cl_T, true_implies, false_implies, not_true_eq_false, not_false_eq_true, true_and, and_true, false_and, and_false, Bool.false_eq_true, Bool.true_eq_false, reduceCtorEq, implies_true, q_lc_eq, q_lc_ge, q_lc_gt, q_lc_le, lN_or, lN_and, lN_shl, lN_shr, nI_L, lN_I, l_0]
        rw [decide_eq_true (by omega)] at e2
        exact e2
    · obtain ⟨hmay, a3⟩ := bok_x hp h1 h2 ho
      by_cases h32 : (bd bs X.2.2.2.2.2.2.2.2.2.2.1).getD p 0 = 32 ∨ (bd bs X.2.2.2.2.2.2.2.2.2.2.1).getD p 0 = 10
      · -- the part ends
        have hbf : ¬ bf = 10 := by
          unfold mayF at hmay
          rw [if_pos h32, decide_eq_true_eq] at hmay
          exact hmay.2
        have hi : d.length + (pt.length - 1) / 4 + (if c = [] then 0 else 1) ≤ p := by
          rcases hn with ⟨h, _⟩ | ⟨_, h⟩
          · exact absurd h hbf
          · exact h
        -- what both have behind the part
        have key : ∃ ln SE' SN' SO' PE' PC' PO' A' Ls' Lm' Fr' Sz' Sh' Tx' PL' P', (∃ m, T_Screen_lay 1024 1024 2550 X.1 X.2.1 X.2.2.1 X.2.2.2.1 X.2.2.2.2.1 SE' SN' SO' PE' PC' PO' A' Ls' (nI X.2.2.2.2.2.2.2.2.2.2.2) m 3 (nI X.2.2.2.2.2.2.2.2.2.2.1) (decide ((bd bs X.2.2.2.2.2.2.2.2.2.2.1).getD p 0 = 10)) (nI (q_off bs X.2.2.2.2.2.2.2.2.2.2.1 + p)) (nI 0) SE SN SO PE PC PO A Ls (nI X.2.2.2.2.2.2.2.2.2.2.2)) ∧ (∃ m, T_Model_show X.2.2.2.2.2.2.2.2.1 X.2.2.2.2.2.1 X.2.2.2.2.2.2.1 X.2.2.2.2.2.2.2.1 (nI X.2.2.2.2.2.2.2.2.2.2.1) Lm' X.2.2.2.2.2.2.2.2.2.1 (nI X.2.2.2.2.2.2.2.2.2.2.2) Lm' Fr' Sz' Sh' Tx' PL' P' m 4 (nI 0) b2 true (nI p) (nI ((bd bs X.2.2.2.2.2.2.2.2.2.2.1).getD p 0)) X.2.2.2.2.2.2.2.2.2.1 (nI X.2.2.2.2.2.2.2.2.2.2.2) Lm Fr Sz Sh Tx PL P) ∧ q_SC SE' SN' A' Ls' ln ∧ q_SM Lm' Fr' Sz' Sh' Tx' ln ∧ Rw 1024 PE' PC' [] := by
          by_cases hpt : pt = []
          · -- nothing to lay
            have hPC : PC = nI 0 := by rw [hP.1, hpt]; rfl
            have hPL : PL = nI 0 := by rw [hQ.1, hpt]; rfl
            subst hPC
            subst hPL
            subst hpt
            simp only [List.length_nil] at hi hf
            have hlay : D_Screen_layPart 1024 1024 SE SN SO PE (nI 0) PO A Ls (nI X.2.2.2.2.2.2.2.2.2.2.2) SE SN SO (nI 0) PO A Ls := by
              refine ⟨0, ?_⟩
              simp (disch := omega) only [q_lit, le_T, le_F, lt_T, lt_F, eq_T, eq_F, m1_lt, m1_le, lt_m1, le_m1, eq_m1, m1_eq, nI_add, nI_sub, nI_dec, nI_mul, nI_or, nI_and, nI_div, nI_mod, and_255, and_31, and_1, and_63, nI_shl, nI_shr, bI_F, bI_1, vp_T, cl_T, true_implies, false_implies, not_true_eq_false, not_false_eq_true, true_and, and_true, false_and, and_false, Bool.false_eq_true, Bool.true_eq_false, reduceCtorEq, implies_true]
            rcases h32 with h32 | h32
            · obtain ⟨ln, SE', SN', SO', PE', PC', PO', A', Ls', Lm', Fr', Sz', Sh', Tx', PL', P', ⟨k1, e1⟩, ⟨k2, e2⟩, e3, e4, e5⟩ := ih (p + 1) (by omega) _ em false b2 SE SN SO PE (nI 0) PO A Ls Lm Fr Sz Sh Tx (nI 0) P [] (by omega) a3 hP hQ (Or.inr ⟨by omega, rfl, fun _ => ⟨by omega, by rw [Nat.add_sub_cancel]; omega⟩, d, c, hS, hM, hc, by simp only [List.length_nil]; generalize (if c = [] then 0 else 1) = z at *; omega, by simp only [List.length_nil]; omega⟩)
              refine ⟨ln, SE', SN', SO', PE', PC', PO', A', Ls', Lm', Fr', Sz', Sh', Tx', PL', P', ⟨k1 + 1, ?_⟩, ⟨k2 + 2, ?_⟩, e3, e4, e5⟩
              · rw [decide_eq_false (by omega)]
                simp (disch := omega) only [T_Screen_lay, S_Screen_lay, B_Screen_lay_123, q_lit, le_T, le_F, lt_T, lt_F, eq_T, eq_F, m1_lt, m1_le, lt_m1, le_m1, eq_m1, m1_eq, nI_add, nI_sub, nI_dec, nI_mul, nI_or, nI_and, nI_div, nI_mod, and_255, and_31, and_1, and_63, nI_shl, nI_shr, bI_F, bI_1, vp_T, cl_T, true_implies, false_implies, not_true_eq_false, not_false_eq_true, true_and, and_true, false_and, and_false, Bool.false_eq_true, Bool.true_eq_false, reduceCtorEq, implies_true, q_lc_eq, q_lc_ge, q_lc_gt, q_lc_le, lN_or, lN_and, lN_shl, lN_shr, nI_L, lN_I, l_0]
                exact ⟨_, _, _, _, _, _, _, hlay, e1⟩
              · rw [decide_eq_true (by omega)] at e2
                rw [h32]
                simp (disch := omega) only [T_Model_show, S_Model_show, B_Model_show_223, B_Model_show_237, q_lit, le_T, le_F, lt_T, lt_F, eq_T, eq_F, m1_lt, m1_le, lt_m1, le_m1, eq_m1, m1_eq, nI_add, nI_sub, nI_dec, nI_mul, nI_or, nI_and, nI_div, nI_mod, and_255, and_31, and_1, and_63, nI_shl, nI_shr, bI_F, bI_1, vp_T, cl_T, true_implies, false_implies, not_true_eq_false, not_false_eq_true, true_and, and_true, false_and, and_false, Bool.false_eq_true, Bool.true_eq_false, reduceCtorEq, implies_true, q_lc_eq, q_lc_ge, q_lc_gt, q_lc_le, lN_or, lN_and, lN_shl, lN_shr, nI_L, lN_I, l_0]
                exact e2
            · rcases hM with ⟨rfl, rfl, hM⟩ | ⟨rfl, hcc, hM⟩
              · simp only [if_true] at hi
                obtain ⟨Fr1, Sz1, f1, f2⟩ := sm_line hM (by omega)
                obtain ⟨ln, SE', SN', SO', PE', PC', PO', A', Ls', Lm', Fr', Sz', Sh', Tx', PL', P', ⟨k1, e1⟩, ⟨k2, e2⟩, e3, e4, e5⟩ := ih (p + 1) (by omega) _ em true true SE SN SO PE (nI 0) PO A Ls _ _ _ Sh Tx (nI 0) P [] (by omega) a3 hP hQ (Or.inl ⟨h32, rfl, rfl, rfl, d ++ [[]], hS, f2, by simp; omega, by omega, fun _ => ⟨by omega, by rw [Nat.add_sub_cancel]; exact h32⟩⟩)
                refine ⟨ln, SE', SN', SO', PE', PC', PO', A', Ls', Lm', Fr', Sz', Sh', Tx', PL', P', ⟨k1 + 1, ?_⟩, ⟨k2 + 3, ?_⟩, e3, e4, e5⟩
                · rw [decide_eq_true h32]
                  simp (disch := omega) only [T_Screen_lay, S_Screen_lay, B_Screen_lay_123, q_lit, le_T, le_F, lt_T, lt_F, eq_T, eq_F, m1_lt, m1_le, lt_m1, le_m1, eq_m1, m1_eq, nI_add, nI_sub, nI_dec, nI_mul, nI_or, nI_and, nI_div, nI_mod, and_255, and_31, and_1, and_63, nI_shl, nI_shr, bI_F, bI_1, vp_T, cl_T, true_implies, false_implies, not_true_eq_false, not_false_eq_true, true_and, and_true, false_and, and_false, Bool.false_eq_true, Bool.true_eq_false, reduceCtorEq, implies_true, q_lc_eq, q_lc_ge, q_lc_gt, q_lc_le, lN_or, lN_and, lN_shl, lN_shr, nI_L, lN_I, l_0]
                  exact ⟨_, _, _, _, _, _, _, hlay, e1⟩
                · rw [decide_eq_true (by omega)] at e2
                  rw [h32]
                  simp (disch := omega) only [T_Model_show, S_Model_show, B_Model_show_223, B_Model_show_237, B_Model_show_252, q_lit, le_T, le_F, lt_T, lt_F, eq_T, eq_F, m1_lt, m1_le, lt_m1, le_m1, eq_m1, m1_eq, nI_add, nI_sub, nI_dec, nI_mul, nI_or, nI_and, nI_div, nI_mod, and_255, and_31, and_1, and_63, nI_shl, nI_shr, bI_F, bI_1, vp_T, cl_T, true_implies, false_implies, not_true_eq_false, not_false_eq_true, true_and, and_true, false_and, and_false, Bool.false_eq_true, Bool.true_eq_false, reduceCtorEq, implies_true, q_lc_eq, q_lc_ge, q_lc_gt, q_lc_le, lN_or, lN_and, lN_shl, lN_shr, nI_L, lN_I, l_0]
                  exact ⟨_, _, _, f1, e2⟩
              · rw [if_neg hcc] at hi
                obtain ⟨ln, SE', SN', SO', PE', PC', PO', A', Ls', Lm', Fr', Sz', Sh', Tx', PL', P', ⟨k1, e1⟩, ⟨k2, e2⟩, e3, e4, e5⟩ := ih (p + 1) (by omega) _ em true true SE SN SO PE (nI 0) PO A Ls _ _ _ Sh Tx (nI 0) P [] (by omega) a3 hP hQ (Or.inl ⟨h32, rfl, rfl, rfl, d ++ [c], hS, hM, by simp; omega, by omega, fun _ => ⟨by omega, by rw [Nat.add_sub_cancel]; exact h32⟩⟩)
                refine ⟨ln, SE', SN', SO', PE', PC', PO', A', Ls', Lm', Fr', Sz', Sh', Tx', PL', P', ⟨k1 + 1, ?_⟩, ⟨k2 + 3, ?_⟩, e3, e4, e5⟩
                · rw [decide_eq_true h32]
                  simp (disch := omega) only [T_Screen_lay, S_Screen_lay, B_Screen_lay_123, q_lit, le_T, le_F, lt_T, lt_F, eq_T, eq_F, m1_lt, m1_le, lt_m1, le_m1, eq_m1, m1_eq, nI_add, nI_sub, nI_dec, nI_mul, nI_or, nI_and, nI_div, nI_mod, and_255, and_31, and_1, and_63, nI_shl, nI_shr, bI_F, bI_1, vp_T, cl_T, true_implies, false_implies, not_true_eq_false, not_false_eq_true, true_and, and_true, false_and, and_false, Bool.false_eq_true, Bool.true_eq_false, reduceCtorEq, implies_true, q_lc_eq, q_lc_ge, q_lc_gt, q_lc_le, lN_or, lN_and, lN_shl, lN_shr, nI_L, lN_I, l_0]
                  exact ⟨_, _, _, _, _, _, _, hlay, e1⟩
                · rw [decide_eq_true (by omega)] at e2
                  rw [h32]
                  simp (disch := omega) only [T_Model_show, S_Model_show, B_Model_show_223, B_Model_show_237, B_Model_show_252, q_lit, le_T, le_F, lt_T, lt_F, eq_T, eq_F, m1_lt, m1_le, lt_m1, le_m1, eq_m1, m1_eq, nI_add, nI_sub, nI_dec, nI_mul, nI_or, nI_and, nI_div, nI_mod, and_255, and_31, and_1, and_63, nI_shl, nI_shr, bI_F, bI_1, vp_T, cl_T, true_implies, false_implies, not_true_eq_false, not_false_eq_true, true_and, and_true, false_and, and_false, Bool.false_eq_true, Bool.true_eq_false, reduceCtorEq, implies_true, q_lc_eq, q_lc_ge, q_lc_gt, q_lc_le, lN_or, lN_and, lN_shl, lN_shr, nI_L, lN_I, l_0]
                  exact e2
          · have hlenP := layP_len hw4 d c pt hpt hc
            have hflat := layP_flat X.2.2.2.2.2.2.2.2.2.2.2 d c pt
            have hpos : 0 < pt.length := List.length_pos_iff.mpr hpt
            obtain ⟨SE1, SN1, A1, Ls1, g1, g2⟩ := sc_layP hP hpt hw4 hw40 PO SO hS hc (by omega) (by generalize (if c = [] then 0 else 1) = z at *; omega)
            obtain ⟨Lm1, Fr1, Sz1, Sh1, Tx1, q1, q2⟩ := mo_putP hQ hpt hw4 hw40 hM hc (by omega) (by generalize (if c = [] then 0 else 1) = z at *; omega)
            have hPL := hQ.1
            have hQl := hQ.2.1
            have hd' : (layP X.2.2.2.2.2.2.2.2.2.2.2 d c pt).1.length ≤ p := by generalize (if c = [] then 0 else 1) = z at *; omega
            have hce : ¬ (layP X.2.2.2.2.2.2.2.2.2.2.2 d c pt).2 = [] := fun h => by rw [h] at hlenP; simp at hlenP
            have hP0 : Rw 1024 PE (nI 0) [] := rw_nil (by omega) PE
            have hQ0 : Rw 1200 P (nI 0) [] := rw_nil (by omega) P
            subst hPL
            rcases h32 with h32 | h32
            · obtain ⟨ln, SE', SN', SO', PE', PC', PO', A', Ls', Lm', Fr', Sz', Sh', Tx', PL', P', ⟨k1, e1⟩, ⟨k2, e2⟩, e3, e4, e5⟩ := ih (p + 1) (by omega) _ em false false SE1 SN1 SO PE (nI 0) false A1 Ls1 Lm1 Fr1 Sz1 Sh1 Tx1 (nI 0) P [] (by omega) a3 hP0 hQ0 (Or.inr ⟨by omega, rfl, (fun h => by cases h), _, _, g2, Or.inr ⟨rfl, hce, q2⟩, hlenP.2.2, by rw [if_neg hce]; simp only [List.length_nil]; omega, by simp only [List.length_nil]; omega⟩)
              refine ⟨ln, SE', SN', SO', PE', PC', PO', A', Ls', Lm', Fr', Sz', Sh', Tx', PL', P', ⟨k1 + 1, ?_⟩, ⟨k2 + 2, ?_⟩, e3, e4, e5⟩
              · rw [decide_eq_false (by omega)]
                simp (disch := omega) only [T_Screen_lay, S_Screen_lay, B_Screen_lay_123, q_lit, le_T, le_F, lt_T, lt_F, eq_T, eq_F, m1_lt, m1_le, lt_m1, le_m1, eq_m1, m1_eq, nI_add, nI_sub, nI_dec, nI_mul, nI_or, nI_and, nI_div, nI_mod, and_255, and_31, and_1, and_63, nI_shl, nI_shr, bI_F, bI_1, vp_T, cl_T, true_implies, false_implies, not_true_eq_false, not_false_eq_true, true_and, and_true, false_and, and_false, Bool.false_eq_true, Bool.true_eq_false, reduceCtorEq, implies_true, q_lc_eq, q_lc_ge, q_lc_gt, q_lc_le, lN_or, lN_and, lN_shl, lN_shr, nI_L, lN_I, l_0]
                exact ⟨_, _, _, _, _, _, _, g1, e1⟩
              · rw [decide_eq_true (by omega)] at e2
                rw [h32]
                simp (disch := omega) only [T_Model_show, S_Model_show, B_Model_show_223, B_Model_show_237, q_lit, le_T, le_F, lt_T, lt_F, eq_T, eq_F, m1_lt, m1_le, lt_m1, le_m1, eq_m1, m1_eq, nI_add, nI_sub, nI_dec, nI_mul, nI_or, nI_and, nI_div, nI_mod, and_255, and_31, and_1, and_63, nI_shl, nI_shr, bI_F, bI_1, vp_T, cl_T, true_implies, false_implies, not_true_eq_false, not_false_eq_true, true_and, and_true, false_and, and_false, Bool.false_eq_true, Bool.true_eq_false, reduceCtorEq, implies_true, q_lc_eq, q_lc_ge, q_lc_gt, q_lc_le, lN_or, lN_and, lN_shl, lN_shr, nI_L, lN_I, l_0]
                exact ⟨_, _, _, _, _, _, q1, e2⟩
            · obtain ⟨ln, SE', SN', SO', PE', PC', PO', A', Ls', Lm', Fr', Sz', Sh', Tx', PL', P', ⟨k1, e1⟩, ⟨k2, e2⟩, e3, e4, e5⟩ := ih (p + 1) (by omega) _ em true true SE1 SN1 SO PE (nI 0) false A1 Ls1 Lm1 Fr1 Sz1 Sh1 Tx1 (nI 0) P [] (by omega) a3 hP0 hQ0 (Or.inl ⟨h32, rfl, rfl, rfl, _, g2, q2, by simp; omega, by omega, fun _ => ⟨by omega, by rw [Nat.add_sub_cancel]; exact h32⟩⟩)
              refine ⟨ln, SE', SN', SO', PE', PC', PO', A', Ls', Lm', Fr', Sz', Sh', Tx', PL', P', ⟨k1 + 1, ?_⟩, ⟨k2 + 3, ?_⟩, e3, e4, e5⟩
              · rw [decide_eq_true h32]
                simp (disch := omega) only [T_Screen_lay, S_Screen_lay, B_Screen_lay_123, q_lit, le_T, le_F, lt_T, lt_F, eq_T, eq_F, m1_lt, m1_le, lt_m1, le_m1, eq_m1, m1_eq, nI_add, nI_sub, nI_dec, nI_mul, nI_or, nI_and, nI_div, nI_mod, and_255, and_31, and_1, and_63, nI_shl, nI_shr, bI_F, bI_1, vp_T, cl_T, true_implies, false_implies, not_true_eq_false, not_false_eq_true, true_and, and_true, false_and, and_false, Bool.false_eq_true, Bool.true_eq_false, reduceCtorEq, implies_true, q_lc_eq, q_lc_ge, q_lc_gt, q_lc_le, lN_or, lN_and, lN_shl, lN_shr, nI_L, lN_I, l_0]
                exact ⟨_, _, _, _, _, _, _, g1, e1⟩
              · rw [decide_eq_true (by omega)] at e2
                rw [h32]
                simp (disch := omega) only [T_Model_show, S_Model_show, B_Model_show_223, B_Model_show_237, B_Model_show_252, q_lit, le_T, le_F, lt_T, lt_F, eq_T, eq_F, m1_lt, m1_le, lt_m1, le_m1, eq_m1, m1_eq, nI_add, nI_sub, nI_dec, nI_mul, nI_or, nI_and, nI_div, nI_mod, and_255, and_31, and_1, and_63, nI_shl, nI_shr, bI_F, bI_1, vp_T, cl_T, true_implies, false_implies, not_true_eq_false, not_false_eq_true, true_and, and_true, false_and, and_false, Bool.false_eq_true, Bool.true_eq_false, reduceCtorEq, implies_true, q_lc_eq, q_lc_ge, q_lc_gt, q_lc_le, lN_or, lN_and, lN_shl, lN_shr, nI_L, lN_I, l_0]
                exact ⟨_, _, _, _, _, _, q1, e2⟩
        obtain ⟨ln, SE', SN', SO', PE', PC', PO', A', Ls', Lm', Fr', Sz', Sh', Tx', PL', P', ⟨k1, e1⟩, ⟨k2, e2⟩, e3, e4, e5⟩ := key
        refine ⟨ln, SE', SN', SO', PE', PC', PO', A', Ls', Lm', Fr', Sz', Sh', Tx', PL', P', ⟨k1 + 2, ?_⟩, ⟨k2 + 2, ?_⟩, e3, e4, e5⟩
        · simp only [T_Screen_lay, S_Screen_lay, B_Screen_lay_55, B_Screen_lay_80]
          refine ⟨_, hel, ?_⟩
          rcases h32 with h32 | h32
          · rw [decide_eq_false (by omega)] at e1
            simp (disch := omega) only [h32, q_lit, le_T, le_F, lt_T, lt_F, eq_T, eq_F, m1_lt, m1_le, lt_m1, le_m1, eq_m1, m1_eq, nI_add, nI_sub, nI_dec, nI_mul, nI_or, nI_and, nI_div, nI_mod, and_255, and_31, and_1, and_63, nI_shl, nI_shr, bI_F, bI_1, vp_T, cl_T, true_implies, false_implies, not_true_eq_false, not_false_eq_true, true_and, and_true, false_and, and_false, Bool.false_eq_true, Bool.true_eq_false, reduceCtorEq, implies_true]
            exact e1
          · rw [decide_eq_true h32] at e1
            simp (disch := omega) only [h32, q_lit, le_T, le_F, lt_T, lt_F, eq_T, eq_F, m1_lt, m1_le, lt_m1, le_m1, eq_m1, m1_eq, nI_add, nI_sub, nI_dec, nI_mul, nI_or, nI_and, nI_div, nI_mod, and_255, and_31, and_1, and_63, nI_shl, nI_shr, bI_F, bI_1, vp_T, cl_T, true_implies, false_implies, not_true_eq_false, not_false_eq_true, true_and, and_true, false_and, and_false, Bool.false_eq_true, Bool.true_eq_false, reduceCtorEq, implies_true]
            exact e1
        · rcases h32 with h32 | h32
          · rw [h32] at e2
            simp (disch := omega) only [T_Model_show, S_Model_show, B_Model_show_149, B_Model_show_209, h32, q_lit, le_T, le_F, lt_T, lt_F, eq_T, eq_F, m1_lt, m1_le, lt_m1, le_m1, eq_m1, m1_eq, nI_add, nI_sub, nI_dec, nI_mul, nI_or, nI_and, nI_div, nI_mod, and_255, and_31, and_1, and_63, nI_shl, nI_shr, bI_F, bI_1, vp_T, cl_T, true_implies, false_implies, not_true_eq_false, not_false_eq_true, true_and, and_true, false_and, and_false, Bool.false_eq_true, Bool.true_eq_false, reduceCtorEq, implies_true, q_lc_eq, q_lc_ge, q_lc_gt, q_lc_le, lN_or, lN_and, lN_shl, lN_shr, nI_L, lN_I, l_0]
            exact e2
          · rw [h32] at e2
            simp (disch := omega) only [T_Model_show, S_Model_show, B_Model_show_149, B_Model_show_209, h32, q_lit, le_T, le_F, lt_T, lt_F, eq_T, eq_F, m1_lt, m1_le, lt_m1, le_m1, eq_m1, m1_eq, nI_add, nI_sub, nI_dec, nI_mul, nI_or, nI_and, nI_div, nI_mod, and_255, and_31, and_1, and_63, nI_shl, nI_shr, bI_F, bI_1, vp_T, cl_T, true_implies, false_implies, not_true_eq_false, not_false_eq_true, true_and, and_true, false_and, and_false, Bool.false_eq_true, Bool.true_eq_false, reduceCtorEq, implies_true, q_lc_eq, q_lc_ge, q_lc_gt, q_lc_le, lN_or, lN_and, lN_shl, lN_shr, nI_L, lN_I, l_0]
            exact e2
      · -- a sign
        have h32a : ¬ (bd bs X.2.2.2.2.2.2.2.2.2.2.1).getD p 0 = 32 := fun h => h32 (Or.inl h)
        have h10a : ¬ (bd bs X.2.2.2.2.2.2.2.2.2.2.1).getD p 0 = 10 := fun h => h32 (Or.inr h)
        have hv' := hv p
        have c2 := rw_app hP (by omega) ((bd bs X.2.2.2.2.2.2.2.2.2.2.1).getD p 0)
        have d2 := rw_app hQ (by omega) ((bd bs X.2.2.2.2.2.2.2.2.2.2.1).getD p 0)
        have hi : d.length + ((pt ++ [(bd bs X.2.2.2.2.2.2.2.2.2.2.1).getD p 0]).length - 1) / 4 + (if c = [] then 0 else 1) ≤ p + 1 := by
          simp only [List.length_append, List.length_cons, List.length_nil]
          rcases hn with ⟨_, z1, z2, h⟩ | ⟨_, h⟩
          · rw [if_pos z2, z1]; simp only [List.length_nil]; omega
          · generalize (if c = [] then 0 else 1) = z at *; omega
        obtain ⟨ln, SE', SN', SO', PE', PC', PO', A', Ls', Lm', Fr', Sz', Sh', Tx', PL', P', ⟨k1, e1⟩, ⟨k2, e2⟩, e3, e4, e5⟩ := ih (p + 1) (by omega) _ em false b2 SE SN SO _ _ PO A Ls Lm Fr Sz Sh Tx _ _ _ (by omega) a3 c2 d2 (Or.inr ⟨h10a, rfl, fun _ => ⟨by omega, by rw [Nat.add_sub_cancel]; exact h10a⟩, d, c, hS, hM, hc, hi, by simp only [List.length_append, List.length_cons, List.length_nil] at hf ⊢; omega⟩)
        refine ⟨ln, SE', SN', SO', PE', PC', PO', A', Ls', Lm', Fr', Sz', Sh', Tx', PL', P', ⟨k1 + 2, ?_⟩, ⟨k2 + 3, ?_⟩, e3, e4, e5⟩
        · simp only [T_Screen_lay, S_Screen_lay, B_Screen_lay_55, B_Screen_lay_80]
          refine ⟨_, hel, ?_⟩
          simp (disch := omega) only [q_lit, le_T, le_F, lt_T, lt_F, eq_T, eq_F, m1_lt, m1_le, lt_m1, le_m1, eq_m1, m1_eq, nI_add, nI_sub, nI_dec, nI_mul, nI_or, nI_and, nI_div, nI_mod, and_255, and_31, and_1, and_63, nI_shl, nI_shr, bI_F, bI_1, vp_T, cl_T, true_implies, false_implies, not_true_eq_false, not_false_eq_true, true_and, and_true, false_and, and_false, Bool.false_eq_true, Bool.true_eq_false, reduceCtorEq, implies_true]
          exact ⟨_, _, _, row_app hP (by omega) _ PO, e1⟩
        · rw [decide_eq_true (by omega)] at e2
          simp (disch := omega) only [T_Model_show, S_Model_show, B_Model_show_149, B_Model_show_209, B_Model_show_237, q_lit, le_T, le_F, lt_T, lt_F, eq_T, eq_F, m1_lt, m1_le, lt_m1, le_m1, eq_m1, m1_eq, nI_add, nI_sub, nI_dec, nI_mul, nI_or, nI_and, nI_div, nI_mod, and_255, and_31, and_1, and_63, nI_shl, nI_shr, bI_F, bI_1, vp_T, cl_T, true_implies, false_implies, not_true_eq_false, not_false_eq_true, true_and, and_true, false_and, and_false, Bool.false_eq_true, Bool.true_eq_false, reduceCtorEq, implies_true, q_lc_eq, q_lc_ge, q_lc_gt, q_lc_le, lN_or, lN_and, lN_shl, lN_shr, nI_L, lN_I, l_0]
          exact ⟨_, _, mo_part hQ (by omega) _, e2⟩
theorem sh_all {X : q_ShC} {ns bs : List (List Nat)} (hX : ShH X ns bs) (p : Nat) : ShP X bs p := by
  intro bf em b4 b2 SE SN SO PE PC PO A Ls Lm Fr Sz Sh Tx PL P pt hpl ho hP hQ hS
  have hX' := hX
  obtain ⟨hB, hMB, ht, hnl, hw4, hw40, hN⟩ := hX
  have hl := hB.len ht
  have m0 := hMB.1
  obtain ⟨m1, m2, m3⟩ := hMB.2 X.2.2.2.2.2.2.2.2.2.2.1 ht
  by_cases hp : p < (bd bs X.2.2.2.2.2.2.2.2.2.2.1).length
  · have ih : ∀ p', p < p' → ShP X bs p' := fun p' h => by
      rcases Nat.lt_or_ge (bd bs X.2.2.2.2.2.2.2.2.2.2.1).length p' with h9 | h9
      · intro _ _ _ _ _ _ _ _ _ _ _ _ _ _ _ _ _ _ _ _ h8; omega
      · exact sh_all hX' p'
    obtain ⟨m4, m5⟩ := m3 p hp
    rcases hS with ⟨rfl, rfl, rfl, rfl, ln, s1, s2, s3, s4, s5⟩ | ⟨hbf, rfl, hb, d, c, s1, s2, s3, s4, s5⟩
    · -- a paragraph begins
      by_cases hln : ln = []
      · subst hln
        have hl1 := sc_line s1 (by simp)
        obtain ⟨ln', SE', SN', SO', PE', PC', PO', A', Ls', Lm', Fr', Sz', Sh', Tx', PL', P', ⟨k1, e1⟩, ⟨k2, e2⟩, e3, e4, e5⟩ := sh_mid hX' ih hp ho hP hQ (d := []) (c := []) (SO := SO) (PO := PO) hl1.2 (Or.inl ⟨rfl, rfl, s2⟩) (by simp) (Or.inl ⟨rfl, rfl, rfl, by simp⟩) (by simp) false
        have hLs := s1.2.1
        have hLm := s2.2.1
        simp only [List.length_nil] at hLs hLm
        subst hLs
        subst hLm
        refine ⟨ln', SE', SN', SO', PE', PC', PO', A', Ls', Lm', Fr', Sz', Sh', Tx', PL', P', ⟨k1 + 1, ?_⟩, ⟨k2 + 1, ?_⟩, e3, e4, e5⟩
        · simp only [T_Screen_lay, S_Screen_lay, B_Screen_lay_36]
          refine ⟨_, cb_end hB ht, ?_⟩
          simp (disch := omega) only [q_lit, le_T, le_F, lt_T, lt_F, eq_T, eq_F, m1_lt, m1_le, lt_m1, le_m1, eq_m1, m1_eq, nI_add, nI_sub, nI_dec, nI_mul, nI_or, nI_and, nI_div, nI_mod, and_255, and_31, and_1, and_63, nI_shl, nI_shr, bI_F, bI_1, vp_T, cl_T, true_implies, false_implies, not_true_eq_false, not_false_eq_true, true_and, and_true, false_and, and_false, Bool.false_eq_true, Bool.true_eq_false, reduceCtorEq, implies_true]
          refine ⟨_, _, ⟨1, ?_⟩, e1⟩
          simp (disch := omega) only [T_Screen_beginParagraph, S_Screen_beginParagraph, B_Screen_beginParagraph_11, q_lit, le_T, le_F, lt_T, lt_F, eq_T, eq_F, m1_lt, m1_le, lt_m1, le_m1, eq_m1, m1_eq, nI_add, nI_sub, nI_dec, nI_mul, nI_or, nI_and, nI_div, nI_mod, and_255, and_31, and_1, and_63, nI_shl, nI_shr, bI_F, bI_1, vp_T, cl_T, true_implies, false_implies, not_true_eq_false, not_false_eq_true, true_and, and_true, false_and, and_false, Bool.false_eq_true, Bool.true_eq_false, reduceCtorEq, implies_true, q_lc_eq, q_lc_ge, q_lc_gt, q_lc_le, lN_or, lN_and, lN_shl, lN_shr, nI_L, lN_I, l_0]
          exact ⟨_, _, hl1.1, rfl, rfl⟩
        · by_cases h0 : 0 < p
          · rw [decide_eq_true h0]
            simp (disch := omega) only [T_Model_show, S_Model_show, B_Model_show_70, m1, m4, q_lit, le_T, le_F, lt_T, lt_F, eq_T, eq_F, m1_lt, m1_le, lt_m1, le_m1, eq_m1, m1_eq, nI_add, nI_sub, nI_dec, nI_mul, nI_or, nI_and, nI_div, nI_mod, and_255, and_31, and_1, and_63, nI_shl, nI_shr, bI_F, bI_1, vp_T, cl_T, true_implies, false_implies, not_true_eq_false, not_false_eq_true, true_and, and_true, false_and, and_false, Bool.false_eq_true, Bool.true_eq_false, reduceCtorEq, implies_true, q_lc_eq, q_lc_ge, q_lc_gt, q_lc_le, lN_or, lN_and, lN_shl, lN_shr, nI_L, lN_I, l_0]
            exact e2
          · rw [decide_eq_false h0]
            simp (disch := omega) only [T_Model_show, S_Model_show, B_Model_show_70, m1, m4, q_lit, le_T, le_F, lt_T, lt_F, eq_T, eq_F, m1_lt, m1_le, lt_m1, le_m1, eq_m1, m1_eq, nI_add, nI_sub, nI_dec, nI_mul, nI_or, nI_and, nI_div, nI_mod, and_255, and_31, and_1, and_63, nI_shl, nI_shr, bI_F, bI_1, vp_T, cl_T, true_implies, false_implies, not_true_eq_false, not_false_eq_true, true_and, and_true, false_and, and_false, Bool.false_eq_true, Bool.true_eq_false, reduceCtorEq, implies_true, q_lc_eq, q_lc_ge, q_lc_gt, q_lc_le, lN_or, lN_and, lN_shl, lN_shr, nI_L, lN_I, l_0]
            exact e2
      · have h5 := s5 hln
        obtain ⟨m6, m7⟩ := m3 (p - 1) (by omega)
        have hpos : 0 < ln.length := List.length_pos_iff.mpr hln
        have hl1 := sc_line s1 (by omega)
        have hl2 := sc_line hl1.2 (by simp; omega)
        obtain ⟨Fr1, Sz1, f1, f2⟩ := sm_line s2 (by omega)
        obtain ⟨ln', SE', SN', SO', PE', PC', PO', A', Ls', Lm', Fr', Sz', Sh', Tx', PL', P', ⟨k1, e1⟩, ⟨k2, e2⟩, e3, e4, e5⟩ := sh_mid hX' ih hp ho hP hQ (d := ln ++ [[]]) (c := []) (SO := SO) (PO := PO) hl2.2 (Or.inl ⟨rfl, rfl, f2⟩) (by simp) (Or.inl ⟨rfl, rfl, rfl, by simp; omega⟩) (by simp only [flat_snoc, List.append_nil, List.length_nil]; omega) false
        have hLs := s1.2.1
        have hLm := s2.2.1
        subst hLs
        subst hLm
        refine ⟨ln', SE', SN', SO', PE', PC', PO', A', Ls', Lm', Fr', Sz', Sh', Tx', PL', P', ⟨k1 + 1, ?_⟩, ⟨k2 + 1, ?_⟩, e3, e4, e5⟩
        · simp only [T_Screen_lay, S_Screen_lay, B_Screen_lay_36]
          refine ⟨_, cb_end hB ht, ?_⟩
          simp (disch := omega) only [q_lit, le_T, le_F, lt_T, lt_F, eq_T, eq_F, m1_lt, m1_le, lt_m1, le_m1, eq_m1, m1_eq, nI_add, nI_sub, nI_dec, nI_mul, nI_or, nI_and, nI_div, nI_mod, and_255, and_31, and_1, and_63, nI_shl, nI_shr, bI_F, bI_1, vp_T, cl_T, true_implies, false_implies, not_true_eq_false, not_false_eq_true, true_and, and_true, false_and, and_false, Bool.false_eq_true, Bool.true_eq_false, reduceCtorEq, implies_true]
          refine ⟨_, _, ⟨1, ?_⟩, e1⟩
          simp (disch := omega) only [T_Screen_beginParagraph, S_Screen_beginParagraph, B_Screen_beginParagraph_11, q_lit, le_T, le_F, lt_T, lt_F, eq_T, eq_F, m1_lt, m1_le, lt_m1, le_m1, eq_m1, m1_eq, nI_add, nI_sub, nI_dec, nI_mul, nI_or, nI_and, nI_div, nI_mod, and_255, and_31, and_1, and_63, nI_shl, nI_shr, bI_F, bI_1, vp_T, cl_T, true_implies, false_implies, not_true_eq_false, not_false_eq_true, true_and, and_true, false_and, and_false, Bool.false_eq_true, Bool.true_eq_false, reduceCtorEq, implies_true, q_lc_eq, q_lc_ge, q_lc_gt, q_lc_le, lN_or, lN_and, lN_shl, lN_shr, nI_L, lN_I, l_0]
          exact ⟨_, _, hl1.1, _, _, hl2.1, rfl, rfl⟩
        · rw [decide_eq_true h5.1]
          rw [show 255 * X.2.2.2.2.2.2.2.2.2.2.1 + (p - 1) = 255 * X.2.2.2.2.2.2.2.2.2.2.1 + p - 1 by omega, h5.2] at m6
          simp (disch := omega) only [T_Model_show, S_Model_show, B_Model_show_70, m1, m4, m6, q_lit, le_T, le_F, lt_T, lt_F, eq_T, eq_F, m1_lt, m1_le, lt_m1, le_m1, eq_m1, m1_eq, nI_add, nI_sub, nI_dec, nI_mul, nI_or, nI_and, nI_div, nI_mod, and_255, and_31, and_1, and_63, nI_shl, nI_shr, bI_F, bI_1, vp_T, cl_T, true_implies, false_implies, not_true_eq_false, not_false_eq_true, true_and, and_true, false_and, and_false, Bool.false_eq_true, Bool.true_eq_false, reduceCtorEq, implies_true, q_lc_eq, q_lc_ge, q_lc_gt, q_lc_le, lN_or, lN_and, lN_shl, lN_shr, nI_L, lN_I, l_0]
          exact ⟨_, _, _, f1, e2⟩
    · obtain ⟨ln', SE', SN', SO', PE', PC', PO', A', Ls', Lm', Fr', Sz', Sh', Tx', PL', P', ⟨k1, e1⟩, ⟨k2, e2⟩, e3, e4, e5⟩ := sh_mid hX' ih hp ho hP hQ (SO := SO) (PO := PO) s1 s2 s3 (Or.inr ⟨hbf, s4⟩) s5 false
      refine ⟨ln', SE', SN', SO', PE', PC', PO', A', Ls', Lm', Fr', Sz', Sh', Tx', PL', P', ⟨k1 + 1, ?_⟩, ⟨k2 + 1, ?_⟩, e3, e4, e5⟩
      · simp only [T_Screen_lay, S_Screen_lay, B_Screen_lay_36]
        refine ⟨_, cb_end hB ht, ?_⟩
        simp (disch := omega) only [q_lit, le_T, le_F, lt_T, lt_F, eq_T, eq_F, m1_lt, m1_le, lt_m1, le_m1, eq_m1, m1_eq, nI_add, nI_sub, nI_dec, nI_mul, nI_or, nI_and, nI_div, nI_mod, and_255, and_31, and_1, and_63, nI_shl, nI_shr, bI_F, bI_1, vp_T, cl_T, true_implies, false_implies, not_true_eq_false, not_false_eq_true, true_and, and_true, false_and, and_false, Bool.false_eq_true, Bool.true_eq_false, reduceCtorEq, implies_true]
        exact e1
      · cases b2 with
        | false =>
          by_cases h0 : 0 < p
          · rw [decide_eq_true h0]
            simp (disch := omega) only [T_Model_show, S_Model_show, B_Model_show_70, m1, m4, q_lit, le_T, le_F, lt_T, lt_F, eq_T, eq_F, m1_lt, m1_le, lt_m1, le_m1, eq_m1, m1_eq, nI_add, nI_sub, nI_dec, nI_mul, nI_or, nI_and, nI_div, nI_mod, and_255, and_31, and_1, and_63, nI_shl, nI_shr, bI_F, bI_1, vp_T, cl_T, true_implies, false_implies, not_true_eq_false, not_false_eq_true, true_and, and_true, false_and, and_false, Bool.false_eq_true, Bool.true_eq_false, reduceCtorEq, implies_true, q_lc_eq, q_lc_ge, q_lc_gt, q_lc_le, lN_or, lN_and, lN_shl, lN_shr, nI_L, lN_I, l_0]
            exact e2
          · rw [decide_eq_false h0]
            simp (disch := omega) only [T_Model_show, S_Model_show, B_Model_show_70, m1, m4, q_lit, le_T, le_F, lt_T, lt_F, eq_T, eq_F, m1_lt, m1_le, lt_m1, le_m1, eq_m1, m1_eq, nI_add, nI_sub, nI_dec, nI_mul, nI_or, nI_and, nI_div, nI_mod, and_255, and_31, and_1, and_63, nI_shl, nI_shr, bI_F, bI_1, vp_T, cl_T, true_implies, false_implies, not_true_eq_false, not_false_eq_true, true_and, and_true, false_and, and_false, Bool.false_eq_true, Bool.true_eq_false, reduceCtorEq, implies_true, q_lc_eq, q_lc_ge, q_lc_gt, q_lc_le, lN_or, lN_and, lN_shl, lN_shr, nI_L, lN_I, l_0]
            exact e2
        | true =>
          obtain ⟨h0, h10⟩ := hb rfl
          obtain ⟨m6, m7⟩ := m3 (p - 1) (by omega)
          rw [show 255 * X.2.2.2.2.2.2.2.2.2.2.1 + (p - 1) = 255 * X.2.2.2.2.2.2.2.2.2.2.1 + p - 1 by omega] at m6
          rcases s2 with ⟨_, hcc, s2⟩ | ⟨h, _⟩
          · have hLm := s2.2.1
            have hLm2 := s2.2.2.1
            subst hLm
            rw [decide_eq_true h0]
            by_cases hd0 : d.length = 0
            · simp (disch := omega) only [T_Model_show, S_Model_show, B_Model_show_70, m1, m4, q_lit, le_T, le_F, lt_T, lt_F, eq_T, eq_F, m1_lt, m1_le, lt_m1, le_m1, eq_m1, m1_eq, nI_add, nI_sub, nI_dec, nI_mul, nI_or, nI_and, nI_div, nI_mod, and_255, and_31, and_1, and_63, nI_shl, nI_shr, bI_F, bI_1, vp_T, cl_T, true_implies, false_implies, not_true_eq_false, not_false_eq_true, true_and, and_true, false_and, and_false, Bool.false_eq_true, Bool.true_eq_false, reduceCtorEq, implies_true, q_lc_eq, q_lc_ge, q_lc_gt, q_lc_le, lN_or, lN_and, lN_shl, lN_shr, nI_L, lN_I, l_0]
              exact e2
            · simp (disch := omega) only [T_Model_show, S_Model_show, B_Model_show_70, m1, m4, m6, q_lit, le_T, le_F, lt_T, lt_F, eq_T, eq_F, m1_lt, m1_le, lt_m1, le_m1, eq_m1, m1_eq, nI_add, nI_sub, nI_dec, nI_mul, nI_or, nI_and, nI_div, nI_mod, and_255, and_31, and_1, and_63, nI_shl, nI_shr, bI_F, bI_1, vp_T, cl_T, true_implies, false_implies, not_true_eq_false, not_false_eq_true, true_and, and_true, false_and, and_false, Bool.false_eq_true, Bool.true_eq_false, reduceCtorEq, implies_true, q_lc_eq, q_lc_ge, q_lc_gt, q_lc_le, lN_or, lN_and, lN_shl, lN_shr, nI_L, lN_I, l_0]
              exact e2
          · cases h
  · rw [List.drop_eq_nil_of_le (by omega)] at ho
    simp only [bOk, decide_eq_true_eq] at ho
    rcases hS with ⟨_, rfl, rfl, rfl, ln, s1, s2, s3, s4, s5⟩ | ⟨hbf, _⟩
    · refine ⟨ln, SE, SN, SO, PE, PC, PO, A, Ls, Lm, Fr, Sz, Sh, Tx, PL, P, ⟨1, ?_⟩, ⟨1, ?_⟩, s1, s2, hP⟩
      · simp only [T_Screen_lay, S_Screen_lay, B_Screen_lay_36]
        refine ⟨_, cb_end hB ht, ?_⟩
        simp (disch := omega) only [q_lit, le_T, le_F, lt_T, lt_F, eq_T, eq_F, m1_lt, m1_le, lt_m1, le_m1, eq_m1, m1_eq, nI_add, nI_sub, nI_dec, nI_mul, nI_or, nI_and, nI_div, nI_mod, and_255, and_31, and_1, and_63, nI_shl, nI_shr, bI_F, bI_1, vp_T, cl_T, true_implies, false_implies, not_true_eq_false, not_false_eq_true, true_and, and_true, false_and, and_false, Bool.false_eq_true, Bool.true_eq_false, reduceCtorEq, implies_true]
      · simp (disch := omega) only [T_Model_show, S_Model_show, B_Model_show_70, m1, q_lit, le_T, le_F, lt_T, lt_F, eq_T, eq_F, m1_lt, m1_le, lt_m1, le_m1, eq_m1, m1_eq, nI_add, nI_sub, nI_dec, nI_mul, nI_or, nI_and, nI_div, nI_mod, and_255, and_31, and_1, and_63, nI_shl, nI_shr, bI_F, bI_1, vp_T, cl_T, true_implies, false_implies, not_true_eq_false, not_false_eq_true, true_and, and_true, false_and, and_false, Bool.false_eq_true, Bool.true_eq_false, reduceCtorEq, implies_true, q_lc_eq, q_lc_ge, q_lc_gt, q_lc_le, lN_or, lN_and, lN_shl, lN_shr, nI_L, lN_I, l_0]
    · exact absurd ho hbf
termination_by (bd bs X.2.2.2.2.2.2.2.2.2.2.1).length - p
decreasing_by all_goals omega
