/-! Pure: search, both sides at once. -/
/-- where a condition was just closed -/
def q_QN (E : Int32) (ls : List (Int32 × Int32 × Bool)) (vs gs : List Int32) : Prop := ∃ f j0 c r v', ls = (f, j0 &&& c, false) :: r ∧ vs = c :: v' ∧ q_sb E c ∧ q_QD E ((f, j0, false) :: r) 0 v' gs
theorem lv_sb {E f j : Int32} {v g : List Int32} (h : LV E f j v g) (hE : q_sb E E) : q_sb E f ∧ q_sb E j := by
  have h0 : q_sb E (nI 0) := by
    refine bit_ext (fun i => ?_)
    have e : (nI 0).toBitVec = 0#32 := by decide +kernel
    rw [Int32.toBitVec_and, BitVec.getLsbD_and, e]; simp
  cases h using LV.cs with
  | n00 => exact ⟨h0, hE⟩
  | n01 _ a => exact ⟨h0, a⟩
  | n10 _ a => exact ⟨a, hE⟩
  | n11 _ _ a b => exact ⟨a, b⟩
theorem LV.top {E f j : Int32} {v g : List Int32} (h : LV E f j v g) : ∀ x q, g = x :: q → ¬ x = nI 33 := by
  have a : ¬ nI 38 = nI 33 := by decide +kernel
  have b : ¬ nI 124 = nI 33 := by decide +kernel
  intro x q hq
  cases h using LV.cs with
  | n00 => cases hq
  | n01 _ _ => cases hq; exact a
  | n10 _ _ => cases hq; exact b
  | n11 _ _ _ _ => cases hq; exact a
theorem sb_self (E : Int32) : q_sb E E := by
  refine bit_ext (fun i => ?_)
  rw [Int32.toBitVec_and, BitVec.getLsbD_and]; simp
theorem gtop {E f j : Int32} {v1 g1 g2 : List Int32} (hL : LV E f j v1 g1) (h2 : ∀ x q, g2 = x :: q → ¬ x = nI 38 ∧ ¬ x = nI 124 ∧ ¬ x = nI 33) : ∀ x q, g1 ++ g2 = x :: q → ¬ x = nI 33 := by
  intro x q h
  cases g1 with
  | nil => exact (h2 x q h).2.2
  | cons y r =>
    simp only [List.cons_append, List.cons.injEq] at h
    exact hL.top x r (by rw [h.1])
theorem parity (nb : Nat) : decide ((nb + 1) % 2 = 1) = !decide (nb % 2 = 1) := by
  by_cases h : nb % 2 = 1
  · rw [decide_eq_true h, decide_eq_false (by omega)]; rfl
  · rw [decide_eq_false h, decide_eq_true (by omega)]; rfl
theorem go_and {tn : Nat} {V V1 G : Nat → Int32} {vc vc1 gc : Int32} {gn1 : Nat} (h1 : D_Model_join false V vc G gc V1 vc1 (nI gn1)) (h2 : D_Model_join false V1 vc1 G (nI gn1) V1 vc1 (nI gn1)) (hg : gn1 < 42) : D_Model_goOn (nI 38) (nI tn) V vc G gc true V1 vc1 (upd G gn1 (nI 38)) (nI (gn1 + 1)) := by
  refine ⟨3, ?_⟩
  simp (disch := omega) only [T_Model_goOn, S_Model_goOn, B_Model_goOn_20, B_Model_goOn_35, B_Model_goOn_52, D_Model_note, q_lit, le_T, le_F, lt_T, lt_F, eq_T, eq_F, m1_lt, m1_le, lt_m1, le_m1, eq_m1, m1_eq, nI_add, nI_sub, nI_dec, nI_mul, nI_or, nI_and, nI_div, nI_mod, and_255, and_31, and_1, and_63, nI_shl, nI_shr, bI_F, bI_1, vp_T, cl_T, true_implies, false_implies, not_true_eq_false, not_false_eq_true, true_and, and_true, false_and, and_false, Bool.false_eq_true, Bool.true_eq_false, reduceCtorEq, implies_true, q_lc_eq, q_lc_ge, q_lc_gt, q_lc_le, lN_or, lN_and, lN_shl, lN_shr, nI_L, lN_I, l_0]
  refine ⟨_, _, _, h1, _, _, _, h2, _, _, ?_, rfl, rfl, rfl, rfl⟩
  simp (disch := omega) only [q_lit, le_T, le_F, lt_T, lt_F, eq_T, eq_F, m1_lt, m1_le, lt_m1, le_m1, eq_m1, m1_eq, nI_add, nI_sub, nI_dec, nI_mul, nI_or, nI_and, nI_div, nI_mod, and_255, and_31, and_1, and_63, nI_shl, nI_shr, bI_F, bI_1, vp_T, cl_T, true_implies, false_implies, not_true_eq_false, not_false_eq_true, true_and, and_true, false_and, and_false, Bool.false_eq_true, Bool.true_eq_false, reduceCtorEq, implies_true]
theorem go_or {tn : Nat} {V V1 G : Nat → Int32} {vc vc1 gc : Int32} {gn1 : Nat} (h1 : D_Model_join true V vc G gc V1 vc1 (nI gn1)) (hg : gn1 < 42) : D_Model_goOn (nI 124) (nI tn) V vc G gc true V1 vc1 (upd G gn1 (nI 124)) (nI (gn1 + 1)) := by
  refine ⟨3, ?_⟩
  simp (disch := omega) only [T_Model_goOn, S_Model_goOn, B_Model_goOn_20, B_Model_goOn_35, B_Model_goOn_52, D_Model_note, q_lit, le_T, le_F, lt_T, lt_F, eq_T, eq_F, m1_lt, m1_le, lt_m1, le_m1, eq_m1, m1_eq, nI_add, nI_sub, nI_dec, nI_mul, nI_or, nI_and, nI_div, nI_mod, and_255, and_31, and_1, and_63, nI_shl, nI_shr, bI_F, bI_1, vp_T, cl_T, true_implies, false_implies, not_true_eq_false, not_false_eq_true, true_and, and_true, false_and, and_false, Bool.false_eq_true, Bool.true_eq_false, reduceCtorEq, implies_true, q_lc_eq, q_lc_ge, q_lc_gt, q_lc_le, lN_or, lN_and, lN_shl, lN_shr, nI_L, lN_I, l_0]
  refine ⟨_, _, _, h1, _, _, ?_, rfl, rfl, rfl, rfl⟩
  simp (disch := omega) only [q_lit, le_T, le_F, lt_T, lt_F, eq_T, eq_F, m1_lt, m1_le, lt_m1, le_m1, eq_m1, m1_eq, nI_add, nI_sub, nI_dec, nI_mul, nI_or, nI_and, nI_div, nI_mod, and_255, and_31, and_1, and_63, nI_shl, nI_shr, bI_F, bI_1, vp_T, cl_T, true_implies, false_implies, not_true_eq_false, not_false_eq_true, true_and, and_true, false_and, and_false, Bool.false_eq_true, Bool.true_eq_false, reduceCtorEq, implies_true]
theorem go_no0 {tn : Nat} {V V1 G : Nat → Int32} {vc vc1 gc : Int32} (h1 : D_Model_join true V vc G gc V1 vc1 (nI 0)) : D_Model_goOn (nI 41) (nI tn) V vc G gc false V1 vc1 G (nI 0) := by
  refine ⟨2, ?_⟩
  simp (disch := omega) only [T_Model_goOn, S_Model_goOn, B_Model_goOn_20, B_Model_goOn_35, q_lit, le_T, le_F, lt_T, lt_F, eq_T, eq_F, m1_lt, m1_le, lt_m1, le_m1, eq_m1, m1_eq, nI_add, nI_sub, nI_dec, nI_mul, nI_or, nI_and, nI_div, nI_mod, and_255, and_31, and_1, and_63, nI_shl, nI_shr, bI_F, bI_1, vp_T, cl_T, true_implies, false_implies, not_true_eq_false, not_false_eq_true, true_and, and_true, false_and, and_false, Bool.false_eq_true, Bool.true_eq_false, reduceCtorEq, implies_true, q_lc_eq, q_lc_ge, q_lc_gt, q_lc_le, lN_or, lN_and, lN_shl, lN_shr, nI_L, lN_I, l_0]
  refine ⟨_, _, _, h1, ?_⟩
  simp (disch := omega) only [q_lit, le_T, le_F, lt_T, lt_F, eq_T, eq_F, m1_lt, m1_le, lt_m1, le_m1, eq_m1, m1_eq, nI_add, nI_sub, nI_dec, nI_mul, nI_or, nI_and, nI_div, nI_mod, and_255, and_31, and_1, and_63, nI_shl, nI_shr, bI_F, bI_1, vp_T, cl_T, true_implies, false_implies, not_true_eq_false, not_false_eq_true, true_and, and_true, false_and, and_false, Bool.false_eq_true, Bool.true_eq_false, reduceCtorEq, implies_true]
theorem go_end {tn : Nat} {V V1 V2 G : Nat → Int32} {vc vc1 gc gc2 : Int32} {gn1 : Nat} (h1 : D_Model_join true V vc G gc V1 vc1 (nI (gn1 + 1))) (hg : gn1 < 42) (h2 : D_Model_negate (nI tn) V1 vc1 G (nI gn1) V2 gc2) : D_Model_goOn (nI 41) (nI tn) V vc G gc true V2 vc1 G gc2 := by
  refine ⟨2, ?_⟩
  simp (disch := omega) only [T_Model_goOn, S_Model_goOn, B_Model_goOn_20, B_Model_goOn_35, q_lit, le_T, le_F, lt_T, lt_F, eq_T, eq_F, m1_lt, m1_le, lt_m1, le_m1, eq_m1, m1_eq, nI_add, nI_sub, nI_dec, nI_mul, nI_or, nI_and, nI_div, nI_mod, and_255, and_31, and_1, and_63, nI_shl, nI_shr, bI_F, bI_1, vp_T, cl_T, true_implies, false_implies, not_true_eq_false, not_false_eq_true, true_and, and_true, false_and, and_false, Bool.false_eq_true, Bool.true_eq_false, reduceCtorEq, implies_true, q_lc_eq, q_lc_ge, q_lc_gt, q_lc_le, lN_or, lN_and, lN_shl, lN_shr, nI_L, lN_I, l_0]
  refine ⟨_, _, _, h1, ?_⟩
  simp (disch := omega) only [Nat.add_sub_cancel, q_lit, le_T, le_F, lt_T, lt_F, eq_T, eq_F, m1_lt, m1_le, lt_m1, le_m1, eq_m1, m1_eq, nI_add, nI_sub, nI_dec, nI_mul, nI_or, nI_and, nI_div, nI_mod, and_255, and_31, and_1, and_63, nI_shl, nI_shr, bI_F, bI_1, vp_T, cl_T, true_implies, false_implies, not_true_eq_false, not_false_eq_true, true_and, and_true, false_and, and_false, Bool.false_eq_true, Bool.true_eq_false, reduceCtorEq, implies_true]
  exact ⟨_, _, h2, rfl, rfl⟩
theorem go_no {tn x : Nat} (hx : x < 2147483648) (h1 : ¬ x = 38) (h2 : ¬ x = 124) (h3 : ¬ x = 41) (V G : Nat → Int32) (vc gc : Int32) : D_Model_goOn (nI x) (nI tn) V vc G gc false V vc G gc := by
  refine ⟨0, ?_⟩
  simp (disch := omega) only [q_lit, le_T, le_F, lt_T, lt_F, eq_T, eq_F, m1_lt, m1_le, lt_m1, le_m1, eq_m1, m1_eq, nI_add, nI_sub, nI_dec, nI_mul, nI_or, nI_and, nI_div, nI_mod, and_255, and_31, and_1, and_63, nI_shl, nI_shr, bI_F, bI_1, vp_T, cl_T, true_implies, false_implies, not_true_eq_false, not_false_eq_true, true_and, and_true, false_and, and_false, Bool.false_eq_true, Bool.true_eq_false, reduceCtorEq, implies_true]
theorem q_sim {tn : Nat} {E0 : Nat → Int32} {C0 : Int32} {L : List Nat} {VW : Nat → Int64} {VT : Nat → Int32} {VC : Int32} {ws : List (List Nat × Nat)} (hc : CX E0 C0 L VW VT VC (codes ws)) {SW : Int32} {Lt Ln Bt : Nat → Int32} {tC : Int32} {q : Nat → Int32} (hm : q_MX tn SW Lt Ln Bt tC q L ws) (bT : Int32)
    (p : Nat) (hp : p ≤ L.length) (due : Bool) (ls : List (Int32 × Int32 × Bool)) (nb : Nat) (vs gs : List Int32) (hvl : vs.length ≤ p) (hgl : gs.length ≤ p) (hll : ls.length ≤ p + 1) (hQ : (due = true ∧ q_QD (eT tn) ls nb vs gs) ∨ (due = false ∧ q_QN (eT tn) ls vs gs))
    (F J N : Nat → Int32) (hF : q_QR F J N ls) (HL : Int32) (H V G : Nat → Int32) (hV : SR V vs) (hG : SR G gs) :
    ∃ res, CF E0 C0 VW VT VC bT (eT tn) res p F J N (ls.length - 1) due ∧ q_MA tn SW Lt Ln Bt tC q res p due HL H V vs.length G gs.length := by
  have hL40 : L.length ≤ 40 := hc.1.2.1
  have hv := hc.2.1
  by_cases hpl : p < L.length
  · by_cases h32 : L.getD p 0 = 32
    · obtain ⟨res, a, b⟩ := q_sim hc hm bT (p + 1) hpl due ls nb vs gs (by omega) (by omega) (by omega) hQ F J N hF HL H V G hV hG
      exact ⟨res, cf_blank hc hpl h32 a, ma_blank hm hpl h32 b⟩
    · rcases hQ with ⟨rfl, hQ⟩ | ⟨rfl, hQ⟩
      · -- a condition is due
        cases ls with
        | nil => exact absurd hQ (by simp [q_QD])
        | cons e r =>
          obtain ⟨f, j, n⟩ := e
          obtain ⟨hn, v1, g1, v2, g2, hLV, hvs, hgs, hr⟩ := hQ
          have htop := g2_top hr
          have hg33 := gtop hLV htop
          simp only [List.length_cons, Nat.add_sub_cancel] at hll ⊢
          cases hlet : isLet (L.getD p 0) with
          | true =>
            have hsb : q_sb (eT tn) (nI (q_bitsOf (enc (letRun L p L.length)) (codes ws))) := sb_bits hm.2.2.2.2.1 (hm.2.2.2.2.2 _)
            have hrun : 0 < (letRun L p L.length).length := by rw [letRun_step hpl hlet]; simp
            have hle : letEnd L p L.length ≤ L.length := by
              have : (letRun L p L.length).length ≤ L.length - p := by
                unfold letRun
                exact Nat.le_trans (List.takeWhile_sublist _).length_le (by simp)
              unfold letEnd; omega
            have hlt : p < letEnd L p L.length := by unfold letEnd; omega
            subst hgs
            simp only [List.length_append, List.length_replicate] at hgl
            obtain ⟨J', N', h1, k1⟩ := cf_word hc (bT := bT) (E := eT tn) hpl hlet hF (by omega)
            obtain ⟨HL', H', V', h2, k2⟩ := ma_word hm (hg := hG) hg33 (by simp only [List.length_append]; omega) (by omega) hV hpl hlet HL H
            have e : (if n = true then cmp1 (eT tn) (nI (q_bitsOf (enc (letRun L p L.length)) (codes ws))) else nI (q_bitsOf (enc (letRun L p L.length)) (codes ws))) = ngt (eT tn) nb (nI (q_bitsOf (enc (letRun L p L.length)) (codes ws))) := by
              rw [ngt_eq nb hsb, hn]; simp only [decide_eq_true_eq]
            rw [e] at h1
            obtain ⟨res, a, b⟩ := q_sim hc hm bT (letEnd L p L.length) hle false ((f, j &&& ngt (eT tn) nb (nI (q_bitsOf (enc (letRun L p L.length)) (codes ws))), false) :: r) 0 (ngt (eT tn) nb (nI (q_bitsOf (enc (letRun L p L.length)) (codes ws))) :: vs) (g1 ++ g2) (by simp only [List.length_cons]; omega) (by simp only [List.length_append]; omega) (by simp only [List.length_cons]; omega) (Or.inr ⟨rfl, f, j, _, r, vs, rfl, rfl, ngt_sb nb hsb, by decide, v1, g1, v2, g2, hLV, hvs, by simp, hr⟩) F J' N' h1 HL' H' V' G h2 hG.app
            refine ⟨res, k1 res (by simpa only [List.length_cons, Nat.add_sub_cancel] using a), ?_⟩
            have := k2 res (by simpa only [List.length_cons] using b)
            simpa only [List.length_append, List.length_replicate] using this
          | false =>
            by_cases h33 : L.getD p 0 = 33
            · obtain ⟨N', a1, a2⟩ := qu_not hF (by omega) (eT tn) true
              obtain ⟨res, a, b⟩ := q_sim hc hm bT (p + 1) hpl true ((f, j, !n) :: r) (nb + 1) vs (nI 33 :: gs) (by omega) (by simp only [List.length_cons]; omega) (by simp only [List.length_cons]; omega) (Or.inl ⟨rfl, by rw [parity, hn], v1, g1, v2, g2, hLV, hvs, by rw [hgs]; rfl, hr⟩) F J N' a2 HL H V (upd G gs.length (nI 33)) hV (hG.push _)
              exact ⟨res, cf_open hc hpl hlet h32 (by rw [h33]; exact a1) (Or.inl ⟨rfl, by simpa only [List.length_cons, Nat.add_sub_cancel] using a⟩), ma_note hm hpl (Or.inl h33) (by omega) (by rw [h33]; simpa only [List.length_cons] using b)⟩
            · by_cases h40 : L.getD p 0 = 40
              · obtain ⟨F', J', N', a1, a2⟩ := qu_open hF (by omega) (eT tn) true
                obtain ⟨res, a, b⟩ := q_sim hc hm bT (p + 1) hpl true ((nI 0, eT tn, false) :: (f, j, n) :: r) 0 vs (nI 40 :: gs) (by omega) (by simp only [List.length_cons]; omega) (by simp only [List.length_cons]; omega) (Or.inl ⟨rfl, by decide, [], [], vs, nI 40 :: gs, .n00, rfl, rfl, Or.inr ⟨by simp, nb, gs, rfl, hn, v1, g1, v2, g2, hLV, hvs, hgs, hr⟩⟩) F' J' N' a2 HL H V (upd G gs.length (nI 40)) hV (hG.push _)
                exact ⟨res, cf_open hc hpl hlet h32 (by rw [h40]; exact a1) (Or.inl ⟨rfl, by simpa only [List.length_cons, Nat.add_sub_cancel] using a⟩), ma_note hm hpl (Or.inr h40) (by omega) (by rw [h40]; simpa only [List.length_cons] using b)⟩
              · exact ⟨_, cf_open hc hpl hlet h32 (lv1 := r.length) (qu_noOpen (hv p) h33 h40 F J N (eT tn) (nI r.length) true) (Or.inr ⟨rfl, rfl⟩), ma_noBegin hm (by omega) (fun _ => ⟨h33, h40, h32, hlet⟩)⟩
      · -- a condition was just closed
        obtain ⟨f, j, c, r, v', rfl, rfl, hsc, hn0, v1, g1, v2, g2, hLV, rfl, hgs, hr⟩ := hQ
        have htop := g2_top hr
        simp only [List.replicate_zero, List.nil_append] at hgs
        subst hgs
        have hsb := lv_sb hLV (sb_self _)
        simp only [List.length_cons, Nat.add_sub_cancel] at hll hvl ⊢
        by_cases h38 : L.getD p 0 = 38
        · obtain ⟨V', v3, g3, b1, b2, b3, b4, b5, b6, b7⟩ := join_f hLV hsc htop hG hV (by omega) (by omega)
          obtain ⟨res, a, b⟩ := q_sim hc hm bT (p + 1) hpl true ((f, j &&& c, false) :: r) 0 (v3 ++ v2) (nI 38 :: (g3 ++ g2)) (by omega) (by simp only [List.length_cons]; omega) (by simp only [List.length_cons]; omega) (Or.inl ⟨rfl, by decide, v3, nI 38 :: g3, v2, g2, b4, rfl, rfl, hr⟩) F J N hF HL H V' (upd G (g3 ++ g2).length (nI 38)) b2 (b3.push _)
          have hj2 := join_no b3 (by omega) b7 V' (nI (v3 ++ v2).length)
          exact ⟨res, cf_on hc hpl h32 (lv1 := r.length) (by rw [h38]; exact qu_and F J N (eT tn) (nI r.length) false) (Or.inl ⟨rfl, by simpa only [List.length_cons, Nat.add_sub_cancel] using a⟩), ma_on hm hpl h32 (by rw [h38]; exact go_and b1 hj2 (by omega)) (Or.inl ⟨rfl, by rw [decide_eq_true (by omega)]; exact b⟩)⟩
        · obtain ⟨V', b1, b2⟩ := join_t hLV hsc htop hG hV (by omega) (by omega)
          simp only [List.length_append] at hgl hvl
          by_cases h124 : L.getD p 0 = 124
          · obtain ⟨F', J', a1, a2⟩ := qu_or hF (by omega) (eT tn) false
            obtain ⟨res, a, b⟩ := q_sim hc hm bT (p + 1) hpl true ((f ||| (j &&& c), eT tn, false) :: r) 0 ((f ||| (j &&& c)) :: v2) (nI 124 :: g2) (by simp only [List.length_cons]; omega) (by simp only [List.length_cons]; omega) (by simp only [List.length_cons]; omega) (Or.inl ⟨rfl, by decide, [f ||| (j &&& c)], [nI 124], v2, g2, .n10 _ (sb_or hsb.1 (sb_and hsb.2)), rfl, rfl, hr⟩) F' J' N a2 HL H V' (upd G g2.length (nI 124)) b2 (hG.app.push _)
            exact ⟨res, cf_on hc hpl h32 (lv1 := r.length) (by rw [h124]; exact a1) (Or.inl ⟨rfl, by simpa only [List.length_cons, Nat.add_sub_cancel] using a⟩), ma_on hm hpl h32 (vn1 := v2.length + 1) (gn1 := g2.length + 1) (by rw [h124]; exact go_or b1 (by omega)) (Or.inl ⟨rfl, by rw [decide_eq_true (by omega)]; exact b⟩)⟩
          · by_cases h41 : L.getD p 0 = 41
            · rcases hr with ⟨rfl, rfl, rfl⟩ | ⟨hr0, nb', g3, rfl, hQ⟩
              · exact ⟨_, cf_on hc hpl h32 (lv1 := 0) (by rw [h41]; exact qu_noEnd F J N (eT tn) false) (Or.inr ⟨rfl, rfl⟩), ma_on hm hpl h32 (vn1 := 1) (gn1 := 0) (by rw [h41]; exact go_no0 b1) (Or.inr ⟨rfl, rfl⟩)⟩
              · cases r with
                | nil => exact absurd rfl hr0
                | cons e r =>
                  obtain ⟨f2, j2, n2⟩ := e
                  obtain ⟨hn2, w1, k1, w2, k2, hLV2, rfl, rfl, hr2⟩ := hQ
                  have htop2 := g2_top hr2
                  have hgt2 := gtop hLV2 htop2
                  have hsR : q_sb (eT tn) (f ||| (j &&& c)) := sb_or hsb.1 (sb_and hsb.2)
                  simp only [List.length_cons, List.length_append, List.length_replicate] at hgl hvl hll
                  have hG2 : SR G (List.replicate nb' (nI 33) ++ (k1 ++ k2)) := hG.app.2
                  obtain ⟨V2, d1, d2⟩ := mo_negate (tn := tn) nb' hG2 hgt2 (by simp only [List.length_append]; omega) (by simp only [List.length_append]; omega) (f ||| (j &&& c)) V' b2
                  obtain ⟨J', N', a1, a2⟩ := qu_end hF (by omega) (eT tn) false
                  have e : (if n2 = true then cmp1 (eT tn) (f ||| (j &&& c)) else (f ||| (j &&& c))) = ngt (eT tn) nb' (f ||| (j &&& c)) := by
                    rw [ngt_eq nb' hsR, hn2]; simp only [decide_eq_true_eq]
                  rw [e] at a2
                  obtain ⟨res, a, b⟩ := q_sim hc hm bT (p + 1) hpl false ((f2, j2 &&& ngt (eT tn) nb' (f ||| (j &&& c)), false) :: r) 0 (ngt (eT tn) nb' (f ||| (j &&& c)) :: (w1 ++ w2)) (k1 ++ k2) (by simp only [List.length_cons, List.length_append]; omega) (by simp only [List.length_append]; omega) (by simp only [List.length_cons]; omega) (Or.inr ⟨rfl, f2, j2, _, r, w1 ++ w2, rfl, rfl, ngt_sb nb' hsR, by decide, w1, k1, w2, k2, hLV2, rfl, by simp, hr2⟩) F J' N' a2 HL H V2 G d2 hG2.app
                  refine ⟨res, cf_on hc hpl h32 (lv := r.length + 1) (lv1 := r.length) (by rw [h41]; exact a1) (Or.inl ⟨rfl, by simpa only [List.length_cons, Nat.add_sub_cancel] using a⟩), ma_on hm hpl h32 (vn1 := (w1 ++ w2).length + 1) (gn1 := (k1 ++ k2).length) (by rw [h41]; exact go_end (gn1 := nb' + (k1 ++ k2).length) (by simpa [Nat.add_comm, Nat.add_left_comm, Nat.add_assoc] using b1) (by simp only [List.length_append]; omega) d1) (Or.inl ⟨rfl, by rw [decide_eq_false (not_not_intro h41)]; exact b⟩)⟩
            · exact ⟨_, cf_on hc hpl h32 (lv1 := r.length) (qu_noOn (hv p) h38 h124 h41 F J N (eT tn) (nI r.length) false) (Or.inr ⟨rfl, rfl⟩), ma_on hm hpl h32 (go_no (hv p) h38 h124 h41 V G _ _) (Or.inr ⟨rfl, rfl⟩)⟩
  · have hpe : p = L.length := by omega
    subst hpe
    rcases hQ with ⟨rfl, hQ⟩ | ⟨rfl, hQ⟩
    · refine ⟨_, cf_end hc (by omega), ?_⟩
      rw [if_neg (by simp)]
      exact ma_noBegin hm (by omega) (fun h => absurd h hpl)
    · obtain ⟨f, j, c, r, v', rfl, rfl, hsc, hn0, v1, g1, v2, g2, hLV, rfl, hgs, hr⟩ := hQ
      have htop := g2_top hr
      simp only [List.replicate_zero, List.nil_append] at hgs
      subst hgs
      simp only [List.length_cons, Nat.add_sub_cancel] at hll hvl ⊢
      obtain ⟨V', b1, b2⟩ := join_t hLV hsc htop hG hV (by omega) (by omega)
      simp only [List.length_append] at hgl hvl
      refine ⟨_, cf_end hc (by omega), ?_⟩
      have := ma_end hm (HL := HL) (H := H) (by omega) b1
      rcases hr with ⟨rfl, rfl, rfl⟩ | ⟨hr0, nb', g3, rfl, hQ⟩
      · rw [if_pos ⟨rfl, rfl⟩]
        simp only [List.length_nil, if_true] at this
        have e : V' 0 = F 0 ||| J 0 := by
          have e1 : V' 0 = f ||| (j &&& c) := b2.1
          have e2 : F 0 = f := hF.1
          have e3 : J 0 = j &&& c := hF.2.1
          rw [e1, e2, e3]
        rw [← e]; exact this
      · rw [if_neg (fun h => hr0 (List.eq_nil_of_length_eq_zero h.2))]
        rw [if_neg (by simp)] at this
        exact this
termination_by L.length - p
decreasing_by all_goals omega
theorem qu_find {tn : Nat} (h10 : tn ≤ 10) {E0 : Nat → Int32} {C0 : Int32} {L : List Nat} {VW : Nat → Int64} {VT : Nat → Int32} {VC : Int32} {ws : List (List Nat × Nat)} (hc : CX E0 C0 L VW VT VC (codes ws)) {SW : Int32} {Lt Ln Bt : Nat → Int32} {tC : Int32} {q : Nat → Int32} (hm : q_MX tn SW Lt Ln Bt tC q L ws) (F J N : Nat → Int32) (E Lv : Int32) (D : Bool) (HL : Int32) (H V G : Nat → Int32) (vc gc : Int32) :
    ∃ res, (∃ F' J' N' E' L' D', D_Query_find 40 1275 F J N E Lv D E0 C0 VW VT VC (nI tn) res F' J' N' E' L' D') ∧ (∃ HL' H' V' vc' G' gc', D_Model_answer HL H (nI tn) SW Lt Ln Bt tC q V vc G gc res HL' H' V' vc' G' gc') := by
  obtain ⟨F1, J1, N1, a1, a2⟩ := qu_begin (F := F) (J := J) (N := N) (r := []) trivial (by simp) (eT tn) D
  obtain ⟨res, ⟨F', J', N', E', L', D', m, b1⟩, ⟨HL', H', V', vc', G', gc', m2, b2⟩⟩ := q_sim hc hm (nI tn) 0 (by omega) true [(nI 0, eT tn, false)] 0 [] [] (by simp) (by simp) (by simp) (Or.inl ⟨rfl, by decide, [], [], [], [], .n00, rfl, rfl, Or.inl ⟨rfl, rfl, rfl⟩⟩) F1 J1 N1 a2 HL H V G trivial trivial
  have e : ((1 <<< (nI tn &&& 31)) - 1 : Int32) = eT tn := by
    simp (disch := omega) only [q_lit, le_T, le_F, lt_T, lt_F, eq_T, eq_F, m1_lt, m1_le, lt_m1, le_m1, eq_m1, m1_eq, nI_add, nI_sub, nI_dec, nI_mul, nI_or, nI_and, nI_div, nI_mod, and_255, and_31, and_1, and_63, nI_shl, nI_shr, bI_F, bI_1, vp_T, cl_T, true_implies, false_implies, not_true_eq_false, not_false_eq_true, true_and, and_true, false_and, and_false, Bool.false_eq_true, Bool.true_eq_false, reduceCtorEq, implies_true]
  refine ⟨res, ⟨F', J', N', E', L', D', m, F1, J1, N1, true, ?_, ?_⟩, ⟨HL', H', V', vc', G', gc', m2, ?_⟩⟩
  · rw [e]; exact a1
  · rw [e]; exact b1
  · exact b2
