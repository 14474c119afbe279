/-! Pure: search on the side of the reference, and both together. -/
theorem plc_at {l : List (Nat × Nat)} (hs : Srt l) {x k : Nat} (hk : k < l.length) (h : ce l k = x) : plc x l = k := (plc_uni (by omega) (fun i hi => by have := hs i k hi hk; omega) (fun _ => by omega)).symm
theorem t_tw {H Lt Ln Bt : Nat → Int32} {HL C : Int32} {w : List Nat} {m : List (List Nat × Nat)} (hh : q_Hd H HL w) (hw : q_Wd w) (hwl : w.length ≤ 12) (hm : MW 12 1280 Lt Ln Bt C m) (hs : Srt (codes m)) (k : Nat) (hk : k ≤ m.length) : ∃ q, T_Model_topicsWith HL H C Lt Ln Bt (nI (q_bitsOf (enc w) (codes m))) q (nI (if plw w m < k ∧ enc (mw m (plw w m)) = enc w then mb m (plw w m) else 0)) (nI k) := by
  have hpl : plw w m ≤ m.length := by rw [← codes_len m]; exact plc_le (enc w) (codes m)
  have hm' := hm
  obtain ⟨rfl, hl, hm2⟩ := hm
  by_cases h1 : k < m.length
  · obtain ⟨q, hq⟩ := t_tw hh hw hwl hm' hs (k + 1) h1
    have e := hm2 k h1
    refine ⟨q + 1, ?_⟩
    simp (disch := omega) only [T_Model_topicsWith, S_Model_topicsWith, B_Model_topicsWith_4, e.1, e.2.1, q_lit, le_T, le_F, lt_T, lt_F, eq_T, eq_F, m1_lt, m1_le, lt_m1, le_m1, eq_m1, m1_eq, nI_add, nI_sub, nI_dec, nI_mul, nI_or, nI_and, nI_div, nI_mod, and_255, and_31, and_1, and_63, nI_shl, nI_shr, bI_F, bI_1, vp_T, cl_T, true_implies, false_implies, not_true_eq_false, not_false_eq_true, true_and, and_true, false_and, and_false, Bool.false_eq_true, Bool.true_eq_false, reduceCtorEq, implies_true, q_lc_eq, q_lc_ge, q_lc_gt, q_lc_le, lN_or, lN_and, lN_shl, lN_shr, nI_L, lN_I, l_0]
    refine ⟨_, mo_ag_seenWordLetters hh hw e.2.2.1 (at0 := 12 * k) (by have := e.2.2.2.1; omega) e.2.2.2.2, ?_⟩
    rw [agn_eq hw e.2.2.1 (by have := e.2.2.2.1; omega) (Or.inl (by omega))]
    refine ⟨fun h2 => ?_, fun h2 => ?_⟩
    · have hp : plw w m = k := plc_at hs (by rw [codes_len]; exact h1) (by rw [codes_ce]; exact h2.symm)
      rw [hp, if_pos ⟨by omega, h2.symm⟩] at hq
      exact hq
    · have e2 : (plw w m < k + 1 ∧ enc (mw m (plw w m)) = enc w) ↔ (plw w m < k ∧ enc (mw m (plw w m)) = enc w) := by
        constructor
        · rintro ⟨a, b⟩
          refine ⟨?_, b⟩
          rcases Nat.lt_or_ge (plw w m) k with h3 | h3
          · exact h3
          · have : plw w m = k := by omega
            rw [this] at b
            exact absurd b.symm h2
        · rintro ⟨a, b⟩
          exact ⟨by omega, b⟩
      simp only [e2] at hq
      exact hq
  · refine ⟨1, ?_⟩
    have hkl : k = m.length := by omega
    subst hkl
    simp (disch := omega) only [T_Model_topicsWith, S_Model_topicsWith, B_Model_topicsWith_4, q_lit, le_T, le_F, lt_T, lt_F, eq_T, eq_F, m1_lt, m1_le, lt_m1, le_m1, eq_m1, m1_eq, nI_add, nI_sub, nI_dec, nI_mul, nI_or, nI_and, nI_div, nI_mod, and_255, and_31, and_1, and_63, nI_shl, nI_shr, bI_F, bI_1, vp_T, cl_T, true_implies, false_implies, not_true_eq_false, not_false_eq_true, true_and, and_true, false_and, and_false, Bool.false_eq_true, Bool.true_eq_false, reduceCtorEq, implies_true, q_lc_eq, q_lc_ge, q_lc_gt, q_lc_le, lN_or, lN_and, lN_shl, lN_shr, nI_L, lN_I, l_0]
    simp only [q_bitsOf, codes_len, codes_ce, codes_cb]
termination_by m.length - k
decreasing_by all_goals omega
theorem mo_tw {H Lt Ln Bt : Nat → Int32} {HL C : Int32} {w : List Nat} {m : List (List Nat × Nat)} (hh : q_Hd H HL w) (hw : q_Wd w) (hwl : w.length ≤ 12) (hm : MW 12 1280 Lt Ln Bt C m) (hs : Srt (codes m)) : D_Model_topicsWith HL H C Lt Ln Bt (nI (q_bitsOf (enc w) (codes m))) := by
  have := t_tw hh hw hwl hm hs 0 (by omega)
  simpa [D_Model_topicsWith, q_lit] using this
/-- what a search reads on the side of the reference -/
def q_MX (tn : Nat) (SW : Int32) (Lt Ln Bt : Nat → Int32) (tC : Int32) (q : Nat → Int32) (L : List Nat) (ws : List (List Nat × Nat)) : Prop := Rw 40 q tC L ∧ (∀ i, L.getD i 0 < 2147483648) ∧ MW 12 1280 Lt Ln Bt SW ws ∧ Srt (codes ws) ∧ tn ≤ 10 ∧ ∀ x, q_bitsOf x (codes ws) < 2 ^ tn
theorem sb_bits {tn b : Nat} (h : tn ≤ 10) (hb : b < 2 ^ tn) : q_sb (eT tn) (nI b) := by
  have h1 : tn % 32 = tn := Nat.mod_eq_of_lt (by omega)
  have h2 : 0 < 2 ^ tn := Nat.pow_pos (by omega)
  unfold q_sb eT
  rw [h1, Nat.one_shiftLeft, nI_sub (by omega), nI_and, Nat.and_two_pow_sub_one_eq_mod, Nat.mod_eq_of_lt hb]
theorem q_Wd.sm {w : List Nat} (h : ∀ x ∈ w, isLet x = true) : q_Wd (w.map smL) := by
  intro x hx
  obtain ⟨y, hy, rfl⟩ := List.mem_map.mp hx
  exact let_sm_eq (h y hy)
theorem letRun_let {L : List Nat} {k f : Nat} : ∀ x ∈ letRun L k f, isLet x = true := fun x hx => by
  have := List.all_takeWhile (l := (L.drop k).take (f - k)) (p := isLet)
  exact List.all_eq_true.mp this x hx
theorem q_Hd.app {H : Nat → Int32} {HL : Int32} {w : List Nat} (h : q_Hd H HL w) (hl : w.length < 40) (x : Nat) : q_Hd (upd H w.length (nI x)) (nI (w.length + 1)) (w ++ [x]) := by
  refine ⟨by simp, by simp; omega, fun j hj => ?_⟩
  simp only [List.length_append, List.length_cons, List.length_nil] at hj
  by_cases h2 : j = w.length
  · subst h2; simp [upd]
  · rw [upd_ne (by omega), h.2.2 j (by omega)]
    simp [List.getD_eq_getElem?_getD, List.getElem?_append_left (show j < w.length by omega)]
theorem t_rw {tn : Nat} {SW : Int32} {Lt Ln Bt : Nat → Int32} {tC : Int32} {q : Nat → Int32} {L : List Nat} {ws : List (List Nat × Nat)} (hx : q_MX tn SW Lt Ln Bt tC q L ws) {G V : Nat → Int32} {nb : Nat} {gs vs : List Int32} (hg : SR G (List.replicate nb (nI 33) ++ gs)) (hgt : ∀ x r, gs = x :: r → ¬ x = nI 33) (hl : nb + gs.length ≤ 42) (hvl : vs.length < 42) (hv : SR V vs)
    (k : Nat) (hk : k ≤ L.length) (w : List Nat) (hw : q_Wd w) (hwl : w.length ≤ 12) (H : Nat → Int32) (HL : Int32) (hh : q_Hd H HL w) :
    ∃ HL' H' V' m, T_Model_readWord (nI tn) SW Lt Ln Bt tC q G (nI (letEnd L k L.length)) HL' H' V' (nI (vs.length + 1)) (nI gs.length) m 0 (nI k) HL H V (nI vs.length) (nI (nb + gs.length)) ∧ SR V' (ngt (eT tn) nb (nI (q_bitsOf (enc (w ++ (letRun L k L.length).map smL)) (codes ws))) :: vs) := by
  obtain ⟨h1, hvv, h3, h4, h5, h6⟩ := hx
  have h1' := h1
  obtain ⟨rfl, a1, a2, a3⟩ := h1
  have q_fin : letRun L k L.length = [] → ∃ HL' H' V' m, T_Model_readWord (nI tn) SW Lt Ln Bt (nI L.length) q G (nI k) HL' H' V' (nI (vs.length + 1)) (nI gs.length) m 1 (nI k) HL H V (nI vs.length) (nI (nb + gs.length)) ∧ SR V' (ngt (eT tn) nb (nI (q_bitsOf (enc w) (codes ws))) :: vs) := by
    intro _
    obtain ⟨V', b1, b2⟩ := mo_negate (tn := tn) nb hg hgt hl hvl (nI (q_bitsOf (enc w) (codes ws))) (upd V vs.length (nI (q_bitsOf (enc w) (codes ws)))) (hv.push _)
    refine ⟨HL, H, V', 1, ?_, b2⟩
    simp (disch := omega) only [T_Model_readWord, S_Model_readWord, B_Model_readWord_70, q_lit, le_T, le_F, lt_T, lt_F, eq_T, eq_F, m1_lt, m1_le, lt_m1, le_m1, eq_m1, m1_eq, nI_add, nI_sub, nI_dec, nI_mul, nI_or, nI_and, nI_div, nI_mod, and_255, and_31, and_1, and_63, nI_shl, nI_shr, bI_F, bI_1, vp_T, cl_T, true_implies, false_implies, not_true_eq_false, not_false_eq_true, true_and, and_true, false_and, and_false, Bool.false_eq_true, Bool.true_eq_false, reduceCtorEq, implies_true, q_lc_eq, q_lc_ge, q_lc_gt, q_lc_le, lN_or, lN_and, lN_shl, lN_shr, nI_L, lN_I, l_0]
    refine ⟨_, mo_tw hh hw hwl h3 h4, _, _, b1, rfl, rfl⟩
  by_cases h7 : k < L.length
  · have e := a3 k h7
    cases h8 : isLet (L.getD k 0) with
    | false =>
      have e1 : letRun L k L.length = [] := letRun_stop (Or.inr h8)
      obtain ⟨HL', H', V', m, b1, b2⟩ := q_fin e1
      refine ⟨HL', H', V', m + 1, ?_, ?_⟩
      · rw [show letEnd L k L.length = k by simp [letEnd, e1]]
        simp (disch := omega) only [T_Model_readWord, S_Model_readWord, B_Model_readWord_7, e, q_lit, le_T, le_F, lt_T, lt_F, eq_T, eq_F, m1_lt, m1_le, lt_m1, le_m1, eq_m1, m1_eq, nI_add, nI_sub, nI_dec, nI_mul, nI_or, nI_and, nI_div, nI_mod, and_255, and_31, and_1, and_63, nI_shl, nI_shr, bI_F, bI_1, vp_T, cl_T, true_implies, false_implies, not_true_eq_false, not_false_eq_true, true_and, and_true, false_and, and_false, Bool.false_eq_true, Bool.true_eq_false, reduceCtorEq, implies_true, q_lc_eq, q_lc_ge, q_lc_gt, q_lc_le, lN_or, lN_and, lN_shl, lN_shr, nI_L, lN_I, l_0]
        refine ⟨_, mo_isLetter (hvv k), ?_⟩
        simp (disch := omega) only [h8, q_lit, le_T, le_F, lt_T, lt_F, eq_T, eq_F, m1_lt, m1_le, lt_m1, le_m1, eq_m1, m1_eq, nI_add, nI_sub, nI_dec, nI_mul, nI_or, nI_and, nI_div, nI_mod, and_255, and_31, and_1, and_63, nI_shl, nI_shr, bI_F, bI_1, vp_T, cl_T, true_implies, false_implies, not_true_eq_false, not_false_eq_true, true_and, and_true, false_and, and_false, Bool.false_eq_true, Bool.true_eq_false, reduceCtorEq, implies_true]
        exact b1
      · rw [e1]; simpa using b2
    | true =>
      have e1 := letRun_step (L := L) h7 h8
      have e2 : letEnd L k L.length = letEnd L (k + 1) L.length := by simp only [letEnd, e1, List.length_cons]; omega
      by_cases h9 : w.length < 12
      · obtain ⟨HL', H', V', m, b1, b2⟩ := t_rw ⟨h1', hvv, h3, h4, h5, h6⟩ hg hgt hl hvl hv (k + 1) h7 (w ++ [smL (L.getD k 0)]) (fun x hx => by
          simp only [List.mem_append, List.mem_singleton] at hx
          rcases hx with hx | hx
          · exact hw x hx
          · rw [hx]; exact let_sm_eq h8) (by simp; omega) _ _ (hh.app (by omega) (smL (L.getD k 0)))
        refine ⟨HL', H', V', m + 1, ?_, ?_⟩
        · rw [e2]
          have hHL := hh.1
          subst hHL
          simp (disch := omega) only [T_Model_readWord, S_Model_readWord, B_Model_readWord_7, e, q_lit, le_T, le_F, lt_T, lt_F, eq_T, eq_F, m1_lt, m1_le, lt_m1, le_m1, eq_m1, m1_eq, nI_add, nI_sub, nI_dec, nI_mul, nI_or, nI_and, nI_div, nI_mod, and_255, and_31, and_1, and_63, nI_shl, nI_shr, bI_F, bI_1, vp_T, cl_T, true_implies, false_implies, not_true_eq_false, not_false_eq_true, true_and, and_true, false_and, and_false, Bool.false_eq_true, Bool.true_eq_false, reduceCtorEq, implies_true, q_lc_eq, q_lc_ge, q_lc_gt, q_lc_le, lN_or, lN_and, lN_shl, lN_shr, nI_L, lN_I, l_0]
          refine ⟨_, mo_isLetter (hvv k), ?_⟩
          simp (disch := omega) only [h8, q_lit, le_T, le_F, lt_T, lt_F, eq_T, eq_F, m1_lt, m1_le, lt_m1, le_m1, eq_m1, m1_eq, nI_add, nI_sub, nI_dec, nI_mul, nI_or, nI_and, nI_div, nI_mod, and_255, and_31, and_1, and_63, nI_shl, nI_shr, bI_F, bI_1, vp_T, cl_T, true_implies, false_implies, not_true_eq_false, not_false_eq_true, true_and, and_true, false_and, and_false, Bool.false_eq_true, Bool.true_eq_false, reduceCtorEq, implies_true]
          exact ⟨_, mo_small (hvv k), b1⟩
        · rw [e1]; simpa using b2
      · obtain ⟨HL', H', V', m, b1, b2⟩ := t_rw ⟨h1', hvv, h3, h4, h5, h6⟩ hg hgt hl hvl hv (k + 1) h7 w hw hwl H HL hh
        refine ⟨HL', H', V', m + 1, ?_, ?_⟩
        · rw [e2]
          have hHL := hh.1
          subst hHL
          simp (disch := omega) only [T_Model_readWord, S_Model_readWord, B_Model_readWord_7, e, q_lit, le_T, le_F, lt_T, lt_F, eq_T, eq_F, m1_lt, m1_le, lt_m1, le_m1, eq_m1, m1_eq, nI_add, nI_sub, nI_dec, nI_mul, nI_or, nI_and, nI_div, nI_mod, and_255, and_31, and_1, and_63, nI_shl, nI_shr, bI_F, bI_1, vp_T, cl_T, true_implies, false_implies, not_true_eq_false, not_false_eq_true, true_and, and_true, false_and, and_false, Bool.false_eq_true, Bool.true_eq_false, reduceCtorEq, implies_true, q_lc_eq, q_lc_ge, q_lc_gt, q_lc_le, lN_or, lN_and, lN_shl, lN_shr, nI_L, lN_I, l_0]
          refine ⟨_, mo_isLetter (hvv k), ?_⟩
          simp (disch := omega) only [h8, q_lit, le_T, le_F, lt_T, lt_F, eq_T, eq_F, m1_lt, m1_le, lt_m1, le_m1, eq_m1, m1_eq, nI_add, nI_sub, nI_dec, nI_mul, nI_or, nI_and, nI_div, nI_mod, and_255, and_31, and_1, and_63, nI_shl, nI_shr, bI_F, bI_1, vp_T, cl_T, true_implies, false_implies, not_true_eq_false, not_false_eq_true, true_and, and_true, false_and, and_false, Bool.false_eq_true, Bool.true_eq_false, reduceCtorEq, implies_true]
          exact b1
        · rw [show enc (w ++ (letRun L (k + 1) L.length).map smL) = enc w from encA_app_ge 12 _ _ (by omega)] at b2
          rw [show enc (w ++ (letRun L k L.length).map smL) = enc w from encA_app_ge 12 _ _ (by omega)]
          exact b2
  · have e1 : letRun L k L.length = [] := letRun_stop (Or.inl (by omega))
    obtain ⟨HL', H', V', m, b1, b2⟩ := q_fin e1
    refine ⟨HL', H', V', m + 1, ?_, ?_⟩
    · rw [show letEnd L k L.length = k by simp [letEnd, e1]]
      simp (disch := omega) only [T_Model_readWord, S_Model_readWord, B_Model_readWord_7, q_lit, le_T, le_F, lt_T, lt_F, eq_T, eq_F, m1_lt, m1_le, lt_m1, le_m1, eq_m1, m1_eq, nI_add, nI_sub, nI_dec, nI_mul, nI_or, nI_and, nI_div, nI_mod, and_255, and_31, and_1, and_63, nI_shl, nI_shr, bI_F, bI_1, vp_T, cl_T, true_implies, false_implies, not_true_eq_false, not_false_eq_true, true_and, and_true, false_and, and_false, Bool.false_eq_true, Bool.true_eq_false, reduceCtorEq, implies_true, q_lc_eq, q_lc_ge, q_lc_gt, q_lc_le, lN_or, lN_and, lN_shl, lN_shr, nI_L, lN_I, l_0]
      exact b1
    · rw [e1]; simpa using b2
termination_by L.length - k
decreasing_by all_goals omega
def q_MA (tn : Nat) (SW : Int32) (Lt Ln Bt : Nat → Int32) (tC : Int32) (q : Nat → Int32) (res : Int32) (p : Nat) (due : Bool) (HL : Int32) (H V : Nat → Int32) (vn : Nat) (G : Nat → Int32) (gn : Nat) : Prop := ∃ HL' H' V' vc G' gc m, T_Model_answer (nI tn) SW Lt Ln Bt tC q res HL' H' V' vc G' gc m 0 (!due) (nI p) HL H V (nI vn) G (nI gn)
theorem q_Hd.nil (H : Nat → Int32) : q_Hd H (nI 0) [] := ⟨rfl, by simp, fun j hj => absurd hj (by simp)⟩
theorem ma_word {tn : Nat} {SW : Int32} {Lt Ln Bt : Nat → Int32} {tC : Int32} {q : Nat → Int32} {L : List Nat} {ws : List (List Nat × Nat)} (hx : q_MX tn SW Lt Ln Bt tC q L ws) {G V : Nat → Int32} {nb : Nat} {gs vs : List Int32} (hg : SR G (List.replicate nb (nI 33) ++ gs)) (hgt : ∀ x r, gs = x :: r → ¬ x = nI 33) (hl : nb + gs.length ≤ 42) (hvl : vs.length < 42) (hv : SR V vs)
    {p : Nat} (hp : p < L.length) (hlet : isLet (L.getD p 0) = true) (HL : Int32) (H : Nat → Int32) :
    ∃ HL' H' V', SR V' (ngt (eT tn) nb (nI (q_bitsOf (enc (letRun L p L.length)) (codes ws))) :: vs) ∧ ∀ res, q_MA tn SW Lt Ln Bt tC q res (letEnd L p L.length) false HL' H' V' (vs.length + 1) G gs.length → q_MA tn SW Lt Ln Bt tC q res p true HL H V vs.length G (nb + gs.length) := by
  obtain ⟨HL', H', V', m, b1, b2⟩ := t_rw hx hg hgt hl hvl hv p (by omega) [] (fun x hx => by simp at hx) (by simp) H (nI 0) (q_Hd.nil H)
  rw [List.nil_append, show enc ((letRun L p L.length).map smL) = enc (letRun L p L.length) from encA_sm 12 _] at b2
  refine ⟨HL', H', V', b2, ?_⟩
  rintro res ⟨HL9, H9, V9, vc9, G9, gc9, m9, hm9⟩
  obtain ⟨h1, hvv, h3, h4, h5, h6⟩ := hx
  have h1' := h1
  obtain ⟨rfl, a1, a2, a3⟩ := h1
  have e := a3 p hp
  have h32 : ¬ L.getD p 0 = 32 := fun h => by rw [h] at hlet; exact absurd hlet (by decide)
  have hv9 := hvv p
  have hle : letEnd L p L.length < 2147483648 := by
    have : (letRun L p L.length).length ≤ L.length - p := by
      unfold letRun
      exact Nat.le_trans (List.takeWhile_sublist _).length_le (by simp)
    unfold letEnd; omega
  refine ⟨HL9, H9, V9, vc9, G9, gc9, m9 + 2, ?_⟩
  simp (disch := omega) only [T_Model_answer, S_Model_answer, B_Model_answer_14, B_Model_answer_39, e, Bool.not_true, q_lit, le_T, le_F, lt_T, lt_F, eq_T, eq_F, m1_lt, m1_le, lt_m1, le_m1, eq_m1, m1_eq, nI_add, nI_sub, nI_dec, nI_mul, nI_or, nI_and, nI_div, nI_mod, and_255, and_31, and_1, and_63, nI_shl, nI_shr, bI_F, bI_1, vp_T, cl_T, true_implies, false_implies, not_true_eq_false, not_false_eq_true, true_and, and_true, false_and, and_false, Bool.false_eq_true, Bool.true_eq_false, reduceCtorEq, implies_true, q_lc_eq, q_lc_ge, q_lc_gt, q_lc_le, lN_or, lN_and, lN_shl, lN_shr, nI_L, lN_I, l_0]
  refine ⟨nI (letEnd L p L.length), HL', H', V', nI (vs.length + 1), G, nI gs.length, ?_, ?_⟩
  · refine ⟨1, ?_⟩
    simp (disch := omega) only [T_Model_begin, S_Model_begin, B_Model_begin_19, e, q_lit, le_T, le_F, lt_T, lt_F, eq_T, eq_F, m1_lt, m1_le, lt_m1, le_m1, eq_m1, m1_eq, nI_add, nI_sub, nI_dec, nI_mul, nI_or, nI_and, nI_div, nI_mod, and_255, and_31, and_1, and_63, nI_shl, nI_shr, bI_F, bI_1, vp_T, cl_T, true_implies, false_implies, not_true_eq_false, not_false_eq_true, true_and, and_true, false_and, and_false, Bool.false_eq_true, Bool.true_eq_false, reduceCtorEq, implies_true, q_lc_eq, q_lc_ge, q_lc_gt, q_lc_le, lN_or, lN_and, lN_shl, lN_shr, nI_L, lN_I, l_0]
    refine ⟨_, mo_isLetter (hvv p), ?_⟩
    simp (disch := omega) only [hlet, q_lit, le_T, le_F, lt_T, lt_F, eq_T, eq_F, m1_lt, m1_le, lt_m1, le_m1, eq_m1, m1_eq, nI_add, nI_sub, nI_dec, nI_mul, nI_or, nI_and, nI_div, nI_mod, and_255, and_31, and_1, and_63, nI_shl, nI_shr, bI_F, bI_1, vp_T, cl_T, true_implies, false_implies, not_true_eq_false, not_false_eq_true, true_and, and_true, false_and, and_false, Bool.false_eq_true, Bool.true_eq_false, reduceCtorEq, implies_true]
    exact ⟨_, _, _, _, _, _, ⟨m, b1⟩, rfl, rfl, rfl, rfl, rfl, rfl⟩
  · simp (disch := omega) only [q_lit, le_T, le_F, lt_T, lt_F, eq_T, eq_F, m1_lt, m1_le, lt_m1, le_m1, eq_m1, m1_eq, nI_add, nI_sub, nI_dec, nI_mul, nI_or, nI_and, nI_div, nI_mod, and_255, and_31, and_1, and_63, nI_shl, nI_shr, bI_F, bI_1, vp_T, cl_T, true_implies, false_implies, not_true_eq_false, not_false_eq_true, true_and, and_true, false_and, and_false, Bool.false_eq_true, Bool.true_eq_false, reduceCtorEq, implies_true]
    refine ⟨_, mo_isLetter (hvv p), ?_⟩
    rw [hlet]
    exact hm9
theorem ma_blank {tn : Nat} {SW : Int32} {Lt Ln Bt : Nat → Int32} {tC : Int32} {q : Nat → Int32} {L : List Nat} {ws : List (List Nat × Nat)} (hx : q_MX tn SW Lt Ln Bt tC q L ws) {p : Nat} (hp : p < L.length) (hb : L.getD p 0 = 32) {res HL : Int32} {H V G : Nat → Int32} {vn gn : Nat} {due : Bool}
    (hk : q_MA tn SW Lt Ln Bt tC q res (p + 1) due HL H V vn G gn) : q_MA tn SW Lt Ln Bt tC q res p due HL H V vn G gn := by
  obtain ⟨h1, hvv, h3, h4, h5, h6⟩ := hx
  obtain ⟨rfl, a1, a2, a3⟩ := h1
  have e := a3 p hp
  obtain ⟨HL9, H9, V9, vc9, G9, gc9, m9, hm9⟩ := hk
  refine ⟨HL9, H9, V9, vc9, G9, gc9, m9 + 1, ?_⟩
  simp (disch := omega) only [T_Model_answer, S_Model_answer, B_Model_answer_14, e, hb, q_lit, le_T, le_F, lt_T, lt_F, eq_T, eq_F, m1_lt, m1_le, lt_m1, le_m1, eq_m1, m1_eq, nI_add, nI_sub, nI_dec, nI_mul, nI_or, nI_and, nI_div, nI_mod, and_255, and_31, and_1, and_63, nI_shl, nI_shr, bI_F, bI_1, vp_T, cl_T, true_implies, false_implies, not_true_eq_false, not_false_eq_true, true_and, and_true, false_and, and_false, Bool.false_eq_true, Bool.true_eq_false, reduceCtorEq, implies_true, q_lc_eq, q_lc_ge, q_lc_gt, q_lc_le, lN_or, lN_and, lN_shl, lN_shr, nI_L, lN_I, l_0]
  exact hm9
/-- a sign that opens is noted -/
theorem ma_note {tn : Nat} {SW : Int32} {Lt Ln Bt : Nat → Int32} {tC : Int32} {q : Nat → Int32} {L : List Nat} {ws : List (List Nat × Nat)} (hx : q_MX tn SW Lt Ln Bt tC q L ws) {p : Nat} (hp : p < L.length) (hb : L.getD p 0 = 33 ∨ L.getD p 0 = 40) {res HL : Int32} {H V G : Nat → Int32} {vn gn : Nat} (hgn : gn < 42)
    (hk : q_MA tn SW Lt Ln Bt tC q res (p + 1) true HL H V vn (upd G gn (nI (L.getD p 0))) (gn + 1)) : q_MA tn SW Lt Ln Bt tC q res p true HL H V vn G gn := by
  obtain ⟨h1, hvv, h3, h4, h5, h6⟩ := hx
  have h1' := h1
  obtain ⟨rfl, a1, a2, a3⟩ := h1
  have e := a3 p hp
  have hlet : isLet (L.getD p 0) = false := by rcases hb with hb | hb <;> (rw [hb]; decide)
  obtain ⟨HL9, H9, V9, vc9, G9, gc9, m9, hm9⟩ := hk
  refine ⟨HL9, H9, V9, vc9, G9, gc9, m9 + 2, ?_⟩
  have hx2 : ¬ L.getD p 0 = 32 := by omega
  have hv9 := hvv p
  simp (disch := omega) only [T_Model_answer, S_Model_answer, B_Model_answer_14, B_Model_answer_39, e, Bool.not_true, q_lit, le_T, le_F, lt_T, lt_F, eq_T, eq_F, m1_lt, m1_le, lt_m1, le_m1, eq_m1, m1_eq, nI_add, nI_sub, nI_dec, nI_mul, nI_or, nI_and, nI_div, nI_mod, and_255, and_31, and_1, and_63, nI_shl, nI_shr, bI_F, bI_1, vp_T, cl_T, true_implies, false_implies, not_true_eq_false, not_false_eq_true, true_and, and_true, false_and, and_false, Bool.false_eq_true, Bool.true_eq_false, reduceCtorEq, implies_true, q_lc_eq, q_lc_ge, q_lc_gt, q_lc_le, lN_or, lN_and, lN_shl, lN_shr, nI_L, lN_I, l_0]
  refine ⟨nI (p + 1), HL, H, V, nI vn, upd G gn (nI (L.getD p 0)), nI (gn + 1), ?_, ?_⟩
  · refine ⟨2, ?_⟩
    have q_fin : T_Model_begin (nI tn) SW Lt Ln Bt (nI L.length) q (nI (p + 1)) HL H V (nI vn) (upd G gn (nI (L.getD p 0))) (nI (gn + 1)) 1 1 (nI p) (nI (L.getD p 0)) HL H V (nI vn) G (nI gn) := by
      simp (disch := omega) only [T_Model_begin, S_Model_begin, B_Model_begin_46, D_Model_note, q_lit, le_T, le_F, lt_T, lt_F, eq_T, eq_F, m1_lt, m1_le, lt_m1, le_m1, eq_m1, m1_eq, nI_add, nI_sub, nI_dec, nI_mul, nI_or, nI_and, nI_div, nI_mod, and_255, and_31, and_1, and_63, nI_shl, nI_shr, bI_F, bI_1, vp_T, cl_T, true_implies, false_implies, not_true_eq_false, not_false_eq_true, true_and, and_true, false_and, and_false, Bool.false_eq_true, Bool.true_eq_false, reduceCtorEq, implies_true, q_lc_eq, q_lc_ge, q_lc_gt, q_lc_le, lN_or, lN_and, lN_shl, lN_shr, nI_L, lN_I, l_0]
      exact ⟨_, _, ⟨rfl, rfl⟩, rfl, rfl⟩
    rcases hb with hb | hb
    · rw [hb] at q_fin e ⊢
      refine ⟨fun h9 => ?_, fun _ => ⟨vp_in_nI (by omega) (by omega), ?_⟩⟩
      · exfalso; revert h9; simp (disch := omega) only [q_lit, le_T, le_F, lt_T, lt_F, eq_T, eq_F, m1_lt, m1_le, lt_m1, le_m1, eq_m1, m1_eq, nI_add, nI_sub, nI_dec, nI_mul, nI_or, nI_and, nI_div, nI_mod, and_255, and_31, and_1, and_63, nI_shl, nI_shr, bI_F, bI_1, vp_T, cl_T, true_implies, false_implies, not_true_eq_false, not_false_eq_true, true_and, and_true, false_and, and_false, Bool.false_eq_true, Bool.true_eq_false, reduceCtorEq, implies_true]
      · rw [nI_clamp (by omega), e]
        exact ⟨_, mo_isLetter (by omega), by simp (disch := omega) only [show isLet 33 = false from by decide, q_lit, le_T, le_F, lt_T, lt_F, eq_T, eq_F, m1_lt, m1_le, lt_m1, le_m1, eq_m1, m1_eq, nI_add, nI_sub, nI_dec, nI_mul, nI_or, nI_and, nI_div, nI_mod, and_255, and_31, and_1, and_63, nI_shl, nI_shr, bI_F, bI_1, vp_T, cl_T, true_implies, false_implies, not_true_eq_false, not_false_eq_true, true_and, and_true, false_and, and_false, Bool.false_eq_true, Bool.true_eq_false, reduceCtorEq, implies_true]; exact q_fin⟩
    · rw [hb] at q_fin e ⊢
      refine ⟨fun h9 => ?_, fun _ => ⟨vp_in_nI (by omega) (by omega), ?_⟩⟩
      · exfalso; revert h9; simp (disch := omega) only [q_lit, le_T, le_F, lt_T, lt_F, eq_T, eq_F, m1_lt, m1_le, lt_m1, le_m1, eq_m1, m1_eq, nI_add, nI_sub, nI_dec, nI_mul, nI_or, nI_and, nI_div, nI_mod, and_255, and_31, and_1, and_63, nI_shl, nI_shr, bI_F, bI_1, vp_T, cl_T, true_implies, false_implies, not_true_eq_false, not_false_eq_true, true_and, and_true, false_and, and_false, Bool.false_eq_true, Bool.true_eq_false, reduceCtorEq, implies_true]
      · rw [nI_clamp (by omega), e]
        exact ⟨_, mo_isLetter (by omega), by simp (disch := omega) only [show isLet 40 = false from by decide, q_lit, le_T, le_F, lt_T, lt_F, eq_T, eq_F, m1_lt, m1_le, lt_m1, le_m1, eq_m1, m1_eq, nI_add, nI_sub, nI_dec, nI_mul, nI_or, nI_and, nI_div, nI_mod, and_255, and_31, and_1, and_63, nI_shl, nI_shr, bI_F, bI_1, vp_T, cl_T, true_implies, false_implies, not_true_eq_false, not_false_eq_true, true_and, and_true, false_and, and_false, Bool.false_eq_true, Bool.true_eq_false, reduceCtorEq, implies_true]; exact q_fin⟩
  · simp (disch := omega) only [q_lit, le_T, le_F, lt_T, lt_F, eq_T, eq_F, m1_lt, m1_le, lt_m1, le_m1, eq_m1, m1_eq, nI_add, nI_sub, nI_dec, nI_mul, nI_or, nI_and, nI_div, nI_mod, and_255, and_31, and_1, and_63, nI_shl, nI_shr, bI_F, bI_1, vp_T, cl_T, true_implies, false_implies, not_true_eq_false, not_false_eq_true, true_and, and_true, false_and, and_false, Bool.false_eq_true, Bool.true_eq_false, reduceCtorEq, implies_true]
    refine ⟨_, mo_isLetter (hvv p), ?_⟩
    rw [hlet]
    exact hm9
/-- nothing opens here -/
theorem ma_noBegin {tn : Nat} {SW : Int32} {Lt Ln Bt : Nat → Int32} {tC : Int32} {q : Nat → Int32} {L : List Nat} {ws : List (List Nat × Nat)} (hx : q_MX tn SW Lt Ln Bt tC q L ws) {p : Nat} (hp : p ≤ L.length) (hb : p < L.length → ¬ L.getD p 0 = 33 ∧ ¬ L.getD p 0 = 40 ∧ ¬ L.getD p 0 = 32 ∧ isLet (L.getD p 0) = false) {HL : Int32} {H V G : Nat → Int32} {vn gn : Nat} :
    q_MA tn SW Lt Ln Bt tC q (-nI 1 - nI p) p true HL H V vn G gn := by
  obtain ⟨h1, hvv, h3, h4, h5, h6⟩ := hx
  obtain ⟨rfl, a1, a2, a3⟩ := h1
  refine ⟨HL, H, V, nI vn, G, nI gn, 2, ?_⟩
  by_cases h7 : p < L.length
  · have e := a3 p h7
    obtain ⟨b1, b2, b3, b4⟩ := hb h7
    have hv9 := hvv p
    simp (disch := omega) only [T_Model_answer, S_Model_answer, B_Model_answer_14, B_Model_answer_39, e, Bool.not_true, q_lit, le_T, le_F, lt_T, lt_F, eq_T, eq_F, m1_lt, m1_le, lt_m1, le_m1, eq_m1, m1_eq, nI_add, nI_sub, nI_dec, nI_mul, nI_or, nI_and, nI_div, nI_mod, and_255, and_31, and_1, and_63, nI_shl, nI_shr, bI_F, bI_1, vp_T, cl_T, true_implies, false_implies, not_true_eq_false, not_false_eq_true, true_and, and_true, false_and, and_false, Bool.false_eq_true, Bool.true_eq_false, reduceCtorEq, implies_true, q_lc_eq, q_lc_ge, q_lc_gt, q_lc_le, lN_or, lN_and, lN_shl, lN_shr, nI_L, lN_I, l_0]
    refine ⟨-nI 1, HL, H, V, nI vn, G, nI gn, ⟨1, ?_⟩, ?_⟩
    · simp (disch := omega) only [T_Model_begin, S_Model_begin, B_Model_begin_19, e, q_lit, le_T, le_F, lt_T, lt_F, eq_T, eq_F, m1_lt, m1_le, lt_m1, le_m1, eq_m1, m1_eq, nI_add, nI_sub, nI_dec, nI_mul, nI_or, nI_and, nI_div, nI_mod, and_255, and_31, and_1, and_63, nI_shl, nI_shr, bI_F, bI_1, vp_T, cl_T, true_implies, false_implies, not_true_eq_false, not_false_eq_true, true_and, and_true, false_and, and_false, Bool.false_eq_true, Bool.true_eq_false, reduceCtorEq, implies_true, q_lc_eq, q_lc_ge, q_lc_gt, q_lc_le, lN_or, lN_and, lN_shl, lN_shr, nI_L, lN_I, l_0]
      refine ⟨_, mo_isLetter (hvv p), ?_⟩
      simp (disch := omega) only [b4, q_lit, le_T, le_F, lt_T, lt_F, eq_T, eq_F, m1_lt, m1_le, lt_m1, le_m1, eq_m1, m1_eq, nI_add, nI_sub, nI_dec, nI_mul, nI_or, nI_and, nI_div, nI_mod, and_255, and_31, and_1, and_63, nI_shl, nI_shr, bI_F, bI_1, vp_T, cl_T, true_implies, false_implies, not_true_eq_false, not_false_eq_true, true_and, and_true, false_and, and_false, Bool.false_eq_true, Bool.true_eq_false, reduceCtorEq, implies_true]
    · simp (disch := omega) only [q_lit, le_T, le_F, lt_T, lt_F, eq_T, eq_F, m1_lt, m1_le, lt_m1, le_m1, eq_m1, m1_eq, nI_add, nI_sub, nI_dec, nI_mul, nI_or, nI_and, nI_div, nI_mod, and_255, and_31, and_1, and_63, nI_shl, nI_shr, bI_F, bI_1, vp_T, cl_T, true_implies, false_implies, not_true_eq_false, not_false_eq_true, true_and, and_true, false_and, and_false, Bool.false_eq_true, Bool.true_eq_false, reduceCtorEq, implies_true]
  · simp (disch := omega) only [T_Model_answer, S_Model_answer, B_Model_answer_14, B_Model_answer_39, Bool.not_true, q_lit, le_T, le_F, lt_T, lt_F, eq_T, eq_F, m1_lt, m1_le, lt_m1, le_m1, eq_m1, m1_eq, nI_add, nI_sub, nI_dec, nI_mul, nI_or, nI_and, nI_div, nI_mod, and_255, and_31, and_1, and_63, nI_shl, nI_shr, bI_F, bI_1, vp_T, cl_T, true_implies, false_implies, not_true_eq_false, not_false_eq_true, true_and, and_true, false_and, and_false, Bool.false_eq_true, Bool.true_eq_false, reduceCtorEq, implies_true, q_lc_eq, q_lc_ge, q_lc_gt, q_lc_le, lN_or, lN_and, lN_shl, lN_shr, nI_L, lN_I, l_0]
    refine ⟨-nI 1, HL, H, V, nI vn, G, nI gn, ⟨1, ?_⟩, ?_⟩
    · simp (disch := omega) only [T_Model_begin, S_Model_begin, B_Model_begin_19, q_lit, le_T, le_F, lt_T, lt_F, eq_T, eq_F, m1_lt, m1_le, lt_m1, le_m1, eq_m1, m1_eq, nI_add, nI_sub, nI_dec, nI_mul, nI_or, nI_and, nI_div, nI_mod, and_255, and_31, and_1, and_63, nI_shl, nI_shr, bI_F, bI_1, vp_T, cl_T, true_implies, false_implies, not_true_eq_false, not_false_eq_true, true_and, and_true, false_and, and_false, Bool.false_eq_true, Bool.true_eq_false, reduceCtorEq, implies_true, q_lc_eq, q_lc_ge, q_lc_gt, q_lc_le, lN_or, lN_and, lN_shl, lN_shr, nI_L, lN_I, l_0]
      refine ⟨_, mo_isLetter (by omega), ?_⟩
      simp (disch := omega) only [show isLet 0 = false from by decide, q_lit, le_T, le_F, lt_T, lt_F, eq_T, eq_F, m1_lt, m1_le, lt_m1, le_m1, eq_m1, m1_eq, nI_add, nI_sub, nI_dec, nI_mul, nI_or, nI_and, nI_div, nI_mod, and_255, and_31, and_1, and_63, nI_shl, nI_shr, bI_F, bI_1, vp_T, cl_T, true_implies, false_implies, not_true_eq_false, not_false_eq_true, true_and, and_true, false_and, and_false, Bool.false_eq_true, Bool.true_eq_false, reduceCtorEq, implies_true]
    · simp (disch := omega) only [q_lit, le_T, le_F, lt_T, lt_F, eq_T, eq_F, m1_lt, m1_le, lt_m1, le_m1, eq_m1, m1_eq, nI_add, nI_sub, nI_dec, nI_mul, nI_or, nI_and, nI_div, nI_mod, and_255, and_31, and_1, and_63, nI_shl, nI_shr, bI_F, bI_1, vp_T, cl_T, true_implies, false_implies, not_true_eq_false, not_false_eq_true, true_and, and_true, false_and, and_false, Bool.false_eq_true, Bool.true_eq_false, reduceCtorEq, implies_true]
theorem ma_on {tn : Nat} {SW : Int32} {Lt Ln Bt : Nat → Int32} {tC : Int32} {q : Nat → Int32} {L : List Nat} {ws : List (List Nat × Nat)} (hx : q_MX tn SW Lt Ln Bt tC q L ws) {p : Nat} (hp : p < L.length) (hb : ¬ L.getD p 0 = 32) {HL : Int32} {H V G V1 G1 : Nat → Int32} {vn gn vn1 gn1 : Nat} {b1 : Bool} {res : Int32} (hg : D_Model_goOn (nI (L.getD p 0)) (nI tn) V (nI vn) G (nI gn) b1 V1 (nI vn1) G1 (nI gn1))
    (hk : (b1 = true ∧ q_MA tn SW Lt Ln Bt tC q res (p + 1) (decide (¬ L.getD p 0 = 41)) HL H V1 vn1 G1 gn1) ∨ (b1 = false ∧ res = -nI 1 - nI p)) : q_MA tn SW Lt Ln Bt tC q res p false HL H V vn G gn := by
  obtain ⟨h1, hvv, h3, h4, h5, h6⟩ := hx
  obtain ⟨rfl, a1, a2, a3⟩ := h1
  have e := a3 p hp
  have hv9 := hvv p
  have hpl : ¬ p = L.length := by omega
  rcases hk with ⟨rfl, HL9, H9, V9, vc9, G9, gc9, m9, hm9⟩ | ⟨rfl, rfl⟩
  · refine ⟨HL9, H9, V9, vc9, G9, gc9, m9 + 2, ?_⟩
    simp (disch := omega) only [T_Model_answer, S_Model_answer, B_Model_answer_14, B_Model_answer_39, e, Bool.not_false, q_lit, le_T, le_F, lt_T, lt_F, eq_T, eq_F, m1_lt, m1_le, lt_m1, le_m1, eq_m1, m1_eq, nI_add, nI_sub, nI_dec, nI_mul, nI_or, nI_and, nI_div, nI_mod, and_255, and_31, and_1, and_63, nI_shl, nI_shr, bI_F, bI_1, vp_T, cl_T, true_implies, false_implies, not_true_eq_false, not_false_eq_true, true_and, and_true, false_and, and_false, Bool.false_eq_true, Bool.true_eq_false, reduceCtorEq, implies_true, q_lc_eq, q_lc_ge, q_lc_gt, q_lc_le, lN_or, lN_and, lN_shl, lN_shr, nI_L, lN_I, l_0]
    refine ⟨_, _, _, _, _, hg, ?_⟩
    by_cases h41 : L.getD p 0 = 41
    · rw [decide_eq_false (not_not_intro h41)] at hm9
      simp (disch := omega) only [q_lit, le_T, le_F, lt_T, lt_F, eq_T, eq_F, m1_lt, m1_le, lt_m1, le_m1, eq_m1, m1_eq, nI_add, nI_sub, nI_dec, nI_mul, nI_or, nI_and, nI_div, nI_mod, and_255, and_31, and_1, and_63, nI_shl, nI_shr, bI_F, bI_1, vp_T, cl_T, true_implies, false_implies, not_true_eq_false, not_false_eq_true, true_and, and_true, false_and, and_false, Bool.false_eq_true, Bool.true_eq_false, reduceCtorEq, implies_true]
      exact hm9
    · rw [decide_eq_true h41] at hm9
      simp (disch := omega) only [q_lit, le_T, le_F, lt_T, lt_F, eq_T, eq_F, m1_lt, m1_le, lt_m1, le_m1, eq_m1, m1_eq, nI_add, nI_sub, nI_dec, nI_mul, nI_or, nI_and, nI_div, nI_mod, and_255, and_31, and_1, and_63, nI_shl, nI_shr, bI_F, bI_1, vp_T, cl_T, true_implies, false_implies, not_true_eq_false, not_false_eq_true, true_and, and_true, false_and, and_false, Bool.false_eq_true, Bool.true_eq_false, reduceCtorEq, implies_true]
      exact hm9
  · refine ⟨HL, H, V1, nI vn1, G1, nI gn1, 2, ?_⟩
    simp (disch := omega) only [T_Model_answer, S_Model_answer, B_Model_answer_14, B_Model_answer_39, e, Bool.not_false, q_lit, le_T, le_F, lt_T, lt_F, eq_T, eq_F, m1_lt, m1_le, lt_m1, le_m1, eq_m1, m1_eq, nI_add, nI_sub, nI_dec, nI_mul, nI_or, nI_and, nI_div, nI_mod, and_255, and_31, and_1, and_63, nI_shl, nI_shr, bI_F, bI_1, vp_T, cl_T, true_implies, false_implies, not_true_eq_false, not_false_eq_true, true_and, and_true, false_and, and_false, Bool.false_eq_true, Bool.true_eq_false, reduceCtorEq, implies_true, q_lc_eq, q_lc_ge, q_lc_gt, q_lc_le, lN_or, lN_and, lN_shl, lN_shr, nI_L, lN_I, l_0]
    exact ⟨_, _, _, _, _, hg, by simp (disch := omega) only [q_lit, le_T, le_F, lt_T, lt_F, eq_T, eq_F, m1_lt, m1_le, lt_m1, le_m1, eq_m1, m1_eq, nI_add, nI_sub, nI_dec, nI_mul, nI_or, nI_and, nI_div, nI_mod, and_255, and_31, and_1, and_63, nI_shl, nI_shr, bI_F, bI_1, vp_T, cl_T, true_implies, false_implies, not_true_eq_false, not_false_eq_true, true_and, and_true, false_and, and_false, Bool.false_eq_true, Bool.true_eq_false, reduceCtorEq, implies_true]⟩
theorem ma_end {tn : Nat} {SW : Int32} {Lt Ln Bt : Nat → Int32} {tC : Int32} {q : Nat → Int32} {L : List Nat} {ws : List (List Nat × Nat)} (hx : q_MX tn SW Lt Ln Bt tC q L ws) {HL : Int32} {H V G V1 : Nat → Int32} {vn gn vn1 gn1 : Nat} (hgn : gn1 < 2147483648) (hj : D_Model_join true V (nI vn) G (nI gn) V1 (nI vn1) (nI gn1)) :
    q_MA tn SW Lt Ln Bt tC q (if gn1 = 0 then V1 0 else -nI 1 - nI L.length) L.length false HL H V vn G gn := by
  obtain ⟨h1, hvv, h3, h4, h5, h6⟩ := hx
  obtain ⟨rfl, a1, a2, a3⟩ := h1
  refine ⟨HL, H, V1, nI vn1, G, nI gn1, 2, ?_⟩
  by_cases h0 : gn1 = 0
  · rw [if_pos h0]
    simp (disch := omega) only [T_Model_answer, S_Model_answer, B_Model_answer_14, B_Model_answer_39, Bool.not_false, q_lit, le_T, le_F, lt_T, lt_F, eq_T, eq_F, m1_lt, m1_le, lt_m1, le_m1, eq_m1, m1_eq, nI_add, nI_sub, nI_dec, nI_mul, nI_or, nI_and, nI_div, nI_mod, and_255, and_31, and_1, and_63, nI_shl, nI_shr, bI_F, bI_1, vp_T, cl_T, true_implies, false_implies, not_true_eq_false, not_false_eq_true, true_and, and_true, false_and, and_false, Bool.false_eq_true, Bool.true_eq_false, reduceCtorEq, implies_true, q_lc_eq, q_lc_ge, q_lc_gt, q_lc_le, lN_or, lN_and, lN_shl, lN_shr, nI_L, lN_I, l_0]
    exact ⟨_, _, _, hj, by simp (disch := omega) only [q_lit, le_T, le_F, lt_T, lt_F, eq_T, eq_F, m1_lt, m1_le, lt_m1, le_m1, eq_m1, m1_eq, nI_add, nI_sub, nI_dec, nI_mul, nI_or, nI_and, nI_div, nI_mod, and_255, and_31, and_1, and_63, nI_shl, nI_shr, bI_F, bI_1, vp_T, cl_T, true_implies, false_implies, not_true_eq_false, not_false_eq_true, true_and, and_true, false_and, and_false, Bool.false_eq_true, Bool.true_eq_false, reduceCtorEq, implies_true]⟩
  · rw [if_neg h0]
    simp (disch := omega) only [T_Model_answer, S_Model_answer, B_Model_answer_14, B_Model_answer_39, Bool.not_false, q_lit, le_T, le_F, lt_T, lt_F, eq_T, eq_F, m1_lt, m1_le, lt_m1, le_m1, eq_m1, m1_eq, nI_add, nI_sub, nI_dec, nI_mul, nI_or, nI_and, nI_div, nI_mod, and_255, and_31, and_1, and_63, nI_shl, nI_shr, bI_F, bI_1, vp_T, cl_T, true_implies, false_implies, not_true_eq_false, not_false_eq_true, true_and, and_true, false_and, and_false, Bool.false_eq_true, Bool.true_eq_false, reduceCtorEq, implies_true, q_lc_eq, q_lc_ge, q_lc_gt, q_lc_le, lN_or, lN_and, lN_shl, lN_shr, nI_L, lN_I, l_0]
    exact ⟨_, _, _, hj, by simp (disch := omega) only [q_lit, le_T, le_F, lt_T, lt_F, eq_T, eq_F, m1_lt, m1_le, lt_m1, le_m1, eq_m1, m1_eq, nI_add, nI_sub, nI_dec, nI_mul, nI_or, nI_and, nI_div, nI_mod, and_255, and_31, and_1, and_63, nI_shl, nI_shr, bI_F, bI_1, vp_T, cl_T, true_implies, false_implies, not_true_eq_false, not_false_eq_true, true_and, and_true, false_and, and_false, Bool.false_eq_true, Bool.true_eq_false, reduceCtorEq, implies_true]⟩
