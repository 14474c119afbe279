/-! Pure: whether an image is sound, the class. -/
theorem nmAt_first {w : List Nat} {ns : List (List Nat)} {k t : Nat} (h : nmAt w ns k = some t) : ∀ u, u + k < t → ¬ bd ns u = w := by
  induction ns generalizing k with
  | nil => simp [nmAt] at h
  | cons v r ih =>
    simp only [nmAt] at h
    split at h
    · simp only [Option.some.injEq] at h; intro u hu; omega
    · rename_i h1
      intro u hu
      cases u with
      | zero => simpa [bd] using h1
      | succ u => rw [bd_cons_s]; exact ih h u (by omega)
theorem nmAt_nodup {ns : List (List Nat)} (h : ns.Nodup) (k : Nat) {t : Nat} (ht : t < ns.length) : nmAt (bd ns t) ns k = some (t + k) := by
  induction ns generalizing k t with
  | nil => simp at ht
  | cons v r ih =>
    rw [List.nodup_cons] at h
    cases t with
    | zero => simp [nmAt, bd]
    | succ t =>
      have ht2 : t < r.length := by simpa using ht
      rw [bd_cons_s, nmAt, if_neg (fun h1 => h.1 (by rw [h1]; exact bd_mem ht2)), ih h.2 (k + 1) ht2]
      congr 1; omega
theorem of_vb {ns bs : List (List Nat)} {ks : q_M2} (hr : RdOk ns bs ks) : ((∀ u, 0 ≤ u → u < bs.length → q_PT ns bs u) ∧ (∀ j, j < ks.length → q_PK bs.length ks j) ∧ ks.length ≤ 250) ↔ VB ns bs ks := by
  obtain ⟨r1, r2, r3, r4, r5, r6, r7⟩ := hr
  constructor
  · rintro ⟨h1, h2, h3⟩
    refine ⟨r1, r2, r3, ?_, ?_, fun t ht => ⟨(h1 t (by omega) ht).2.2, (r5 _ (bd_mem ht)).2⟩, h3, r6, ?_⟩
    · intro v hv
      obtain ⟨i, hi, he⟩ := List.mem_iff_getElem.mp hv
      have hb : bd ns i = v := by simp [bd, List.getD_eq_getElem?_getD, List.getElem?_eq_getElem hi, he]
      have := (h1 i (by omega) (by omega)).1
      rw [hb] at this
      exact ⟨(r4 v hv).1, (r4 v hv).2, List.length_pos_iff.mpr this⟩
    · rw [List.Nodup, List.pairwise_iff_getElem]
      intro i j hi hj hij h9
      have hbi : bd ns i = ns[i] := by simp [bd, List.getD_eq_getElem?_getD, List.getElem?_eq_getElem hi]
      have hbj : bd ns j = ns[j] := by simp [bd, List.getD_eq_getElem?_getD, List.getElem?_eq_getElem hj]
      exact nmAt_first (h1 j (by omega) (by omega)).2.1 i (by omega) (by rw [hbi, hbj]; exact h9)
    · intro e he
      obtain ⟨i, hi, hx⟩ := List.mem_iff_getElem.mp he
      have hb : ks.getD i ([], 0) = e := by simp [List.getD_eq_getElem?_getD, List.getElem?_eq_getElem hi, hx]
      obtain ⟨a1, a2, a3⟩ := h2 i hi
      simp only [mw, mb, hb] at a1 a2 a3
      obtain ⟨b1, b2, b3⟩ := r7 e he
      exact ⟨b1, List.length_pos_iff.mpr a1, b2, a2, a3⟩
  · rintro ⟨v1, v2, v3, v4, v5, v6, v7, v8⟩
    refine ⟨fun u _ hu => ⟨?_, ?_, (v6 u hu).1⟩, fun j hj => ?_, v7⟩
    · exact List.length_pos_iff.mp (v4 _ (bd_mem (show u < ns.length by omega))).2.2
    · have := nmAt_nodup v5 0 (t := u) (by omega); simpa using this
    · obtain ⟨a1, a2, a3, a4, a5⟩ := v8.at hj
      exact ⟨List.length_pos_iff.mp a2, a4, a5⟩
theorem cb_ofS {N : Nat → Int64} {S BE : Nat → Int32} {BC : Int32} {KW : Nat → Int64} {KT : Nat → Int32} {KC T : Int32} {ns bs : List (List Nat)} {ks : q_M2} (h : q_DB N S BE BC KW KT KC T ns bs ks) (hr : RdOk ns bs ks) : ∃ res, D_Book_isOfSource 2550 252 N S BE BC KW KT KC T res ∧ (res = true ↔ VB ns bs ks) := by
  obtain ⟨res, h1, h2⟩ := of0 h hr 0 (by omega)
  exact ⟨res, h1, h2.trans (of_vb hr)⟩
theorem nmC_ok (J : List Nat) (t : Nat) : q_Wd (nmC J t) ∧ (nmC J t).length ≤ 6 := by
  unfold nmC
  refine ⟨q_Wd.sm letRun_let, ?_⟩
  rw [List.length_map]
  have := letRun_nil_le (L := J) (k := 2 + 10 * t) (f := 2 + 10 * t + 6)
  omega
theorem nmsC_ok (J : List Nat) (n : Nat) : NmW (nmsC J n) := by
  induction n with
  | zero => intro v hv; simp [nmsC] at hv
  | succ n ih =>
    intro v hv
    simp only [nmsC, List.mem_append, List.mem_singleton] at hv
    rcases hv with hv | hv
    · exact ih v hv
    · rw [hv]; exact nmC_ok J n
def q_KR (m : q_M2) : Prop := ∀ e ∈ m, q_Wd e.1 ∧ e.1.length ≤ 8 ∧ e.2 < 65536
theorem ents_ok {J : List Nat} (hy : q_By J) (n p : Nat) (m : q_M2) (h : q_KR m) {q : Nat × q_M2} (hq : ents J n p m = some q) : q_KR q.2 := by
  induction n generalizing p m with
  | zero => simp only [ents, Option.some.injEq] at hq; rw [← hq]; exact h
  | succ n ih =>
    rw [ents] at hq
    split at hq
    · cases hq
    · rename_i h8
      refine ih _ _ ?_ hq
      have hq1 := hy.getD (p + 1 + J.getD p 0)
      have hq2 := hy.getD (p + 1 + J.getD p 0 + 1)
      have hb : pr J (p + 1 + J.getD p 0) < 2 ^ 16 := by unfold pr; omega
      refine insW_all h ⟨q_Wd.sm letRun_let, ?_, hb⟩ (fun e he => ⟨he.1, he.2.1, Nat.or_lt_two_pow (n := 16) he.2.2 hb⟩)
      rw [List.length_map]
      have := letRun_nil_le (L := J) (k := p + 1) (f := p + 1 + J.getD p 0)
      omega
theorem lfs_ok {J : List Nat} (hy : q_By J) (n p : Nat) (m : q_M2) (h : q_KR m) {r : q_M2} (hr : lfs J n p m = some r) : q_KR r := by
  induction n generalizing p m with
  | zero => simp only [lfs, Option.some.injEq] at hr; rw [← hr]; exact h
  | succ n ih =>
    rw [lfs] at hr
    split at hr
    · cases hr
    · cases he : ents J (J.getD p 0) (p + 1) m with
      | none => rw [he] at hr; cases hr
      | some q =>
        rw [he, Option.bind_some] at hr
        exact ih _ _ (ents_ok hy _ _ _ h he) hr
theorem tps_len {J : List Nat} (n t p : Nat) (bs : List (List Nat)) {q : Nat × List (List Nat)} (h : tps J n t p bs = some q) : q.2.length = bs.length + n := by
  induction n generalizing t p bs with
  | zero => simp only [tps, Option.some.injEq] at h; rw [← h]; rfl
  | succ n ih =>
    rw [tps] at h
    split at h
    · rw [ih _ _ _ h]; simp; omega
    · cases h
theorem rd_ok {J : List Nat} (hy : q_By J) {ns bs : List (List Nat)} {ks : q_M2} (h : rdC J = some (ns, bs, ks)) (hb : ∀ b ∈ bs, q_By b ∧ b.length ≤ 255) (hs : Srt (codes ks)) : RdOk ns bs ks := by
  unfold rdC at h
  split at h
  · rename_i h1
    cases ht : tps J (J.getD 1 0) 0 (2 + 10 * J.getD 1 0) [] with
    | none => rw [ht] at h; cases h
    | some q =>
      rw [ht, Option.bind_some] at h
      cases hk : trO J q.1 with
      | none => rw [hk] at h; cases h
      | some r =>
        rw [hk] at h
        simp only [Option.map_some, Option.some.injEq, Prod.mk.injEq] at h
        obtain ⟨rfl, rfl, rfl⟩ := h
        have hl := tps_len _ _ _ _ ht
        simp only [List.length_nil, Nat.zero_add] at hl
        have hkr : q_KR r := by
          unfold trO at hk
          cases hv : lvO (J.getD q.1 0) 0 with
          | none => rw [hv] at hk; cases hk
          | some l => rw [hv, Option.bind_some] at hk; exact lfs_ok hy _ _ _ (fun e he => by simp at he) hk
        exact ⟨by rw [nmsC_len, hl], by omega, by omega, nmsC_ok J _, hb, hs, hkr⟩
  · cases h
set_option maxRecDepth 100000 in
theorem t_same {E iE : Nat → Int32} {C iC : Int32} {I J : List Nat} (h : Rw 3000 E C I) (hJ : Rw 3000 iE iC J) (hI : q_By I) (hy : q_By J) (hl : I.length = J.length) (O O2 : Bool) (k : Nat) (hk : k ≤ I.length) : ∃ q, T_Row_isSameAs 3000 3000 E C O iE iC O2 (decide (I.drop k = J.drop k)) q (nI k) := by
  have hC := h.1
  have h3 := h.2.1
  by_cases h1 : k < I.length
  · have e1 := h.2.2.2 k h1
    have e2 := hJ.2.2.2 k (by omega)
    have v1 := hI.getD k
    have v2 := hy.getD k
    rw [drop_s h1, drop_s (show k < J.length by omega)]
    by_cases h2 : I.getD k 0 = J.getD k 0
    · obtain ⟨q, hq⟩ := t_same h hJ hI hy hl O O2 (k + 1) h1
      refine ⟨q + 1, ?_⟩
      have : decide (I.getD k 0 :: I.drop (k + 1) = J.getD k 0 :: J.drop (k + 1)) = decide (I.drop (k + 1) = J.drop (k + 1)) := by rw [h2]; simp
      rw [this]
      rw [hC] at hq ⊢
      simp (disch := omega) only [T_Row_isSameAs, S_Row_isSameAs, B_Row_isSameAs_29, e1, e2, q_lit, le_T, le_F, lt_T, lt_F, eq_T, eq_F, m1_lt, m1_le, lt_m1, le_m1, eq_m1, m1_eq, nI_add, nI_sub, nI_dec, nI_mul, nI_or, nI_and, nI_div, nI_mod, and_255, and_31, and_1, and_63, nI_shl, nI_shr, bI_F, bI_1, vp_T, cl_T, true_implies, false_implies, not_true_eq_false, not_false_eq_true, true_and, and_true, false_and, and_false, Bool.false_eq_true, Bool.true_eq_false, reduceCtorEq, implies_true, q_lc_eq, q_lc_ge, q_lc_gt, q_lc_le, lN_or, lN_and, lN_shl, lN_shr, nI_L, lN_I, l_0]
      exact hq
    · refine ⟨1, ?_⟩
      rw [decide_eq_false (fun h9 => h2 (by simp only [List.cons.injEq] at h9; exact h9.1))]
      rw [hC]
      simp (disch := omega) only [T_Row_isSameAs, S_Row_isSameAs, B_Row_isSameAs_29, e1, e2, q_lit, le_T, le_F, lt_T, lt_F, eq_T, eq_F, m1_lt, m1_le, lt_m1, le_m1, eq_m1, m1_eq, nI_add, nI_sub, nI_dec, nI_mul, nI_or, nI_and, nI_div, nI_mod, and_255, and_31, and_1, and_63, nI_shl, nI_shr, bI_F, bI_1, vp_T, cl_T, true_implies, false_implies, not_true_eq_false, not_false_eq_true, true_and, and_true, false_and, and_false, Bool.false_eq_true, Bool.true_eq_false, reduceCtorEq, implies_true, q_lc_eq, q_lc_ge, q_lc_gt, q_lc_le, lN_or, lN_and, lN_shl, lN_shr, nI_L, lN_I, l_0]
  · refine ⟨1, ?_⟩
    rw [List.drop_eq_nil_of_le (by omega), List.drop_eq_nil_of_le (by omega), hC]
    simp (disch := omega) only [T_Row_isSameAs, S_Row_isSameAs, B_Row_isSameAs_29, decide_true, q_lit, le_T, le_F, lt_T, lt_F, eq_T, eq_F, m1_lt, m1_le, lt_m1, le_m1, eq_m1, m1_eq, nI_add, nI_sub, nI_dec, nI_mul, nI_or, nI_and, nI_div, nI_mod, and_255, and_31, and_1, and_63, nI_shl, nI_shr, bI_F, bI_1, vp_T, cl_T, true_implies, false_implies, not_true_eq_false, not_false_eq_true, true_and, and_true, false_and, and_false, Bool.false_eq_true, Bool.true_eq_false, reduceCtorEq, implies_true, q_lc_eq, q_lc_ge, q_lc_gt, q_lc_le, lN_or, lN_and, lN_shl, lN_shr, nI_L, lN_I, l_0]
termination_by I.length - k
decreasing_by all_goals omega
theorem row_same {E iE : Nat → Int32} {C iC : Int32} {O : Bool} {I J : List Nat} (h : RO E C O I) (hJ : Rw 3000 iE iC J) (hI : q_By I) (hy : q_By J) : D_Row_isSameAs 3000 3000 E C O iE iC false (decide (I = J)) := by
  have hJ3 := hJ.2.1
  rcases h with ⟨rfl, h⟩ | ⟨rfl, h2, h3⟩
  · have hI3 := h.2.1
    by_cases hl : I.length = J.length
    · obtain ⟨q, hq⟩ := t_same h hJ hI hy hl false false 0 (by omega)
      refine ⟨q, ?_⟩
      rw [h.1, hJ.1] at hq ⊢
      simp (disch := omega) only [q_lit, le_T, le_F, lt_T, lt_F, eq_T, eq_F, m1_lt, m1_le, lt_m1, le_m1, eq_m1, m1_eq, nI_add, nI_sub, nI_dec, nI_mul, nI_or, nI_and, nI_div, nI_mod, and_255, and_31, and_1, and_63, nI_shl, nI_shr, bI_F, bI_1, vp_T, cl_T, true_implies, false_implies, not_true_eq_false, not_false_eq_true, true_and, and_true, false_and, and_false, Bool.false_eq_true, Bool.true_eq_false, reduceCtorEq, implies_true]
      exact hq
    · refine ⟨0, ?_⟩
      rw [decide_eq_false (fun h9 => hl (by rw [h9])), h.1, hJ.1]
      simp (disch := omega) only [q_lit, le_T, le_F, lt_T, lt_F, eq_T, eq_F, m1_lt, m1_le, lt_m1, le_m1, eq_m1, m1_eq, nI_add, nI_sub, nI_dec, nI_mul, nI_or, nI_and, nI_div, nI_mod, and_255, and_31, and_1, and_63, nI_shl, nI_shr, bI_F, bI_1, vp_T, cl_T, true_implies, false_implies, not_true_eq_false, not_false_eq_true, true_and, and_true, false_and, and_false, Bool.false_eq_true, Bool.true_eq_false, reduceCtorEq, implies_true]
  · refine ⟨0, ?_⟩
    rw [decide_eq_false (fun h9 => by rw [h9] at h2; omega)]
    simp (disch := omega) only [q_lit, le_T, le_F, lt_T, lt_F, eq_T, eq_F, m1_lt, m1_le, lt_m1, le_m1, eq_m1, m1_eq, nI_add, nI_sub, nI_dec, nI_mul, nI_or, nI_and, nI_div, nI_mod, and_255, and_31, and_1, and_63, nI_shl, nI_shr, bI_F, bI_1, vp_T, cl_T, true_implies, false_implies, not_true_eq_false, not_false_eq_true, true_and, and_true, false_and, and_false, Bool.false_eq_true, Bool.true_eq_false, reduceCtorEq, implies_true]
theorem hf_sound {J : List Nat} {iE : Nat → Int32} {iC : Int32} (hJ : Rw 3000 iE iC J) (hy : q_By J) {c n : Nat} (hc : c ≤ 3000) (hn : n ≤ 2550) (rE : Nat → Int32) (rO : Bool) (eP : Int32) (N : Nat → Int64) (S BE : Nat → Int32) (O : Bool) (KW : Nat → Int64) (KT : Nat → Int32) (KC : Int32) (VW : Nat → Int64) (VT : Nat → Int32) (VC T : Int32) :
    ∃ (res : Bool) (rE' : Nat → Int32) (rC' : Int32) (rO' : Bool) (eP' : Int32) (N' : Nat → Int64) (S' BE' : Nat → Int32) (BC' : Int32) (O' : Bool) (KW' : Nat → Int64) (KT' : Nat → Int32) (KC' : Int32) (VW' : Nat → Int64) (VT' : Nat → Int32) (VC' T' : Int32), D_HelpFile_isImageSound 3000 3000 2550 252 1275 iE iC false rE (nI c) rO eP N S BE (nI n) O KW KT KC VW VT VC T res rE' rC' rO' eP' N' S' BE' BC' O' KW' KT' KC' VW' VT' VC' T' ∧ (∃ c', rC' = nI c' ∧ c' ≤ 3000) ∧ (∃ n', BC' = nI n' ∧ n' ≤ 2550) ∧
      (res = true → ∃ ns bs ks, VB ns bs ks ∧ img ns bs ks (gwA bs 0 []) = J ∧ q_DB N' S' BE' BC' KW' KT' KC' T' ns bs ks ∧ CW 1275 VW' VT' VC' (codes (gwA bs 0 []))) ∧
      (∀ ns bs ks, VB ns bs ks → img ns bs ks (gwA bs 0 []) = J → res = true) := by
  obtain ⟨r1, irP', N', S', BE', BC', O', KW', KT', KC', T', a1, a2, a3, a4⟩ := ir_read hJ hy eP N S BE hn O KW KT KC T
  cases hr : rdC J with
  | none =>
    rw [hr] at a3
    simp only [Option.isSome_none] at a3
    subst a3
    refine ⟨false, rE, nI c, rO, irP', N', S', BE', BC', O', KW', KT', KC', VW, VT, VC, T', ⟨_, _, _, _, _, _, _, _, _, _, _, a1, fun _ => ⟨rfl, rfl, rfl, rfl, rfl, rfl, rfl, rfl, rfl, rfl, rfl, rfl, rfl, rfl, rfl, rfl, rfl⟩, fun h9 => ?_⟩, ⟨c, rfl, hc⟩, a2, (fun h9 => by cases h9), fun ns bs ks h1 h2 => ?_⟩
    · exact absurd rfl h9
    · rw [rd_img h1 h2] at hr; cases hr
  | some q =>
    obtain ⟨ns, bs, ks⟩ := q
    rw [hr] at a3
    simp only [Option.isSome_some] at a3
    subst a3
    obtain ⟨b1, b2⟩ := a4 ns bs ks hr
    have hrd := rd_ok hy hr b2 b1.2.2.2.2
    obtain ⟨r2, c1, c2⟩ := cb_ofS b1 hrd
    cases r2 with
    | false =>
      refine ⟨false, rE, nI c, rO, irP', N', S', BE', BC', O', KW', KT', KC', VW, VT, VC, T', ⟨_, _, _, _, _, _, _, _, _, _, _, a1, fun h9 => ?_, fun _ => ⟨_, c1, fun _ => ⟨rfl, rfl, rfl, rfl, rfl, rfl, rfl, rfl, rfl, rfl, rfl, rfl, rfl, rfl, rfl, rfl, rfl⟩, fun h9 => ?_⟩⟩, ⟨c, rfl, hc⟩, a2, (fun h9 => by cases h9), fun ns2 bs2 ks2 h1 h2 => ?_⟩
      · simp [bI] at h9
      · exact absurd rfl h9
      · rw [rd_img h1 h2] at hr
        simp only [Option.some.injEq, Prod.mk.injEq] at hr
        obtain ⟨rfl, rfl, rfl⟩ := hr
        exact c2.mpr h1
    | true =>
      have hv := c2.mp rfl
      obtain ⟨W', T2, C', e1, e2, e3⟩ := cb_gather b1.1 (fun t ht => (hv.body ht).2.1) VW VT VC
      obtain ⟨E2, C2, O2, f1, f2⟩ := wr_write b1.1 (hv.wrok b1.2.2.1) b1.2.2.2.1 e2 (img_sum hv) (E := rE) (C := nI c) (O := rO) rfl hc
      have hsm := row_same f2 hJ (by_img hv) hy
      have hcc := ro_cnt f2
      refine ⟨decide (img ns bs ks (gwA bs 0 []) = J), E2, C2, O2, irP', N', S', BE', BC', O', KW', KT', KC', W', T2, C', T', ⟨_, _, _, _, _, _, _, _, _, _, _, a1, fun h9 => ?_, fun _ => ⟨_, c1, fun h9 => ?_, fun _ => ⟨_, _, _, e1, _, _, _, f1, _, hsm, rfl, rfl, rfl, rfl, rfl, rfl, rfl, rfl, rfl, rfl, rfl, rfl, rfl, rfl, rfl, rfl, rfl⟩⟩⟩, ?_, a2, fun h9 => ⟨ns, bs, ks, hv, by simpa using h9, b1, e2⟩, fun ns2 bs2 ks2 h1 h2 => ?_⟩
      · simp [bI] at h9
      · simp [bI] at h9
      · obtain ⟨c', g1, g2, _⟩ := hcc; exact ⟨c', g2, g1⟩
      · rw [rd_img h1 h2] at hr
        simp only [Option.some.injEq, Prod.mk.injEq] at hr
        obtain ⟨rfl, rfl, rfl⟩ := hr
        simpa using h2
