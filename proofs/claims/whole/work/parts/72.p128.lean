/-! Pure: open, the reference. -/
def SeenOk (sT : Int32) (q_sN sB sL : Nat → Int32) (sK : Int32) (sKL sKG sKB : Nat → Int32) (sW : Int32) (sWL sWG sWB : Nat → Int32) (ns bs : List (List Nat)) (ks : q_M2) : Prop := sT = nI bs.length ∧ q_MN q_sN ns ∧ MB sB sL bs ∧ MW 8 250 sKL sKG sKB sK ks ∧ MW 12 1280 sWL sWG sWB sW (gwA bs 0 [])
def Vim (J : List Nat) : Prop := ∃ ns bs ks, VB ns bs ks ∧ img ns bs ks (gwA bs 0 []) = J
theorem nm6_inj {a b : List Nat} (ha : q_Wd a) (hb : q_Wd b) (h1 : a.length ≤ 6) (h2 : b.length ≤ 6) (h : nm6 a = nm6 b) : a = b := by
  have e := sameK_nm a b
  rw [h, sameK_refl, sameK_6 ha hb h1 h2] at e
  simpa using e.symm
theorem getD_map0 {V : List (List Nat)} {f : List Nat → List Nat} {t : Nat} (h : t < V.length) : bd (V.map f) t = f (bd V t) := by
  simp [bd, List.getD_eq_getElem?_getD, List.getElem?_eq_getElem h]
/-- the names that were read -/
def nsM (J : List Nat) (tn : Nat) : List (List Nat) := (Vs J tn).map nmM
theorem nsM_len (J : List Nat) (tn : Nat) : (nsM J tn).length = tn := by simp [nsM, Vs_len]
theorem nsM_bd (J : List Nat) {tn t : Nat} (h : t < tn) : bd (nsM J tn) t = nmM (seg J (2 + 10 * t) 6) := by
  unfold nsM; rw [getD_map0 (by rw [Vs_len]; exact h), Vs_bd J h]
theorem hd_nm {J : List Nat} {u : Nat} (h : HD J u) : q_Wd (nmM (seg J (2 + 10 * u) 6)) ∧ (nmM (seg J (2 + 10 * u) 6)).length ≤ 6 ∧ 0 < (nmM (seg J (2 + 10 * u) 6)).length ∧ nm6 (nmM (seg J (2 + 10 * u) 6)) = seg J (2 + 10 * u) 6 := by
  have h3 := h.2.2
  unfold tnOk at h3
  rw [Vs_bd J (by omega)] at h3
  simp only [Bool.and_eq_true, decide_eq_true_eq] at h3
  exact nmM_ok (seg_len _ _ _) h3.1.1 h3.1.2
theorem rd_vb {J : List Nat} {tn : Nat} (h1 : 1 ≤ tn) (h10 : tn ≤ 10) (hD : ∀ u, u < tn → HD J u) {bs : List (List Nat)} (hbl : bs.length = tn) {Bo : Nat → Int32} (hB : Bs J Bo bs) (hk : ∀ u, u < tn → bOk tn 10 false (bd bs u) = true) {ks : q_M2} (hks : KO tn ks) (hkl : ks.length ≤ 250) : VB (nsM J tn) bs ks := by
  subst hbl
  refine ⟨nsM_len _ _, h1, h10, ?_, ?_, fun t ht => ⟨hk t ht, by rw [(hB t ht).2.2]; exact (hD t ht).2.1⟩, hkl, hks⟩
  · intro v hv
    obtain ⟨i, hi, he⟩ := List.mem_iff_getElem.mp hv
    rw [nsM_len] at hi
    have hb : bd (nsM J bs.length) i = v := by simp [bd, List.getD_eq_getElem?_getD, List.getElem?_eq_getElem (show i < (nsM J bs.length).length by rw [nsM_len]; exact hi), he]
    rw [nsM_bd J hi] at hb
    have := hd_nm (hD i hi)
    rw [hb] at this
    exact ⟨this.1, this.2.1, this.2.2.1⟩
  · rw [List.Nodup, List.pairwise_iff_getElem]
    intro i j hi hj hij h9
    rw [nsM_len] at hi hj
    have hbi : bd (nsM J bs.length) i = (nsM J bs.length)[i] := by simp [bd, List.getD_eq_getElem?_getD, List.getElem?_eq_getElem (show i < (nsM J bs.length).length by rw [nsM_len]; exact hi)]
    have hbj : bd (nsM J bs.length) j = (nsM J bs.length)[j] := by simp [bd, List.getD_eq_getElem?_getD, List.getElem?_eq_getElem (show j < (nsM J bs.length).length by rw [nsM_len]; exact hj)]
    rw [← hbi, ← hbj, nsM_bd J hi, nsM_bd J hj] at h9
    have hs : seg J (2 + 10 * i) 6 = seg J (2 + 10 * j) 6 := by
      rw [← (hd_nm (hD i hi)).2.2.2, ← (hd_nm (hD j hj)).2.2.2, h9]
    have h3 := (hD j hj).2.2
    unfold tnOk at h3
    simp only [Bool.and_eq_true] at h3
    have := uq_sp 0 h3.2 (j := i) (by omega) hij
    rw [Vs_bd J (by omega), Vs_bd J (by omega), hs, sameK_refl] at this
    cases this
/-- what is read of an image is what was written -/
theorem rd_uni {J : List Nat} {ns bs : List (List Nat)} {ks : q_M2} (hv : VB ns bs ks) (h : img ns bs ks (gwA bs 0 []) = J) (hD : ∀ u, u < J.getD 1 0 → HD J u) {p : Nat} {bs2 : List (List Nat)} (ht : tpm J (J.getD 1 0) 0 (2 + 10 * J.getD 1 0) [] = some (p, bs2)) : bs2 = bs ∧ nsM J (J.getD 1 0) = ns ∧ trM J (J.getD 1 0) p = some ks := by
  have hv' := hv
  obtain ⟨v1, v2, v3, v4, v5, v6, v7, v8⟩ := hv
  obtain ⟨a1, a2, a3, a4, a5, a6⟩ := at_img h
  rw [a2] at ht hD ⊢
  have := tpm_rd h (fun t ht => (v6 t ht).2) bs.length 0 (by omega)
  simp only [pks, List.length_nil, Nat.add_zero, List.take_zero] at this
  rw [this] at ht
  simp only [Option.some.injEq, Prod.mk.injEq] at ht
  obtain ⟨rfl, rfl⟩ := ht
  refine ⟨rfl, ?_, trM_rd v8 v3 v7 a6⟩
  apply List.ext_getElem
  · rw [nsM_len, v1]
  · intro i h1 h2
    have hi : i < bs.length := by rw [nsM_len] at h1; exact h1
    have hb : bd ns i = ns[i] := by simp [bd, List.getD_eq_getElem?_getD, List.getElem?_eq_getElem h2]
    have hc : bd (nsM J bs.length) i = (nsM J bs.length)[i] := by simp [bd, List.getD_eq_getElem?_getD, List.getElem?_eq_getElem h1]
    rw [← hb, ← hc, nsM_bd J hi]
    have hx := at_hdr a4 hi
    obtain ⟨h3, _⟩ := at_app hx
    obtain ⟨h4, _⟩ := at_app h3
    have e := at_seg6 h4
    have hd := hd_nm (hD i hi)
    rw [e] at hd ⊢
    have hn := v4 _ (bd_mem (show i < ns.length by omega))
    exact nm6_inj hd.1 hn.1 hd.2.1 hn.2.1 hd.2.2.2
theorem op_bad2 (iC th : Int32) (T : Int32) (Nm Bo Le Hg : Nat → Int32) (KC : Int32) (KL KG KB : Nat → Int32) (WC : Int32) (WL WG WB : Nat → Int32) (Im : Nat → Int32) (cm : Bool) (Ot To li HL : Int32) (HN : Nat → Int32) (op : Bool) (sT : Int32) (q_sN sB sL : Nat → Int32) (sK : Int32) (sKL sKG sKB : Nat → Int32) (sW : Int32) (sWL sWG sWB : Nat → Int32) (tp bk fw : Int32) : T_Model_open iC false th T Nm Bo Le Hg KC KL KG KB WC WL WG WB Im cm true Ot To li HL HN op sT q_sN sB sL sK sKL sKG sKB sW sWL sWG sWB tp bk fw 1 2 (nI 0) th T Nm Bo Le Hg KC KL KG KB WC WL WG WB Im cm true Ot To li HL HN op sT q_sN sB sL sK sKL sKG sKB sW sWL sWG sWB tp bk fw := by
  rw [T_Model_open]
  simp (disch := omega) only [S_Model_open, B_Model_open_50, q_lit, le_T, le_F, lt_T, lt_F, eq_T, eq_F, m1_lt, m1_le, lt_m1, le_m1, eq_m1, m1_eq, nI_add, nI_sub, nI_dec, nI_mul, nI_or, nI_and, nI_div, nI_mod, and_255, and_31, and_1, and_63, nI_shl, nI_shr, bI_F, bI_1, vp_T, cl_T, true_implies, false_implies, not_true_eq_false, not_false_eq_true, true_and, and_true, false_and, and_false, Bool.false_eq_true, Bool.true_eq_false, reduceCtorEq, implies_true]
theorem op_bad1 (iC th x : Int32) (T : Int32) (Nm Bo Le Hg : Nat → Int32) (KC : Int32) (KL KG KB : Nat → Int32) (WC : Int32) (WL WG WB : Nat → Int32) (Im : Nat → Int32) (cm : Bool) (Ot To li HL : Int32) (HN : Nat → Int32) (op : Bool) (sT : Int32) (q_sN sB sL : Nat → Int32) (sK : Int32) (sKL sKG sKB : Nat → Int32) (sW : Int32) (sWL sWG sWB : Nat → Int32) (tp bk fw : Int32) : T_Model_open iC false th T Nm Bo Le Hg KC KL KG KB WC WL WG WB Im cm true Ot To li HL HN op sT q_sN sB sL sK sKL sKG sKB sW sWL sWG sWB tp bk fw 2 1 x th T Nm Bo Le Hg KC KL KG KB WC WL WG WB Im cm true Ot To li HL HN op sT q_sN sB sL sK sKL sKG sKB sW sWL sWG sWB tp bk fw := by
  rw [T_Model_open]
  simp (disch := omega) only [S_Model_open, B_Model_open_38, q_lit, le_T, le_F, lt_T, lt_F, eq_T, eq_F, m1_lt, m1_le, lt_m1, le_m1, eq_m1, m1_eq, nI_add, nI_sub, nI_dec, nI_mul, nI_or, nI_and, nI_div, nI_mod, and_255, and_31, and_1, and_63, nI_shl, nI_shr, bI_F, bI_1, vp_T, cl_T, true_implies, false_implies, not_true_eq_false, not_false_eq_true, true_and, and_true, false_and, and_false, Bool.false_eq_true, Bool.true_eq_false, reduceCtorEq, implies_true]
  exact op_bad2 iC th T Nm Bo Le Hg KC KL KG KB WC WL WG WB Im cm Ot To li HL HN op sT q_sN sB sL sK sKL sKG sKB sW sWL sWG sWB tp bk fw
theorem mo_open {J : List Nat} {iC : Int32} (T : Int32) (Nm Bo Le Hg : Nat → Int32) (KC : Int32) (KL KG KB : Nat → Int32) (WC : Int32) (WL WG WB : Nat → Int32) (Im : Nat → Int32) (cm : Bool) (hJ : Rw 8000 Im iC J) (hy : q_By J) (th : Int32) (un : Bool) (Ot To li HL : Int32) (HN : Nat → Int32) (op : Bool) (sT : Int32) (q_sN sB sL : Nat → Int32) (sK : Int32) (sKL sKG sKB : Nat → Int32) (sW : Int32) (sWL sWG sWB : Nat → Int32) (tp bk fw : Int32) :
    ∃ (res : Bool) (T' : Int32) (Nm' Bo' Le' Hg' : Nat → Int32) (KC' : Int32) (KL' KG' KB' : Nat → Int32) (WC' : Int32) (WL' WG' WB' : Nat → Int32) (Im' : Nat → Int32) (cm' un' : Bool) (Ot' To' li' HL' : Int32) (HN' : Nat → Int32) (op' : Bool) (sT' : Int32) (sN' sB' sL' : Nat → Int32) (sK' : Int32) (sKL' sKG' sKB' : Nat → Int32) (sW' : Int32) (sWL' sWG' sWB' : Nat → Int32) (tp' bk' fw' : Int32),
      D_Model_open th T Nm Bo Le Hg KC KL KG KB WC WL WG WB iC Im cm un Ot To li HL HN op sT q_sN sB sL sK sKL sKG sKB sW sWL sWG sWB tp bk fw res (nI 0) T' Nm' Bo' Le' Hg' KC' KL' KG' KB' WC' WL' WG' WB' Im' cm' un' Ot' To' li' HL' HN' op' sT' sN' sB' sL' sK' sKL' sKG' sKB' sW' sWL' sWG' sWB' tp' bk' fw' ∧ Rw 8000 Im' iC J ∧
      ((res = true ∧ op' = true ∧ tp' = nI 0 ∧ bk' = nI 0 ∧ fw' = nI 0 ∧ ∃ ns bs ks, VB ns bs ks ∧ img ns bs ks (gwA bs 0 []) = J ∧ SeenOk sT' sN' sB' sL' sK' sKL' sKG' sKB' sW' sWL' sWG' sWB' ns bs ks) ∨
       (res = false ∧ ¬ Vim J ∧ op' = op ∧ sT' = sT ∧ sN' = q_sN ∧ sB' = sB ∧ sL' = sL ∧ sK' = sK ∧ sKL' = sKL ∧ sKG' = sKG ∧ sKB' = sKB ∧ sW' = sW ∧ sWL' = sWL ∧ sWG' = sWG ∧ sWB' = sWB ∧ tp' = tp ∧ bk' = bk ∧ fw' = fw)) := by
  have h8 := hJ.2.1
  have hC := hJ.1
  by_cases h2 : 2 ≤ J.length
  · have e2 : (nI 2 ≤ iC) = True := by rw [hC]; exact le_T h2 (by omega)
    obtain ⟨p', T1, Nm1, Bo1, Le1, Hg1, U1, a1, a2, a3⟩ := mo_topics hJ hy h2 T Nm Bo Le Hg
    -- from label 1 on
    have go : ∀ {res : Bool} {th' T' : Int32} {Nm' Bo' Le' Hg' : Nat → Int32} {KC' : Int32} {KL' KG' KB' : Nat → Int32} {WC' : Int32} {WL' WG' WB' Im' : Nat → Int32} {cm' un' : Bool} {Ot' To' li' HL' : Int32} {HN' : Nat → Int32} {op' : Bool} {sT' : Int32} {sN' sB' sL' : Nat → Int32} {sK' : Int32} {sKL' sKG' sKB' : Nat → Int32} {sW' : Int32} {sWL' sWG' sWB' : Nat → Int32} {tp' bk' fw' : Int32}, (∃ q, T_Model_open iC res th' T' Nm' Bo' Le' Hg' KC' KL' KG' KB' WC' WL' WG' WB' Im' cm' un' Ot' To' li' HL' HN' op' sT' sN' sB' sL' sK' sKL' sKG' sKB' sW' sWL' sWG' sWB' tp' bk' fw' q 1 (nI p') (nI 0) T1 Nm1 Bo1 Le1 Hg1 KC KL KG KB WC WL WG WB Im cm U1 Ot To li HL HN op sT q_sN sB sL sK sKL sKG sKB sW sWL sWG sWB tp bk fw) → D_Model_open th T Nm Bo Le Hg KC KL KG KB WC WL WG WB iC Im cm un Ot To li HL HN op sT q_sN sB sL sK sKL sKG sKB sW sWL sWG sWB tp bk fw res th' T' Nm' Bo' Le' Hg' KC' KL' KG' KB' WC' WL' WG' WB' Im' cm' un' Ot' To' li' HL' HN' op' sT' sN' sB' sL' sK' sKL' sKG' sKB' sW' sWL' sWG' sWB' tp' bk' fw' := by
      intro res th' T' Nm' Bo' Le' Hg' KC' KL' KG' KB' WC' WL' WG' WB' Im' cm' un' Ot' To' li' HL' HN' op' sT' sN' sB' sL' sK' sKL' sKG' sKB' sW' sWL' sWG' sWB' tp' bk' fw' hq
      obtain ⟨q, hq⟩ := hq
      refine ⟨q + 1, ?_⟩
      rw [T_Model_open]
      simp (disch := omega) only [S_Model_open, B_Model_open_22, e2, q_lit, le_T, le_F, lt_T, lt_F, eq_T, eq_F, m1_lt, m1_le, lt_m1, le_m1, eq_m1, m1_eq, nI_add, nI_sub, nI_dec, nI_mul, nI_or, nI_and, nI_div, nI_mod, and_255, and_31, and_1, and_63, nI_shl, nI_shr, bI_F, bI_1, vp_T, cl_T, true_implies, false_implies, not_true_eq_false, not_false_eq_true, true_and, and_true, false_and, and_false, Bool.false_eq_true, Bool.true_eq_false, reduceCtorEq, implies_true]
      exact ⟨_, _, _, _, _, _, _, a1, hq⟩
    rcases a3 with ⟨rfl, a3⟩ | ⟨rfl, hsc, hT1, hp1, bs, b1, b2, b3, b4, b5⟩
    · refine ⟨_, _, _, _, _, _, _, _, _, _, _, _, _, _, _, _, _, _, _, _, _, _, _, _, _, _, _, _, _, _, _, _, _, _, _, _, _, _, go ⟨2, op_bad1 iC (nI 0) (nI p') T1 Nm1 Bo1 Le1 Hg1 KC KL KG KB WC WL WG WB Im cm Ot To li HL HN op sT q_sN sB sL sK sKL sKG sKB sW sWL sWG sWB tp bk fw⟩, hJ, Or.inr ⟨rfl, fun ⟨ns, bs, ks, h3, h4⟩ => a3 (sc_img h3 h4), rfl, rfl, rfl, rfl, rfl, rfl, rfl, rfl, rfl, rfl, rfl, rfl, rfl, rfl, rfl, rfl⟩⟩
    · obtain ⟨c1, c2, c3, hD, _⟩ := hsc
      obtain ⟨KC2, KL2, KG2, KB2, U2, HL2, HN2, d1, d2, d3⟩ := mo_keys hJ hy c3 (p := p') (by omega) KC KL KG KB HL HN
      rw [← hT1] at d1
      have go2 : ∀ {res : Bool} {th' T' : Int32} {Nm' Bo' Le' Hg' : Nat → Int32} {KC' : Int32} {KL' KG' KB' : Nat → Int32} {WC' : Int32} {WL' WG' WB' Im' : Nat → Int32} {cm' un' : Bool} {Ot' To' li' HL' : Int32} {HN' : Nat → Int32} {op' : Bool} {sT' : Int32} {sN' sB' sL' : Nat → Int32} {sK' : Int32} {sKL' sKG' sKB' : Nat → Int32} {sW' : Int32} {sWL' sWG' sWB' : Nat → Int32} {tp' bk' fw' : Int32}, (∃ q, T_Model_open iC res th' T' Nm' Bo' Le' Hg' KC' KL' KG' KB' WC' WL' WG' WB' Im' cm' un' Ot' To' li' HL' HN' op' sT' sN' sB' sL' sK' sKL' sKG' sKB' sW' sWL' sWG' sWB' tp' bk' fw' q 2 (nI 0) (nI 0) T1 Nm1 Bo1 Le1 Hg1 KC2 KL2 KG2 KB2 WC WL WG WB Im cm U2 Ot To li HL2 HN2 op sT q_sN sB sL sK sKL sKG sKB sW sWL sWG sWB tp bk fw) → D_Model_open th T Nm Bo Le Hg KC KL KG KB WC WL WG WB iC Im cm un Ot To li HL HN op sT q_sN sB sL sK sKL sKG sKB sW sWL sWG sWB tp bk fw res th' T' Nm' Bo' Le' Hg' KC' KL' KG' KB' WC' WL' WG' WB' Im' cm' un' Ot' To' li' HL' HN' op' sT' sN' sB' sL' sK' sKL' sKG' sKB' sW' sWL' sWG' sWB' tp' bk' fw' := by
        intro res th' T' Nm' Bo' Le' Hg' KC' KL' KG' KB' WC' WL' WG' WB' Im' cm' un' Ot' To' li' HL' HN' op' sT' sN' sB' sL' sK' sKL' sKG' sKB' sW' sWL' sWG' sWB' tp' bk' fw' hq
        obtain ⟨q, hq⟩ := hq
        refine go ⟨q + 1, ?_⟩
        rw [T_Model_open]
        simp (disch := omega) only [S_Model_open, B_Model_open_38, q_lit, le_T, le_F, lt_T, lt_F, eq_T, eq_F, m1_lt, m1_le, lt_m1, le_m1, eq_m1, m1_eq, nI_add, nI_sub, nI_dec, nI_mul, nI_or, nI_and, nI_div, nI_mod, and_255, and_31, and_1, and_63, nI_shl, nI_shr, bI_F, bI_1, vp_T, cl_T, true_implies, false_implies, not_true_eq_false, not_false_eq_true, true_and, and_true, false_and, and_false, Bool.false_eq_true, Bool.true_eq_false, reduceCtorEq, implies_true]
        exact ⟨_, _, _, _, _, _, _, d1, hq⟩
      cases hk : trM J (J.getD 1 0) p' with
      | none =>
        rw [hk] at d2
        simp only [Option.isNone_none] at d2
        subst d2
        refine ⟨_, _, _, _, _, _, _, _, _, _, _, _, _, _, _, _, _, _, _, _, _, _, _, _, _, _, _, _, _, _, _, _, _, _, _, _, _, _, go2 ⟨1, op_bad2 iC (nI 0) T1 Nm1 Bo1 Le1 Hg1 KC2 KL2 KG2 KB2 WC WL WG WB Im cm Ot To li HL2 HN2 op sT q_sN sB sL sK sKL sKG sKB sW sWL sWG sWB tp bk fw⟩, hJ, Or.inr ⟨rfl, fun ⟨ns, bs0, ks, h3, h4⟩ => ?_, rfl, rfl, rfl, rfl, rfl, rfl, rfl, rfl, rfl, rfl, rfl, rfl, rfl, rfl, rfl, rfl⟩⟩
        rw [(rd_uni h3 h4 hD b1).2.2] at hk; cases hk
      | some ks =>
        rw [hk] at d2 d3
        simp only [Option.isNone_some] at d2
        subst d2
        have hMW := d3 ks rfl
        have hvb : VB (nsM J (J.getD 1 0)) bs ks := rd_vb c2 c3 hD b2 b4 b5 (trM_ko hk) hMW.2.1
        have hMB : MB Bo1 Le1 bs := ⟨by omega, fun t ht => by
          obtain ⟨f1, f2, f3⟩ := b4 t ht
          have hdt := (hD t (by omega)).2.1
          refine ⟨by rw [(b3.2 t (by omega)).1, f3], by rw [f3]; exact hdt, fun i hi => ⟨f1 i hi, ?_⟩⟩
          have := f2.getD i; omega⟩
        have hMN : q_MN Nm1 (nsM J (J.getD 1 0)) := fun t ht k hk6 => by
          rw [nsM_len] at ht
          have e1 := b3.1 t (by rw [Vs_len]; exact ht) k hk6
          rw [Vs_bd J ht] at e1
          rw [e1, nsM_bd J ht]
          have e3 := nm6_get (nmM (seg J (2 + 10 * t) 6)) hk6
          rw [(hd_nm (hD t ht)).2.2.2] at e3
          rw [e3]
        obtain ⟨C1, L1, G1, B1, I1, U3, O1, T2, l1, HL3, HN3, e1, e4, e5, e6⟩ := mo_write (cmp := true) (iS := iC) (J := J) (B := 20000) (Im := Im) hMB hMN hvb.1 hvb.nv hMW (fun i hi => (hvb.ksok i hi).2.2) (fun t ht => (hvb.body ht).2.1) (fun i hi => ((gwA_kw _).at hi).2.2.2.2) (img_sum hvb) (img_len1 hvb) (fun t ht => hvb.pk ht) (by omega) (fun h => by cases h) (fun _ => ⟨hJ, fun i => by have := hy.getD i; omega⟩) WC WL WG WB cm false Ot To li HL2 HN2
        obtain ⟨g1, g2, g3, g4, g5, g6⟩ := e6
        obtain ⟨k1, k2, k3⟩ := g6 rfl
        rw [b2, ← hT1] at e1
        by_cases hsame : img (nsM J (J.getD 1 0)) bs ks (gwA bs 0 []) = J
        · have hU : U3 = false := by rw [k3, hsame, List.isPrefixOf_iff_prefix.mpr (List.prefix_refl J)]; rfl
          have hO : (O1 = iC) = True := by rw [g1, hsame, hC]; simp
          have hkp := mo_keep (tn := J.getD 1 0) (kn := ks.length) (wn := (gwA bs 0 []).length) c3 hMW.2.1 e4.2.1 (Nm := Nm1) (Bo := Bo1) (Le := Le1) (KL := KL2) (KG := KG2) (KB := KB2) (WL := L1) (WG := G1) (WB := B1) sT q_sN sB sL sK sKL sKG sKB sW sWL sWG sWB
          rw [← hT1, ← hMW.1, ← e4.1] at hkp
          subst hU
          refine ⟨true, T1, Nm1, Bo1, Le1, Hg1, KC2, KL2, KG2, KB2, C1, L1, G1, B1, I1, true, false, O1, T2, l1, HL3, HN3, true, T1, q_cpA q_sN Nm1 0 60, q_cpA sB Bo1 0 2550, q_cpA sL Le1 0 (J.getD 1 0), KC2, q_cpA sKL KL2 0 2000, q_cpA sKG KG2 0 ks.length, q_cpA sKB KB2 0 ks.length, C1, q_cpA sWL L1 0 (12 * (gwA bs 0 []).length), q_cpA sWG G1 0 (gwA bs 0 []).length, q_cpA sWB B1 0 (gwA bs 0 []).length, nI 0, nI 0, nI 0, go2 ⟨1, ?_⟩, k1, Or.inl ⟨rfl, rfl, rfl, rfl, rfl, nsM J (J.getD 1 0), bs, ks, hvb, hsame, ?_⟩⟩
          · rw [T_Model_open]
            simp only [S_Model_open, B_Model_open_50, q_lit]
            simp only [bI_F, true_implies, not_true_eq_false, false_implies, and_true, true_and]
            refine ⟨_, _, _, _, _, _, _, _, _, _, _, _, e1, ?_⟩
            simp only [bI_F, true_implies, not_true_eq_false, false_implies, and_true, true_and, hO]
            exact ⟨_, _, _, _, _, _, _, _, _, _, _, _, hkp, rfl, rfl, rfl, rfl, rfl, rfl, rfl, rfl, rfl, rfl, rfl, rfl⟩
          · refine ⟨by rw [hT1, b2], mn_cp hMN (by rw [nsM_len]; exact c3), ?_, mw_cp hMW (by have := hMW.2.1; omega), mw_cp e4 (Nat.le_refl _)⟩
            have := mb_cp (sB := sB) (sL := sL) hMB
            rw [b2] at this
            exact this
        · have hbad : ¬ (U3 = false ∧ O1 = iC) := by
            rintro ⟨x1, x2⟩
            apply hsame
            rw [k3] at x1
            simp only [Bool.not_eq_false'] at x1
            have hp := List.isPrefixOf_iff_prefix.mp x1
            rw [g1, hC] at x2
            exact hp.eq_of_length ((nI_eq (by omega) (by omega)).mp x2)
          refine ⟨false, T1, Nm1, Bo1, Le1, Hg1, KC2, KL2, KG2, KB2, C1, L1, G1, B1, I1, true, U3, O1, T2, l1, HL3, HN3, op, sT, q_sN, sB, sL, sK, sKL, sKG, sKB, sW, sWL, sWG, sWB, tp, bk, fw, go2 ⟨1, ?_⟩, k1, Or.inr ⟨rfl, fun ⟨ns0, bs0, ks0, h3, h4⟩ => ?_, rfl, rfl, rfl, rfl, rfl, rfl, rfl, rfl, rfl, rfl, rfl, rfl, rfl, rfl, rfl, rfl⟩⟩
          · rw [T_Model_open]
            simp only [S_Model_open, B_Model_open_50, q_lit]
            simp only [bI_F, true_implies, not_true_eq_false, false_implies, and_true, true_and]
            refine ⟨_, _, _, _, _, _, _, _, _, _, _, _, e1, ?_⟩
            cases U3 with
            | true => simp only [bI_F, Bool.true_eq_false, not_false_eq_true, true_implies, false_implies, and_true, true_and]
            | false =>
              have hO : (O1 = iC) = False := eq_false (fun h9 => hbad ⟨rfl, h9⟩)
              simp only [bI_F, hO, not_false_eq_true, not_true_eq_false, true_implies, false_implies, and_true, true_and]
          · obtain ⟨x1, x2, x3⟩ := rd_uni h3 h4 hD b1
            rw [hk] at x3
            simp only [Option.some.injEq] at x3
            rw [← x1, ← x2, ← x3] at h4
            exact hsame h4
  · have e2 : (nI 2 ≤ iC) = False := by rw [hC]; exact le_F (by omega) (by omega)
    refine ⟨false, T, Nm, Bo, Le, Hg, KC, KL, KG, KB, WC, WL, WG, WB, Im, cm, true, Ot, To, li, HL, HN, op, sT, q_sN, sB, sL, sK, sKL, sKG, sKB, sW, sWL, sWG, sWB, tp, bk, fw, ⟨3, ?_⟩, hJ, Or.inr ⟨rfl, fun ⟨ns, bs, ks, h3, h4⟩ => h2 (at_img h4).2.2.1, rfl, rfl, rfl, rfl, rfl, rfl, rfl, rfl, rfl, rfl, rfl, rfl, rfl, rfl, rfl, rfl⟩⟩
    · simp only [q_lit, e2, false_implies, true_and, not_false_eq_true, true_implies]
      rw [T_Model_open]
      simp (disch := omega) only [S_Model_open, B_Model_open_22, q_lit, le_T, le_F, lt_T, lt_F, eq_T, eq_F, m1_lt, m1_le, lt_m1, le_m1, eq_m1, m1_eq, nI_add, nI_sub, nI_dec, nI_mul, nI_or, nI_and, nI_div, nI_mod, and_255, and_31, and_1, and_63, nI_shl, nI_shr, bI_F, bI_1, vp_T, cl_T, true_implies, false_implies, not_true_eq_false, not_false_eq_true, true_and, and_true, false_and, and_false, Bool.false_eq_true, Bool.true_eq_false, reduceCtorEq, implies_true]
      exact op_bad1 iC (nI 0) (nI 0) T Nm Bo Le Hg KC KL KG KB WC WL WG WB Im cm Ot To li HL HN op sT q_sN sB sL sK sKL sKG sKB sW sWL sWG sWB tp bk fw
