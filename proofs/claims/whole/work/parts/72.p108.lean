/-! Pure: what a source without fault gives: a book. -/
def SrcOk (L : List Nat) : Prop := ∀ i, i < L.length → L.getD i 0 = 10 ∨ (32 ≤ L.getD i 0 ∧ L.getD i 0 ≤ 126)
theorem lnE_not {L : List Nat} (s k : Nat) (h1 : s ≤ k) (h2 : k < lnE L s) : ¬ L.getD k 0 = 10 := by
  rw [lnE] at h2
  split at h2
  · rename_i h3
    by_cases h4 : k = s
    · rw [h4]; exact h3.2
    · exact lnE_not (s + 1) k (by omega) h2
  · omega
termination_by L.length - s
decreasing_by all_goals omega
theorem blm_ft {k l : Nat} {a : q_Cs} (hk : 0 < k) : ¬ (blm k l a).2.2.2.2.2.1 = 0 := by simp only [blm]; split <;> omega
theorem bi_txt {tn : Nat} (htn : 0 < tn) {L : List Nat} (hL : SrcOk L) {s ln : Nat} (hf : lnE L s ≤ L.length) (a : q_Cs) (hs : s ≤ lnE L s) (h : TI tn 0 a s) (hft : (q_txt L (lnE L s) ln a s).2.2.2.2.2.1 = 0) : TI tn 0 (q_txt L (lnE L s) ln a s) (lnE L s) := by
  obtain ⟨k', a1, a2, ⟨_, a3⟩, a4⟩ := txt_ind (L := L) (f := lnE L s) (ln := ln) (fun a k => s ≤ k ∧ TI tn 0 a k)
    (fun a k hk h0 _ hP => ⟨by omega, fun hf => by
      obtain ⟨h1, h2, h3, h4, h5, h6, h7, h8⟩ := hP.2 h0
      refine ⟨h1, h2, h3, h4, ?_, fun g => g, h7, h8⟩
      simp only
      split <;> omega⟩)
    (fun a k hk h0 _ _ hP => ⟨by have := letEnd_ge L (k + 1) (lnE L s); omega, ti_lnk htn (ti_due hP.2 h0)⟩)
    (fun a k hk h0 _ _ hP => ⟨by omega, fun hf => absurd hf (blm_ft (by omega))⟩)
    (fun a k hk h0 e1 e2 hP => ⟨by omega, ti_sgn (ti_due hP.2 h0) (by
      have := lnE_not s k hP.1 hk
      have := hL k (by omega)
      omega) e2⟩) a s hs ⟨Nat.le_refl _, h⟩
  rw [← a4 hft]; rw [a4 hft] at a3 ⊢; exact a3
theorem ksz_b {L : List Nat} {s f : Nat} (h : isWdS L s f 8 = true) (hf : f ≤ L.length) : q_Wd (wrdS L s f) ∧ 1 ≤ (wrdS L s f).length ∧ (wrdS L s f).length ≤ 8 ∧ (wrdS L s f).length = f - s := by
  simp only [isWdS, Bool.and_eq_true, decide_eq_true_eq] at h
  have hr := smAll_run h.1.1 hf (by omega)
  unfold wrdS
  exact ⟨hr.2.1, by rw [hr.2.2]; omega, by rw [hr.2.2]; omega, hr.2.2⟩
theorem bi_lin {tn : Nat} (htn : 0 < tn) {L : List Nat} (hL : SrcOk L) {s ln : Nat} (hs : s ≤ L.length) (a : q_Cs) (h0 : a.2.2.2.2.2.1 = 0) (h : q_BI tn a s) (hft : (lin L s (lnE L s) ln a).2.2.2.2.2.1 = 0) : q_BI tn (lin L s (lnE L s) ln a) (lnE L s + 1) := by
  have hge := lnE_ge L s
  have hle := lnE_le L hs
  unfold lin at hft ⊢
  by_cases hb : blkS L s (lnE L s) = true
  · rw [if_pos hb] at hft ⊢
    obtain ⟨⟨h1, h2, h3, h4, h5, h6, h7⟩, _⟩ := bi_clP h hft
    exact ⟨h1, h2, h3, h4, by omega, h6, h7⟩
  · rw [if_neg hb] at hft ⊢
    have hlt := blk_lt (Bool.eq_false_iff.mpr hb)
    by_cases h35 : L.getD s 0 = 35
    · rw [if_pos h35] at hft ⊢
      have hc : (clP a).2.2.2.2.2.1 = 0 := by
        by_cases hc : (clP a).2.2.2.2.2.1 = 0
        · exact hc
        · rw [(hdg_ft hc).1] at hft; exact hft
      obtain ⟨⟨h1, h2, h3, h4, h5, h6, h7⟩, h8⟩ := bi_clP h hc
      rw [h8, if_neg (by simp)] at h5
      unfold hdg at hft ⊢
      by_cases g1 : isWdS L (s + 1) (lnE L s) 6 = false
      · rw [if_pos g1] at hft; exact absurd hft (blm_ft (by omega))
      · rw [if_neg g1] at hft ⊢
        by_cases g2 : (nmAt (wrdS L (s + 1) (lnE L s)) (clP a).1 0).isSome = true
        · rw [if_pos g2] at hft; exact absurd hft (blm_ft (by omega))
        · rw [if_neg g2] at hft ⊢
          by_cases g3 : 10 ≤ (clP a).1.length
          · rw [if_pos g3] at hft; exact absurd hft (blm_ft (by omega))
          · rw [if_neg g3] at hft ⊢
            have hno : nmAt (wrdS L (s + 1) (lnE L s)) (clP a).1 0 = none := by
              cases hq : nmAt (wrdS L (s + 1) (lnE L s)) (clP a).1 0 with
              | none => rfl
              | some x => rw [hq] at g2; simp at g2
            have hnn := nmAt_none hno
            refine ⟨?_, by simp [h2], by simp; omega, by simp only [List.length_append]; exact h4.mono (by omega), ?_, ?_, ?_⟩
            · simp only
              rw [List.nodup_append]
              refine ⟨h1, by simp, fun x hx y hy => ?_⟩
              simp only [List.mem_singleton] at hy
              rw [hy]; exact hnn x hx
            · simp only [List.flatten_append, List.length_append, List.flatten_cons, List.flatten_nil, List.length_nil, h8, List.append_nil, Bool.false_eq_true, if_false]; omega
            · refine Or.inr ⟨(clP a).2.1, [], rfl, ?_, fun _ => ⟨rfl, ?_⟩, fun g => by simp only [h8] at g; cases g⟩
              · rcases h6 with ⟨e1, _⟩ | ⟨d, c, e1, e2, e3, _⟩
                · rw [e1]; intro b hb; simp at hb
                · intro b hb
                  rw [e1] at hb
                  simp only [List.mem_append, List.mem_singleton] at hb
                  rcases hb with hb | hb
                  · exact e2 b hb
                  · rw [hb]; exact (e3 h8).1
              · rcases h6 with ⟨_, _, e1⟩ | ⟨d, c, e1, e2, e3, _⟩
                · exact e1
                · exact (e3 h8).2
            · intro k hk
              obtain ⟨q1, q2⟩ := h7 k hk
              simp only [List.length_append]
              refine ⟨by omega, ?_⟩
              have : bd ((clP a).2.1 ++ [[]]) k.2.2.2.1 = bd (clP a).2.1 k.2.2.2.1 := by
                simp only [bd, List.getD_eq_getElem?_getD]; rw [List.getElem?_append_left q1]
              rw [this]; exact q2
    · rw [if_neg h35] at hft ⊢
      by_cases h33 : L.getD s 0 = 33
      · rw [if_pos h33] at hft ⊢
        have hc : (clP a).2.2.2.2.2.1 = 0 := by
          by_cases hc : (clP a).2.2.2.2.2.1 = 0
          · exact hc
          · rw [(kwd_ft hc).1] at hft; exact hft
        obtain ⟨⟨h1, h2, h3, h4, h5, h6, h7⟩, h8⟩ := bi_clP h hc
        unfold kwd at hft ⊢
        by_cases g1 : (clP a).2.1 = []
        · rw [if_pos g1] at hft; exact absurd hft (blm_ft (by omega))
        · rw [if_neg g1] at hft ⊢
          by_cases g2 : isWdS L (s + 1) (lnE L s) 8 = false
          · rw [if_pos g2] at hft; exact absurd hft (blm_ft (by omega))
          · rw [if_neg g2] at hft ⊢
            have hw := ksz_b (by cases hh : isWdS L (s + 1) (lnE L s) 8 <;> simp_all) hle
            have hlen : 0 < (clP a).2.1.length := List.length_pos_iff.mpr g1
            have hks := ksz_ins (wrdS L (s + 1) (lnE L s)) (1 <<< ((clP a).2.1.length - 1)) (clP a).2.2.2.1
            exact ⟨h1, h2, h3, h4.ins hw.1 hw.2.1 hw.2.2.1 (by omega), by simp only; omega, h6, h7⟩
      · rw [if_neg h33] at hft ⊢
        by_cases g1 : a.2.1 = []
        · rw [if_pos g1] at hft; exact absurd hft (blm_ft (by omega))
        · rw [if_neg g1] at hft ⊢
          obtain ⟨h1, h2, h3, h4, h5, h6, h7⟩ := h
          have hT : TI tn 0 ((a.1, a.2.1, a.2.2.1, a.2.2.2.1, a.2.2.2.2.1, a.2.2.2.2.2.1, a.2.2.2.2.2.2.1, a.2.2.2.2.2.2.2.1, a.2.2.2.2.2.2.2.2.1, a.2.2.2.2.2.2.2.1, ln) : q_Cs) s := fun _ => by
            refine ⟨h1, h2, h3, h4, by simp only; omega, fun g => g, ?_, h7⟩
            rcases h6 with ⟨e1, _⟩ | e
            · exact absurd e1 g1
            · exact e
          obtain ⟨k1, k2, k3, k4, k5, k6, k7, k8⟩ := bi_txt htn hL hle _ hge hT hft hft
          refine ⟨k1, k2, k3, k4, ?_, Or.inr k7, k8⟩
          split <;> split at k5 <;> omega
theorem bi_lns {tn : Nat} (htn : 0 < tn) {L : List Nat} (hL : SrcOk L) (ln : Nat) (a : q_Cs) (s : Nat) (hs : s ≤ L.length + 1) (h : q_BI tn a s) (hft : (lns L ln a s).2.2.2.2.2.1 = 0) : q_BI tn (lns L ln a s) (L.length + 1) := by
  rw [lns] at hft ⊢
  by_cases h1 : s ≤ L.length ∧ a.2.2.2.2.2.1 = 0
  · rw [if_pos h1] at hft ⊢
    have hge := lnE_ge L s
    have hle := lnE_le L h1.1
    by_cases h2 : (lin L s (lnE L s) ln a).2.2.2.2.2.1 = 0
    · exact bi_lns htn hL (ln + 1) _ (lnE L s + 1) (by omega) (bi_lin htn hL h1.1 a h1.2 h h2) hft
    · rw [lns, if_neg (fun h9 => h2 h9.2)] at hft
      exact absurd hft h2
  · rw [if_neg h1] at hft ⊢
    obtain ⟨h1, h2, h3, h4, h5, h6, h7⟩ := h
    exact ⟨h1, h2, h3, h4, by omega, h6, h7⟩
termination_by L.length + 1 - s
decreasing_by all_goals omega
theorem bi_0 (tn : Nat) : q_BI tn cs0 0 := ⟨by simp [cs0], rfl, by simp [cs0], ⟨srt_nil, fun e he => by simp [cs0] at he⟩, by simp [cs0, ksz], Or.inl ⟨rfl, rfl, rfl⟩, fun k hk => by simp [cs0] at hk⟩
/-- a book that a source may say -/
def VB (ns bs : List (List Nat)) (ks : List (List Nat × Nat)) : Prop := ns.length = bs.length ∧ 1 ≤ bs.length ∧ bs.length ≤ 10 ∧ NmOk ns ∧ ns.Nodup ∧ (∀ t, t < bs.length → bOk bs.length 10 false (bd bs t) = true ∧ (bd bs t).length ≤ 255) ∧ ks.length ≤ 250 ∧ KO bs.length ks
theorem rsv_ok {tn : Nat} {L : List Nat} {ns : List (List Nat)} (hns : ns.length = tn) (lk : List q_Lk) (ft fl : Nat) (bs : List (List Nat)) (hft : (rsv L ns lk (ft, fl, bs)).1 = 0) (hr : ∀ u, u < bs.length → q_run tn 10 false (bd bs u) = some (10, false)) (hl : ∀ k ∈ lk, k.2.2.2.1 < bs.length ∧ slot tn (bd bs k.2.2.2.1) k.2.2.2.2) :
    ft = 0 ∧ shp bs (rsv L ns lk (ft, fl, bs)).2.2 ∧ ∀ u, u < bs.length → q_run tn 10 false (bd (rsv L ns lk (ft, fl, bs)).2.2 u) = some (10, false) := by
  induction lk generalizing ft fl bs with
  | nil => exact ⟨hft, ⟨rfl, fun u => rfl⟩, hr⟩
  | cons k r ih =>
    rw [rsv] at hft ⊢
    cases hn : nmAt (nmL L k) ns 0 with
    | none =>
      rw [hn] at hft
      simp only at hft ⊢
      have := (ih _ _ bs hft hr (fun q hq => hl q (by simp [hq]))).1
      split at this <;> omega
    | some t =>
      rw [hn] at hft
      simp only at hft ⊢
      have ht := nmAt_some hn
      obtain ⟨k1, k2⟩ := hl k (by simp)
      obtain ⟨i1, i2, i3⟩ := ih ft fl (q_setB bs k.2.2.2.1 k.2.2.2.2 t) hft (fun u hu => by
        rw [setB_len] at hu
        rw [setB_bd k1]
        split
        · rename_i e; subst e; exact set_run k2 (hr _ k1) (by omega)
        · exact hr u hu) (fun q hq => by
        obtain ⟨q1, q2⟩ := hl q (by simp [hq])
        rw [setB_len, setB_bd k1]
        refine ⟨q1, ?_⟩
        split
        · rename_i e; rw [e] at q2; exact set_slot k2 q2 (by omega)
        · exact q2)
      refine ⟨i1, ?_, fun u hu => i3 u (by rw [setB_len]; exact hu)⟩
      exact ⟨by rw [i2.1, setB_len], fun u => by rw [i2.2, setB_bdl k1]⟩
theorem chk_ok {bs : List (List Nat)} {hs : List Nat} (d : Nat) (ft fl : Nat) (h : (q_chk bs hs d (ft, fl)).1 = 0) : ft = 0 ∧ ∀ j, j < d → (bd bs (bs.length - (j + 1))).length ≤ 255 := by
  induction d generalizing ft fl with
  | zero => exact ⟨h, fun j hj => by omega⟩
  | succ d ih =>
    rw [q_chk] at h
    split at h
    · have := (ih _ _ h).1
      split at this <;> omega
    · rename_i h1
      obtain ⟨a, b⟩ := ih _ _ h
      refine ⟨a, fun j hj => ?_⟩
      by_cases h2 : j = d
      · rw [h2]; omega
      · exact b j (by omega)
theorem clP_ft {a : q_Cs} (h : (clP a).2.2.2.2.2.1 = 0) : a.2.2.2.2.2.1 = 0 := by
  by_cases h0 : a.2.2.2.2.2.1 = 0
  · exact h0
  · exfalso
    apply h0
    unfold clP at h
    split at h
    · simp only at h
      split at h
      · simp only [blm] at h; split at h
        · omega
        · exact h
      · exact h
    · exact h
theorem src_vb {L : List Nat} (hL : SrcOk L) (h7 : L.length ≤ 700) (hft : (q_fin L (lns L 0 cs0 0)).1 = 0) (hN : NmOk (lns L 0 cs0 0).1) :
    VB (lns L 0 cs0 0).1 (q_fin L (lns L 0 cs0 0)).2.2 (lns L 0 cs0 0).2.2.2.1 ∧ (q_fin L (lns L 0 cs0 0)).2.2.flatten.length + ksz (lns L 0 cs0 0).2.2.2.1 ≤ 701 := by
  generalize hA : lns L 0 cs0 0 = A at *
  have hcn := clP_ns A
  -- there are topics
  have hne : (clP A).2.1 ≠ [] := by
    intro h0
    unfold q_fin at hft
    simp only at hft
    rw [if_pos h0] at hft
    simp only at hft
    split at hft <;> omega
  unfold q_fin at hft ⊢
  simp only at hft ⊢
  rw [if_neg hne] at hft ⊢
  simp only at hft ⊢
  have hlen : 0 < (clP A).2.1.length := List.length_pos_iff.mpr hne
  obtain ⟨c1, c2⟩ := chk_ok _ _ _ hft
  have hft2 : (clP A).2.2.2.2.2.1 = 0 := by
    by_cases h0 : (clP A).2.2.2.2.2.1 = 0
    · exact h0
    · rw [(rsv_ft h0).1] at c1; exact c1
  have hft3 : A.2.2.2.2.2.1 = 0 := clP_ft hft2
  have hB : q_BI (clP A).2.1.length A (L.length + 1) := by
    rw [← hA]
    exact bi_lns (by rw [hA]; exact hlen) hL 0 cs0 0 (by omega) (bi_0 _) (by rw [hA]; exact hft3)
  obtain ⟨⟨h1, h2, h3, h4, h5, h6, h8⟩, h9⟩ := bi_clP hB hft2
  rw [h9, if_neg (by simp)] at h5
  have hrun : ∀ u, u < (clP A).2.1.length → q_run (clP A).2.1.length 10 false (bd (clP A).2.1 u) = some (10, false) := by
    rcases h6 with ⟨e, _⟩ | ⟨d, c, e1, e2, e3, _⟩
    · exact absurd e hne
    · intro u hu
      have := bd_mem hu
      rw [e1] at this
      simp only [List.mem_append, List.mem_singleton] at this
      rw [← e1] at this
      rcases this with g | g
      · exact e2 _ g
      · rw [g]; exact (e3 h9).1
  obtain ⟨r1, r2, r3⟩ := rsv_ok h2 (clP A).2.2.2.2.1 (clP A).2.2.2.2.2.1 (clP A).2.2.2.2.2.2.1 (clP A).2.1 c1 hrun h8
  have hk3 : ∀ m : List (List Nat × Nat), 2 * m.length ≤ ksz m := by
    intro m
    induction m with
    | nil => simp [ksz]
    | cons e r ih => simp only [ksz, List.map_cons, List.sum_cons, List.length_cons] at ih ⊢; omega
  have hk4 : ∀ m : List (List Nat × Nat), (∀ e ∈ m, 1 ≤ e.1.length) → 3 * m.length ≤ ksz m := by
    intro m
    induction m with
    | nil => intro _; simp [ksz]
    | cons e r ih =>
      intro he
      have := ih (fun x hx => he x (by simp [hx]))
      have := he e (by simp)
      simp only [ksz, List.map_cons, List.sum_cons, List.length_cons] at *; omega
  have hk5 := hk4 (clP A).2.2.2.1 (fun e he => (h4.2 e he).2.1)
  rw [hcn.1] at h1 h2
  rw [hcn.2.1] at h4 h5 hk5
  rw [← r2.1] at h2 h3 hlen h4
  refine ⟨⟨h2, by omega, h3, hN, h1, fun t ht => ⟨?_, ?_⟩, by omega, h4⟩, ?_⟩
  · have := r3 t (by rw [← r2.1]; exact ht)
    rw [r2.1]
    exact run_bOk _ _ _ this
  · have := c2 ((rsv L (clP A).1 (clP A).2.2.2.2.1 ((clP A).2.2.2.2.2.1, (clP A).2.2.2.2.2.2.1, (clP A).2.1)).2.2.length - (t + 1)) (by omega)
    rw [show (rsv L (clP A).1 (clP A).2.2.2.2.1 ((clP A).2.2.2.2.2.1, (clP A).2.2.2.2.2.2.1, (clP A).2.1)).2.2.length - ((rsv L (clP A).1 (clP A).2.2.2.2.1 ((clP A).2.2.2.2.2.1, (clP A).2.2.2.2.2.2.1, (clP A).2.1)).2.2.length - (t + 1) + 1) = t by omega] at this
    exact this
  · rw [shp_flat r2]; omega
