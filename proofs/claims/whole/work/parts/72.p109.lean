/-! Pure: how long an image is, and that its elements are bytes. -/
theorem pkS_len (b : List Nat) (at0 li : Nat) (ha : at0 ≤ b.length) (hl : li ≤ 128) (hla : li ≤ at0) : (pkS b at0 li).length ≤ li + (b.length - at0) + 1 + (li + (b.length - at0)) / 128 := by
  have hll := lits_len (b := b) (at0 := at0) (n := li) ha hla
  have hll2 : (lits b at0 li).length ≤ li + 1 := by rw [hll]; split <;> omega
  rw [pkS]
  split
  · rename_i h1
    split
    · rename_i h2
      have hb := best_ok h2
      have hend := alk_end b at0 (q_best b at0).2 0 (by omega)
      rw [← hb.2.2] at hend
      have := pkS_len b (at0 + (q_best b at0).1) 0 hend (by omega) (by omega)
      simp only [List.length_append, List.length_cons, List.length_nil]
      omega
    · split
      · rename_i h3
        have := pkS_len b (at0 + 1) 1 (by omega) (by omega) (by omega)
        subst h3
        simp only [List.length_append]
        omega
      · have := pkS_len b (at0 + 1) (li + 1) (by omega) (by omega) (by omega)
        omega
  · omega
termination_by b.length - at0
decreasing_by all_goals omega
theorem pk_len (b : List Nat) (h : b.length ≤ 255) : (pk b).length ≤ b.length + 2 := by
  have := pkS_len b 0 0 (by omega) (by omega) (by omega)
  unfold pk; omega
theorem pks_len {bs : List (List Nat)} (h : ∀ t, t < bs.length → (bd bs t).length ≤ 255) (t : Nat) (ht : t ≤ bs.length) : (pks bs t).length ≤ q_off bs t + 2 * t := by
  induction t with
  | zero => simp [pks]
  | succ t ih =>
    have := ih (by omega)
    have := pk_len (bd bs t) (h t (by omega))
    rw [off_succ (by omega)]
    simp only [pks, List.length_append]; omega
theorem mget {m : List (List Nat × Nat)} {k : Nat} (h : k < m.length) : m.getD k ([], 0) ∈ m := by
  rw [List.getD_eq_getElem?_getD, List.getElem?_eq_getElem h]; exact List.getElem_mem h
theorem mtake {m : List (List Nat × Nat)} {k : Nat} (h : k < m.length) : m.take (k + 1) = m.take k ++ [m.getD k ([], 0)] := by
  rw [List.take_succ_eq_append_getElem h, List.getD_eq_getElem?_getD, List.getElem?_eq_getElem h]; rfl
theorem ksz_snoc (m : List (List Nat × Nat)) (e : List Nat × Nat) : ksz (m ++ [e]) = ksz m + (e.1.length + 2) := by simp [ksz]
theorem hdc_len (n k : Nat) : (hdc n k).length ≤ 1 := by unfold hdc; split <;> simp
theorem lvs_len (m : List (List Nat × Nat)) (k : Nat) (h : k ≤ m.length) : (lvs m k).length ≤ ksz (m.take k) + 2 * k := by
  induction k with
  | zero => simp [lvs]
  | succ k ih =>
    have := ih (by omega)
    have h2 := hdc_len m.length k
    rw [lvs_s, mtake (by omega), ksz_snoc]
    simp only [mw, mb, List.length_append, wrd, List.length_cons, pr2, List.length_nil]; omega
theorem rowA_len {m : List (List Nat × Nat)} (h8 : ∀ i, i < m.length → (mw m i).length ≤ 8) (f s n : Nat) (hn : ∀ k, k < n → k * s < m.length) (k : Nat) (hk : k ≤ n) : (rowA m f s n k).length ≤ 11 * k := by
  induction k with
  | zero => simp [rowA]
  | succ k ih =>
    have := ih (by omega)
    have h2 := hdc_len n k
    have h3 := h8 _ (hn k (by omega))
    rw [rowA_s]
    simp only [List.length_append, wrd, List.length_cons, List.length_nil]; omega
theorem tree_len {m : List (List Nat × Nat)} (h8 : ∀ i, i < m.length → (mw m i).length ≤ 8) : (tree m).length ≤ 1 + ksz m + 2 * m.length + 11 * ((m.length + 3) / 4 + (m.length + 15) / 16 + (m.length + 63) / 64) := by
  have l0 := lvs_len m m.length (Nat.le_refl _)
  rw [List.take_length] at l0
  have r0 := rowA_len h8 0 4 (up4 m.length 4) (fun k hk => up4_mul (by omega) hk) _ (Nat.le_refl _)
  have r1 := rowA_len h8 (up4 m.length 4) 16 (up4 m.length 16) (fun k hk => up4_mul (by omega) hk) _ (Nat.le_refl _)
  have r2 := rowA_len h8 (up4 m.length 4 + up4 m.length 16) 64 (up4 m.length 64) (fun k hk => up4_mul (by omega) hk) _ (Nat.le_refl _)
  have e1 : up4 m.length 4 = (m.length + 3) / 4 := rfl
  have e2 : up4 m.length 16 = (m.length + 15) / 16 := rfl
  have e3 : up4 m.length 64 = (m.length + 63) / 64 := rfl
  unfold tree
  split
  · split
    · split
      · simp only [List.length_append, List.length_cons, List.length_nil]; omega
      · simp only [List.length_append, List.length_cons, List.length_nil]; omega
    · simp only [List.length_append, List.length_cons, List.length_nil]; omega
  · simp only [List.length_append, List.length_cons, List.length_nil]; omega
/-- how many topics are told by bits -/
theorem tpD_or (x y d : Nat) : (tpD (x ||| y) d).length ≤ (tpD x d).length + (tpD y d).length := by
  induction d with
  | zero => simp [tpD]
  | succ d ih =>
    simp only [tpD, List.length_append]
    have h : (x ||| y) >>> (9 - d) % 2 = 1 ↔ x >>> (9 - d) % 2 = 1 ∨ y >>> (9 - d) % 2 = 1 := by
      rw [Nat.shiftRight_or_distrib]; exact Nat.or_mod_two_eq_one
    by_cases h1 : x >>> (9 - d) % 2 = 1
    · rw [if_pos h1, if_pos (h.mpr (Or.inl h1))]; simp only [List.length_cons, List.length_nil]; omega
    · by_cases h2 : y >>> (9 - d) % 2 = 1
      · rw [if_pos h2, if_pos (h.mpr (Or.inr h2)), if_neg h1]; simp only [List.length_cons, List.length_nil]; omega
      · rw [if_neg h1, if_neg h2, if_neg (fun h3 => (h.mp h3).elim h1 h2)]; simp only [List.length_nil]; omega
theorem tpD_1 : ∀ t : Fin 10, (tpD (1 <<< t.val) 10).length = 1 := by decide +kernel
def wsz (m : List (List Nat × Nat)) : Nat := (m.map fun e => e.1.length + 2 + (tpD e.2 10).length).sum
theorem wsz_ins (w : List Nat) {t : Nat} (ht : t < 10) (m : List (List Nat × Nat)) : wsz (insW w (1 <<< t) m) ≤ wsz m + (w.length + 3) := by
  have h1 := tpD_1 ⟨t, ht⟩
  simp only at h1
  induction m with
  | nil => simp [insW, wsz, h1]
  | cons e r ih =>
    rw [insW]
    split
    · simp only [wsz, List.map_cons, List.sum_cons] at ih ⊢; omega
    · split
      · have := tpD_or e.2 (1 <<< t) 10
        simp only [wsz, List.map_cons, List.sum_cons]; omega
      · simp only [wsz, List.map_cons, List.sum_cons]; omega
theorem dlt_len (p : Nat) (l : List Nat) : (dlt p l).length = l.length := by
  induction l generalizing p with
  | nil => rfl
  | cons x r ih => simp [dlt, ih]
theorem idx_len (m : List (List Nat × Nat)) (k : Nat) (h : k ≤ m.length) : (q_idx m k).length = wsz (m.take k) := by
  induction k with
  | zero => simp [q_idx, wsz]
  | succ k ih =>
    have := ih (by omega)
    rw [idx_s, mtake (by omega)]
    simp only [mw, mb, List.length_append, wrd, tpB, List.length_cons, dlt_len, this, wsz, List.map_append, List.map_cons, List.map_nil, List.sum_append, List.sum_cons, List.sum_nil]
    omega
theorem wd12_len (r : List Nat) : (wd12 r).length ≤ r.length := by simp [wd12]; omega
theorem gw_sz {t : Nat} (ht : t < 10) {b : List Nat} (hn : nlast b) (p : Nat) (hp : p ≤ b.length) (m : List (List Nat × Nat)) : wsz (gw t b p m) ≤ wsz m + 2 * (b.length - p) := by
  rw [gw]
  split
  · rename_i h1
    split
    · have := gw_sz ht hn (p + 1) (by omega) m; omega
    · rename_i h2
      have h3 := letRun_lt h1 hn
      have h4 : 0 < (letRun b p b.length).length := List.length_pos_iff.mpr h2
      have := gw_sz ht hn (p + (letRun b p b.length).length + 1) (by omega) (insW (wd12 (letRun b p b.length)) (1 <<< t) m)
      have := wsz_ins (wd12 (letRun b p b.length)) ht m
      have := wd12_len (letRun b p b.length)
      omega
  · omega
termination_by b.length - p
decreasing_by all_goals omega
theorem gwA_sz {bs : List (List Nat)} (h10 : bs.length ≤ 10) (hn : ∀ t, t < bs.length → nlast (bd bs t)) (t : Nat) (ht : t ≤ bs.length) (m : List (List Nat × Nat)) : wsz (gwA bs t m) ≤ wsz m + 2 * (bs.flatten.length - q_off bs t) := by
  rw [gwA]
  split
  · rename_i h1
    have := gwA_sz h10 hn (t + 1) (by omega) (gw t (bd bs t) 0 m)
    have := gw_sz (t := t) (by omega) (hn t h1) 0 (by omega) m
    have := off_succ h1
    have := off_end h1
    omega
  · omega
termination_by bs.length - t
decreasing_by all_goals omega
theorem bOk_facts {tn : Nat} (h10 : tn ≤ 10) (n : Nat) : ∀ (b : List Nat) (bf : Nat) (em : Bool), b.length ≤ n → bOk tn bf em b = true → (∀ x ∈ b, x < 127) ∧ (b = [] ∨ b.getD (b.length - 1) 0 = 10) ∧ lkOk b = true ∧ (b = [] → bf = 10) := by
  induction n with
  | zero =>
    intro b bf em hb h
    cases b with
    | nil => exact ⟨by simp, Or.inl rfl, by simp [lkOk], fun _ => by simpa [bOk] using h⟩
    | cons x r => simp at hb
  | succ n ih =>
    intro b bf em hb h
    cases b with
    | nil => exact ⟨by simp, Or.inl rfl, by simp [lkOk], fun _ => by simpa [bOk] using h⟩
    | cons x r =>
      simp only [List.length_cons] at hb
      rw [bOk_cons] at h
      have last : ∀ (y : Nat) (q : List Nat), q ≠ [] → (y :: q).getD ((y :: q).length - 1) 0 = q.getD (q.length - 1) 0 := by
        intro y q hq
        have : 0 < q.length := List.length_pos_iff.mpr hq
        rw [List.length_cons, show q.length + 1 - 1 = (q.length - 1) + 1 by omega, List.getD_cons_succ]
      by_cases h1 : x = 1
      · rw [if_pos h1] at h
        obtain ⟨a, c, d, e⟩ := ih r _ _ (by omega) h
        refine ⟨?_, Or.inr ?_, ?_, fun g => by cases g⟩
        · intro y hy; simp only [List.mem_cons] at hy; rcases hy with hy | hy
          · omega
          · exact a y hy
        · by_cases hr : r = []
          · have := e hr; omega
          · rw [last _ _ hr]; exact c.resolve_left hr
        · subst h1; cases r <;> simp_all [lkOk]
      · rw [if_neg h1] at h
        by_cases h2 : x = 2
        · rw [if_pos h2] at h
          cases r with
          | nil => cases h
          | cons t r' =>
            simp only [Bool.and_eq_true, decide_eq_true_eq, List.length_cons] at h hb
            obtain ⟨a, c, d, e⟩ := ih r' _ _ (by omega) h.2
            refine ⟨?_, Or.inr ?_, ?_, fun g => by cases g⟩
            · intro y hy; simp only [List.mem_cons] at hy; rcases hy with hy | hy | hy
              · omega
              · omega
              · exact a y hy
            · by_cases hr : r' = []
              · have := e hr; omega
              · rw [last _ _ (by simp), last _ _ hr]; exact c.resolve_left hr
            · subst h2; simp [lkOk, d]
        · rw [if_neg h2] at h
          simp only [Bool.and_eq_true] at h
          obtain ⟨a, c, d, e⟩ := ih r _ _ (by omega) h.2
          have hm := h.1.1
          have hx : x < 127 := by
            unfold mayF at hm
            split at hm
            · omega
            · simp only [decide_eq_true_eq] at hm; omega
          refine ⟨?_, Or.inr ?_, ?_, fun g => by cases g⟩
          · intro y hy; simp only [List.mem_cons] at hy; rcases hy with hy | hy
            · omega
            · exact a y hy
          · by_cases hr : r = []
            · rw [hr]; exact e hr
            · rw [last _ _ hr]; exact c.resolve_left hr
          · cases r with
            | nil => simp [lkOk, h2]
            | cons y r' => simp only [lkOk, h2, if_false]; exact d
theorem VB.body {ns bs : List (List Nat)} {ks : List (List Nat × Nat)} (h : VB ns bs ks) {t : Nat} (ht : t < bs.length) : (∀ x ∈ bd bs t, x < 127) ∧ nlast (bd bs t) ∧ lkOk (bd bs t) = true := by
  obtain ⟨h1, h2, h3, h4, h5, h6, h7, h8⟩ := h
  obtain ⟨a, c, d, _⟩ := bOk_facts h3 _ _ _ _ (Nat.le_refl _) (h6 t ht).1
  refine ⟨a, ?_, d⟩
  rcases c with c | c
  · exact Or.inl c
  · exact Or.inr (by rw [c]; decide)
def KW (n : Nat) (m : List (List Nat × Nat)) : Prop := ∀ e ∈ m, q_Wd e.1 ∧ 1 ≤ e.1.length ∧ e.1.length ≤ 12 ∧ 1 ≤ e.2 ∧ e.2 < 2 ^ n
theorem gwA_kw (bs : List (List Nat)) : KW bs.length (gwA bs 0 []) := gwA_ind (P := KW bs.length) (fun t m r ht h hr hl => by
  have hb := shl_lt ht
  refine insW_all h ⟨?_, ?_, by simp [wd12]; omega, hb.1, hb.2⟩ (fun e he => ⟨he.1, he.2.1, he.2.2.1, Nat.le_trans he.2.2.2.1 Nat.left_le_or, Nat.or_lt_two_pow he.2.2.2.2 hb.2⟩)
  · intro x hx
    exact q_Wd.sm hl x (List.mem_of_mem_take hx)
  · have : 0 < r.length := List.length_pos_iff.mpr hr
    simp [wd12]; omega) 0 [] (fun e he => by simp at he)
theorem KO.at {n : Nat} {m : List (List Nat × Nat)} (h : KO n m) {i : Nat} (hi : i < m.length) : q_Wd (mw m i) ∧ 1 ≤ (mw m i).length ∧ (mw m i).length ≤ 8 ∧ 1 ≤ mb m i ∧ mb m i < 2 ^ n := h.2 _ (mget hi)
theorem KW.at {n : Nat} {m : List (List Nat × Nat)} (h : KW n m) {i : Nat} (hi : i < m.length) : q_Wd (mw m i) ∧ 1 ≤ (mw m i).length ∧ (mw m i).length ≤ 12 ∧ 1 ≤ mb m i ∧ mb m i < 2 ^ n := h _ (mget hi)
theorem p10 {n b : Nat} (hn : n ≤ 10) (h : b < 2 ^ n) : b < 1024 := Nat.lt_of_lt_of_le h (Nat.le_trans (Nat.pow_le_pow_right (by omega) hn) (by decide))
theorem img_len {ns bs : List (List Nat)} {ks : List (List Nat × Nat)} (h : VB ns bs ks) : (img ns bs ks (gwA bs 0 [])).length ≤ 127 + 3 * bs.flatten.length + ksz ks + 2 * ks.length + 11 * ((ks.length + 3) / 4 + (ks.length + 15) / 16 + (ks.length + 63) / 64) := by
  have hb := fun {t} => h.body (t := t)
  obtain ⟨h1, h2, h3, h4, h5, h6, h7, h8⟩ := h
  have l1 := pks_len (fun t ht => (h6 t ht).2) bs.length (Nat.le_refl _)
  rw [off_all] at l1
  have l2 := tree_len (m := ks) (fun i hi => (h8.at hi).2.2.1)
  have l3 := gwA_sz h3 (fun t ht => (hb ht).2.1) 0 (by omega) []
  rw [off_0] at l3
  have l4 := idx_len (gwA bs 0 []) _ (Nat.le_refl _)
  rw [List.take_length] at l4
  have l5 : wsz [] = 0 := rfl
  unfold img img0
  simp only [List.length_append, hdr_len, List.length_cons, List.length_nil, pr2]
  omega
theorem ksz_le {n : Nat} {m : List (List Nat × Nat)} (h : KO n m) : ksz m ≤ 10 * m.length ∧ 3 * m.length ≤ ksz m := by
  have h2 := h.2
  clear h
  induction m with
  | nil => simp [ksz]
  | cons e r ih =>
    obtain ⟨i1, i2⟩ := ih (fun x hx => h2 x (by simp [hx]))
    have := h2 e (by simp)
    simp only [ksz, List.map_cons, List.sum_cons, List.length_cons] at *; omega
theorem flat_le {bs : List (List Nat)} (h : ∀ t, t < bs.length → (bd bs t).length ≤ 255) : bs.flatten.length ≤ 255 * bs.length := by
  rw [← off_all]
  have : ∀ t, t ≤ bs.length → q_off bs t ≤ 255 * t := by
    intro t ht
    induction t with
    | zero => simp [q_off]
    | succ t ih => have := ih (by omega); have := h t (by omega); rw [off_succ (by omega)]; omega
  exact this _ (Nat.le_refl _)
theorem img_len1 {ns bs : List (List Nat)} {ks : List (List Nat × Nat)} (h : VB ns bs ks) : (img ns bs ks (gwA bs 0 [])).length ≤ 20000 := by
  have h1 := img_len h
  have h2 := ksz_le h.2.2.2.2.2.2.2
  have h3 := flat_le (fun t ht => (h.2.2.2.2.2.1 t ht).2)
  have h4 := h.2.2.1
  have h5 := h.2.2.2.2.2.2.1
  omega
theorem img_len2 {ns bs : List (List Nat)} {ks : List (List Nat × Nat)} (h : VB ns bs ks) (ht : bs.flatten.length + ksz ks ≤ 701) : (img ns bs ks (gwA bs 0 [])).length ≤ 3000 := by
  have h1 := img_len h
  have h2 := ksz_le h.2.2.2.2.2.2.2
  omega
