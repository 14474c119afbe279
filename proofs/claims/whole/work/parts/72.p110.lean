/-! Pure: an image's elements are bytes; its sum. -/
def q_By (l : List Nat) : Prop := ∀ x ∈ l, x < 256
theorem q_By.app {a b : List Nat} (ha : q_By a) (hb : q_By b) : q_By (a ++ b) := fun x hx => by
  simp only [List.mem_append] at hx
  rcases hx with hx | hx
  · exact ha x hx
  · exact hb x hx
theorem q_By.nil : q_By [] := fun x hx => by simp at hx
theorem q_By.cons {a : Nat} {b : List Nat} (ha : a < 256) (hb : q_By b) : q_By (a :: b) := fun x hx => by
  simp only [List.mem_cons] at hx
  rcases hx with hx | hx
  · rw [hx]; exact ha
  · exact hb x hx
theorem q_By.two {a b : Nat} (ha : a < 256) (hb : b < 256) : q_By [a, b] := q_By.cons ha (q_By.cons hb q_By.nil)
theorem q_By.one {a : Nat} (ha : a < 256) : q_By [a] := q_By.cons ha q_By.nil
theorem by_pr2 (n : Nat) : q_By (pr2 n) := q_By.two (by omega) (by omega)
theorem by_wd {w : List Nat} (h : q_Wd w) : q_By w := fun x hx => by have := h x hx; omega
theorem by_wrd {w : List Nat} (h : q_Wd w) (hl : w.length ≤ 12) : q_By (wrd w) := q_By.cons (by omega) (by_wd h)
theorem q_By.getD {l : List Nat} (h : q_By l) (i : Nat) : l.getD i 0 < 256 := by
  by_cases hi : i < l.length
  · rw [List.getD_eq_getElem?_getD, List.getElem?_eq_getElem hi]; exact h _ (List.getElem_mem hi)
  · rw [getD_ge (by omega)]; omega
theorem by_nm6 {w : List Nat} (h : q_Wd w) : q_By (nm6 w) := by
  have h2 := (by_wd h)
  exact q_By.cons (h2.getD 0) (q_By.cons (h2.getD 1) (q_By.cons (h2.getD 2) (q_By.cons (h2.getD 3) (q_By.cons (h2.getD 4) (q_By.cons (h2.getD 5) q_By.nil)))))
theorem by_lits {b : List Nat} (h : q_By b) (at0 : Nat) {n : Nat} (hn : n ≤ 128) : q_By (lits b at0 n) := by
  unfold lits
  split
  · exact q_By.nil
  · exact q_By.cons (by omega) (fun x hx => h x (List.mem_of_mem_drop (List.mem_of_mem_take hx)))
theorem by_pkS {b : List Nat} (h : q_By b) (h255 : b.length ≤ 255) (at0 li : Nat) (hl : li ≤ 128) : q_By (pkS b at0 li) := by
  rw [pkS]
  split
  · split
    · rename_i h1 h2
      have hb := best_ok h2
      have h63 : (q_best b at0).1 ≤ 63 := by rw [hb.2.2]; exact alk_le _ _ _ _ (by omega)
      exact q_By.app (by_lits h _ hl) (q_By.app (q_By.two (by omega) (by omega)) (by_pkS h h255 _ 0 (by omega)))
    · split
      · exact q_By.app (by_lits h _ (by omega)) (by_pkS h h255 _ 1 (by omega))
      · exact by_pkS h h255 _ (li + 1) (by omega)
  · exact by_lits h _ hl
termination_by b.length - at0
decreasing_by all_goals omega
theorem by_hdc (n k : Nat) : q_By (hdc n k) := by
  unfold hdc
  split
  · exact q_By.one (by split <;> omega)
  · exact q_By.nil
theorem by_lvs {n : Nat} {m : List (List Nat × Nat)} (h : KO n m) (k : Nat) (hk : k ≤ m.length) : q_By (lvs m k) := by
  induction k with
  | zero => exact q_By.nil
  | succ k ih =>
    have h2 := h.at (i := k) (by omega)
    exact q_By.app (ih (by omega)) (q_By.app (by_hdc _ _) (q_By.app (by_wrd h2.1 (by omega)) (by_pr2 _)))
theorem by_rowA {n : Nat} {m : List (List Nat × Nat)} (h : KO n m) {f s c : Nat} (hf : f + c ≤ 256) (hs : ∀ k, k < c → k * s < m.length) (k : Nat) (hk : k ≤ c) : q_By (rowA m f s c k) := by
  induction k with
  | zero => exact q_By.nil
  | succ k ih =>
    have h2 := h.at (hs k (by omega))
    exact q_By.app (ih (by omega)) (q_By.app (by_hdc _ _) (q_By.app (q_By.one (by omega)) (by_wrd h2.1 (by omega))))
theorem by_tree {n : Nat} {m : List (List Nat × Nat)} (h : KO n m) (hl : m.length ≤ 250) : q_By (tree m) := by
  have e1 : up4 m.length 4 = (m.length + 3) / 4 := rfl
  have e2 : up4 m.length 16 = (m.length + 15) / 16 := rfl
  have e3 : up4 m.length 64 = (m.length + 63) / 64 := rfl
  have e4 : up4 m.length 256 = (m.length + 255) / 256 := rfl
  have htn : treeN m.length < 256 := by
    unfold treeN
    split
    · split
      · split <;> omega
      · omega
    · omega
  have r0 := by_rowA h (f := 0) (s := 4) (c := up4 m.length 4) (by omega) (fun k hk => up4_mul (by omega) hk) _ (Nat.le_refl _)
  have r1 := by_rowA h (f := up4 m.length 4) (s := 16) (c := up4 m.length 16) (by omega) (fun k hk => up4_mul (by omega) hk) _ (Nat.le_refl _)
  have r2 := by_rowA h (f := up4 m.length 4 + up4 m.length 16) (s := 64) (c := up4 m.length 64) (by omega) (fun k hk => up4_mul (by omega) hk) _ (Nat.le_refl _)
  unfold tree
  refine q_By.app (q_By.app (q_By.one htn) (by_lvs h _ (Nat.le_refl _))) ?_
  split
  · refine q_By.app r0 ?_
    split
    · refine q_By.app r1 ?_
      split
      · exact r2
      · exact q_By.nil
    · exact q_By.nil
  · exact q_By.nil
theorem tpD_lt (b d : Nat) : ∀ x ∈ tpD b d, x < 10 := by
  induction d with
  | zero => intro x hx; simp [tpD] at hx
  | succ d ih =>
    intro x hx
    simp only [tpD, List.mem_append] at hx
    rcases hx with hx | hx
    · split at hx
      · simp only [List.mem_singleton] at hx; omega
      · simp at hx
    · exact ih x hx
theorem by_dlt {l : List Nat} (h : ∀ x ∈ l, x < 10) (p : Nat) : q_By (dlt p l) := by
  induction l generalizing p with
  | nil => exact q_By.nil
  | cons x r ih =>
    have := h x (by simp)
    exact q_By.cons (by omega) (ih (fun y hy => h y (by simp [hy])) x)
theorem tpD_le (b d : Nat) : (tpD b d).length ≤ d := by
  induction d with
  | zero => simp [tpD]
  | succ d ih =>
    simp only [tpD, List.length_append]
    split <;> simp <;> omega
theorem by_tpB (b : Nat) : q_By (tpB b) := q_By.cons (by have := tpD_le b 10; omega) (by_dlt (tpD_lt b 10) 0)
theorem by_idx {n : Nat} {m : List (List Nat × Nat)} (h : KW n m) (k : Nat) (hk : k ≤ m.length) : q_By (q_idx m k) := by
  induction k with
  | zero => exact q_By.nil
  | succ k ih =>
    have h2 := h.at (i := k) (by omega)
    exact q_By.app (ih (by omega)) (q_By.app (by_wrd h2.1 (by omega)) (by_tpB _))
theorem by_img0 {ns bs : List (List Nat)} {ks : List (List Nat × Nat)} (h : VB ns bs ks) : q_By (img0 ns bs ks (gwA bs 0 [])) := by
  have hb := fun {t} => h.body (t := t)
  obtain ⟨h1, h2, h3, h4, h5, h6, h7, h8⟩ := h
  have hh : ∀ t, t ≤ bs.length → q_By (hdr ns bs bs.length t) := by
    intro t ht
    induction t with
    | zero => exact q_By.nil
    | succ t ih =>
      rw [hdr_s ns bs (by omega)]
      exact q_By.app (ih (by omega)) (q_By.app (q_By.app (by_nm6 (h4 _ (bd_mem (by omega))).1) (by_pr2 _)) (by_pr2 _))
  have hp : ∀ t, t ≤ bs.length → q_By (pks bs t) := by
    intro t ht
    induction t with
    | zero => exact q_By.nil
    | succ t ih => exact q_By.app (ih (by omega)) (by_pkS (fun x hx => by have := (hb (show t < bs.length by omega)).1 x hx; omega) (h6 t (by omega)).2 0 0 (by omega))
  exact q_By.app (q_By.app (q_By.app (q_By.app (q_By.two (by omega) (by omega)) (hh _ (Nat.le_refl _))) (hp _ (Nat.le_refl _))) (by_tree h8 h7)) (q_By.app (by_pr2 _) (by_idx (gwA_kw bs) _ (Nat.le_refl _)))
theorem by_img {ns bs : List (List Nat)} {ks : List (List Nat × Nat)} (h : VB ns bs ks) : q_By (img ns bs ks (gwA bs 0 [])) := q_By.app (by_img0 h) (by_pr2 _)
theorem q_By.sum {l : List Nat} (h : q_By l) : l.sum ≤ 255 * l.length := by
  induction l with
  | nil => simp
  | cons x r ih =>
    have := ih (fun y hy => h y (by simp [hy]))
    have := h x (by simp)
    simp only [List.sum_cons, List.length_cons]; omega
theorem img_sum {ns bs : List (List Nat)} {ks : List (List Nat × Nat)} (h : VB ns bs ks) : (img0 ns bs ks (gwA bs 0 [])).sum < 2147483648 := by
  have h1 := (by_img0 h).sum
  have h2 := img_len1 h
  unfold img at h2
  rw [List.length_append] at h2
  omega
theorem VB.ksok {ns bs : List (List Nat)} {ks : List (List Nat × Nat)} (h : VB ns bs ks) : KsOk ks := fun i hi => by
  have h2 := h.2.2.2.2.2.2.2.at hi
  have := p10 h.2.2.1 h2.2.2.2.2
  exact ⟨h2.1, by omega, by omega⟩
theorem KW.ksok {n : Nat} (hn : n ≤ 10) {m : List (List Nat × Nat)} (h : KW n m) : KsOk m := fun i hi => by
  have h2 := h.at hi
  have := p10 hn h2.2.2.2.2
  exact ⟨h2.1, by omega, by omega⟩
theorem VB.wrok {N : Nat → Int64} {ns bs : List (List Nat)} {ks : List (List Nat × Nat)} (h : VB ns bs ks) (hN : ∀ t, t < bs.length → N t = lN (enc (bd ns t))) : WrOk N ns bs ks (gwA bs 0 []) :=
  ⟨h.1, fun t ht => ⟨hN t ht, (h.2.2.2.1 _ (bd_mem (by rw [h.1]; exact ht))).1⟩, h.ksok, (gwA_kw bs).ksok h.2.2.1, fun i hi => p10 h.2.2.1 ((gwA_kw bs).at hi).2.2.2.2⟩
theorem VB.pk {ns bs : List (List Nat)} {ks : List (List Nat × Nat)} (h : VB ns bs ks) {t : Nat} (ht : t < bs.length) : (pk (bd bs t)).length < 2147483648 := by
  have h2 := (h.2.2.2.2.2.1 t ht).2
  have := pk_len _ h2
  omega
