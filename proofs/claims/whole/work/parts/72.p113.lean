/-! Pure: what was packed is unpacked. -/
def q_At (J : List Nat) (p : Nat) (l : List Nat) : Prop := ∃ r, J.drop p = l ++ r
theorem at_app {J : List Nat} {p : Nat} {a b : List Nat} (h : q_At J p (a ++ b)) : q_At J p a ∧ q_At J (p + a.length) b := by
  obtain ⟨r, h⟩ := h
  refine ⟨⟨b ++ r, by rw [h, List.append_assoc]⟩, ⟨r, ?_⟩⟩
  rw [← List.drop_drop, h, List.append_assoc, List.drop_left]
theorem at_cons {J : List Nat} {p x : Nat} {l : List Nat} (h : q_At J p (x :: l)) : J.getD p 0 = x ∧ p < J.length ∧ q_At J (p + 1) l := by
  obtain ⟨r, h⟩ := h
  have hp : p < J.length := by
    rcases Nat.lt_or_ge p J.length with h1 | h1
    · exact h1
    · rw [List.drop_eq_nil_of_le h1] at h; cases h
  rw [drop_s hp] at h
  simp only [List.cons_append, List.cons.injEq] at h
  exact ⟨h.1, hp, r, h.2⟩
theorem at_seg {J : List Nat} {p : Nat} {l : List Nat} (h : q_At J p l) : seg J p l.length = l := by
  induction l generalizing p with
  | nil => rfl
  | cons x l ih =>
    have h1 := at_cons h
    rw [List.length_cons, seg, h1.1, ih h1.2.2]
theorem at_len {J : List Nat} {p : Nat} {l : List Nat} (h : q_At J p l) (hl : 0 < l.length) : p + l.length ≤ J.length := by
  obtain ⟨r, h⟩ := h
  have := congrArg List.length h
  rw [List.length_drop, List.length_append] at this
  omega
theorem at_nil (J : List Nat) (p : Nat) : q_At J p [] := ⟨J.drop p, rfl⟩
theorem at_all (J : List Nat) : q_At J 0 J := ⟨[], by simp⟩
set_option maxRecDepth 100000 in
theorem alk_same {b : List Nat} {at0 d : Nat} (n k : Nat) (h1 : n ≤ k) (h2 : k < alk b at0 d n) : b.getD (at0 + k) 0 = b.getD (at0 + k - d) 0 := by
  rw [alk] at h2
  split at h2
  · rename_i h3
    by_cases h4 : k = n
    · rw [h4]; exact h3.2.2
    · exact alk_same (n + 1) k (by omega) h2
  · omega
termination_by 63 - n
decreasing_by all_goals omega
theorem cpy_take {b : List Nat} {d : Nat} (hd : 1 ≤ d) (m a : Nat) (hda : d ≤ a) (hm : a + m ≤ b.length) (h : ∀ k, a ≤ k → k < a + m → b.getD k 0 = b.getD (k - d) 0) : cpy (b.take a) d m = b.take (a + m) := by
  induction m generalizing a with
  | zero => rfl
  | succ m ih =>
    have hl : (b.take a).length = a := by rw [List.length_take]; omega
    have hg : (b.take a).getD (a - d) 0 = b.getD (a - d) 0 := by
      simp only [List.getD_eq_getElem?_getD]
      rw [List.getElem?_take_of_lt (by omega)]
    rw [cpy, hl, hg, ← h a (Nat.le_refl _) (by omega), ← take_snoc b (by omega), ih (a + 1) (by omega) (by omega) (fun k h1 h2 => h k (by omega) (by omega))]
    congr 1; omega
theorem pce_lits {J b : List Nat} (hb : b.length ≤ 255) {p at0 n : Nat} (ha : at0 ≤ b.length) (hn : 0 < n) (hn2 : n ≤ 128) (hna : n ≤ at0) (h : q_At J p (lits b at0 n)) : pce J p (b.take (at0 - n)) = some (p + (lits b at0 n).length, b.take at0) := by
  rw [lits_len ha hna, if_neg (by omega)]
  unfold lits at h
  rw [if_neg (by omega)] at h
  obtain ⟨h1, h2, h3⟩ := at_cons h
  have hl : (b.take (at0 - n)).length = at0 - n := by rw [List.length_take]; omega
  have hl2 : ((b.drop (at0 - n)).take n).length = n := by rw [List.length_take, List.length_drop]; omega
  have h4 := at_seg h3
  rw [hl2] at h4
  unfold pce
  rw [h1, if_pos (by omega), if_pos (by omega), show n - 1 + 1 = n by omega, h4]
  congr 2
  · omega
  · have := List.take_add (l := b) (i := at0 - n) (j := n)
    rw [show at0 - n + n = at0 by omega] at this
    exact this.symm
theorem pce_copy {J b : List Nat} (hb : b.length ≤ 255) {p at0 : Nat} (h2 : 2 < (q_best b at0).1) (ha : at0 ≤ b.length) (h : q_At J p [128 + (q_best b at0).1 - 3, (q_best b at0).2]) : pce J p (b.take at0) = some (p + 2, b.take (at0 + (q_best b at0).1)) := by
  have hk := best_ok h2
  have hend := alk_end b at0 (q_best b at0).2 0 (by omega)
  rw [← hk.2.2] at hend
  have h63 : (q_best b at0).1 ≤ 63 := by rw [hk.2.2]; exact alk_le _ _ _ _ (by omega)
  obtain ⟨h1, h3, h4⟩ := at_cons h
  obtain ⟨h5, h6, h7⟩ := at_cons h4
  have hl : (b.take at0).length = at0 := by rw [List.length_take]; omega
  unfold pce
  rw [h1, h5, if_neg (by omega), if_neg (by omega), show 128 + (q_best b at0).1 - 3 - 125 = (q_best b at0).1 by omega]
  rw [cpy_take hk.1 _ _ hk.2.1 hend (fun k g1 g2 => by
    have := alk_same (b := b) (at0 := at0) (d := (q_best b at0).2) 0 (k - at0) (by omega) (by rw [← hk.2.2]; omega)
    rw [show at0 + (k - at0) = k by omega] at this
    exact this)]
theorem upk_s {J : List Nat} {f i p : Nat} {c : List Nat} {p' : Nat} {c' : List Nat} (h : pce J p c = some (p', c')) (hp : p < f) : upk J f (i + 1) p c = upk J f i p' c' := by
  rw [upk, if_pos hp, h]
theorem upk_lits {J b : List Nat} (hb : b.length ≤ 255) {p at0 n f i : Nat} (ha : at0 ≤ b.length) (hn2 : n ≤ 128) (hna : n ≤ at0) (h : q_At J p (lits b at0 n)) (hf : p + (lits b at0 n).length ≤ f) : ∃ j, j ≤ n ∧ upk J f (i + j) p (b.take (at0 - n)) = upk J f i (p + (lits b at0 n).length) (b.take at0) := by
  by_cases h0 : n = 0
  · subst h0; exact ⟨0, by omega, by simp [lits]⟩
  · have hll := lits_len (b := b) ha hna
    rw [if_neg h0] at hll
    exact ⟨1, by omega, upk_s (pce_lits hb ha (by omega) hn2 hna h) (by omega)⟩
theorem upk_mono {J : List Nat} {f : Nat} (i : Nat) {p : Nat} {c b : List Nat} (h : upk J f i p c = (true, b)) (j : Nat) (hj : i ≤ j) : upk J f j p c = (true, b) := by
  induction i generalizing p c j with
  | zero =>
    simp only [upk, Prod.mk.injEq, decide_eq_true_eq] at h
    cases j with
    | zero => simp [upk, h.1, h.2]
    | succ j => rw [upk, if_neg (by omega)]; simp [h.1, h.2]
  | succ i ih =>
    cases j with
    | zero => omega
    | succ j =>
      rw [upk] at h ⊢
      split
      · rename_i h1
        rw [if_pos h1] at h
        cases hp : pce J p c with
        | none => rw [hp] at h; simp at h
        | some q => rw [hp] at h; exact ih h j (by omega)
      · rename_i h1
        rw [if_neg h1] at h; exact h
set_option maxRecDepth 100000 in
theorem upk_pkS {J b : List Nat} (hb : b.length ≤ 255) (p at0 li : Nat) (ha : at0 ≤ b.length) (hl : li ≤ 128) (hla : li ≤ at0) (h : q_At J p (pkS b at0 li)) : upk J (p + (pkS b at0 li).length) (b.length - (at0 - li)) p (b.take (at0 - li)) = (true, b) := by
  rw [pkS] at h ⊢
  by_cases h1 : at0 < b.length
  · rw [dif_pos h1] at h ⊢
    by_cases h2 : 2 < (q_best b at0).1
    · rw [dif_pos h2] at h ⊢
      have hk := best_ok h2
      have hend := alk_end b at0 (q_best b at0).2 0 (by omega)
      rw [← hk.2.2] at hend
      obtain ⟨a1, a2⟩ := at_app h
      obtain ⟨a3, a4⟩ := at_app a2
      have ih := upk_pkS hb (p + (lits b at0 li).length + [128 + (q_best b at0).1 - 3, (q_best b at0).2].length) (at0 + (q_best b at0).1) 0 hend (by omega) (by omega) a4
      simp only [List.length_append, List.length_cons, List.length_nil, Nat.sub_zero] at ih a4 ⊢
      rw [show p + (lits b at0 li).length + (0 + 1 + 1) + (pkS b (at0 + (q_best b at0).1) 0).length = p + ((lits b at0 li).length + (0 + 1 + 1 + (pkS b (at0 + (q_best b at0).1) 0).length)) by omega] at ih
      have hc := upk_s (i := b.length - (at0 + (q_best b at0).1)) (pce_copy hb h2 ha a3) (f := p + ((lits b at0 li).length + (0 + 1 + 1 + (pkS b (at0 + (q_best b at0).1) 0).length))) (by omega)
      rw [show p + (lits b at0 li).length + 2 = p + (lits b at0 li).length + (0 + 1 + 1) by omega, ih] at hc
      obtain ⟨j, hj, hq⟩ := upk_lits (i := b.length - (at0 + (q_best b at0).1) + 1) hb ha hl hla a1 (f := p + ((lits b at0 li).length + (0 + 1 + 1 + (pkS b (at0 + (q_best b at0).1) 0).length))) (by omega)
      rw [hc] at hq
      exact upk_mono _ hq _ (by omega)
    · rw [dif_neg h2] at h ⊢
      by_cases h3 : li = 128
      · rw [if_pos h3] at h ⊢
        subst h3
        obtain ⟨a1, a2⟩ := at_app h
        have ih := upk_pkS hb (p + (lits b at0 128).length) (at0 + 1) 1 (by omega) (by omega) (by omega) a2
        simp only [List.length_append] at ih ⊢
        rw [show at0 + 1 - 1 = at0 by omega, Nat.add_assoc] at ih
        obtain ⟨j, hj, hq⟩ := upk_lits (i := b.length - at0) hb ha hl hla a1 (f := p + ((lits b at0 128).length + (pkS b (at0 + 1) 1).length)) (by omega)
        rw [ih] at hq
        exact upk_mono _ hq _ (by omega)
      · rw [if_neg h3] at h ⊢
        have ih := upk_pkS hb p (at0 + 1) (li + 1) (by omega) (by omega) (by omega) h
        rw [show at0 + 1 - (li + 1) = at0 - li by omega] at ih
        exact ih
  · rw [dif_neg h1] at h ⊢
    have hae : at0 = b.length := by omega
    obtain ⟨j, hj, hq⟩ := upk_lits (i := 0) hb ha hl hla h (f := p + (lits b at0 li).length) (by omega)
    have : upk J (p + (lits b at0 li).length) 0 (p + (lits b at0 li).length) (b.take at0) = (true, b) := by
      rw [hae, List.take_length]; simp [upk]
    rw [this] at hq
    exact upk_mono _ hq _ (by omega)
termination_by b.length - at0
decreasing_by all_goals omega
theorem upk_pk {J b : List Nat} (hb : b.length ≤ 255) {p : Nat} (h : q_At J p (pk b)) : upk J (p + (pk b).length) 255 p [] = (true, b) := by
  have := upk_pkS hb p 0 0 (by omega) (by omega) (by omega) h
  simp only [Nat.sub_zero, List.take_zero] at this
  exact upk_mono _ this _ (by omega)
