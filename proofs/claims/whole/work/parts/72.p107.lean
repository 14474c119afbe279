/-! Pure: what a source without fault gives: bodies. -/
def q_run (tn : Nat) : Nat → Bool → List Nat → Option (Nat × Bool)
  | bf, em, [] => some (bf, em)
  | bf, em, x :: r => if x = 1 then q_run tn 1 (!em) r else if x = 2 then (match r with
    | [] => none
    | t :: r' => if t < tn then q_run tn 2 em r' else none) else if (mayF bf x && !(decide (x = 10) && em)) = true then q_run tn x em r else none
theorem run_cons (tn bf : Nat) (em : Bool) (x : Nat) (r : List Nat) : q_run tn bf em (x :: r) = if x = 1 then q_run tn 1 (!em) r else if x = 2 then (match r with
    | [] => none
    | t :: r' => if t < tn then q_run tn 2 em r' else none) else if (mayF bf x && !(decide (x = 10) && em)) = true then q_run tn x em r else none := by
  cases r <;> rfl
theorem run_appN {tn : Nat} (n : Nat) : ∀ (b : List Nat) (bf : Nat) (em : Bool) (s : Nat × Bool), b.length ≤ n → q_run tn bf em b = some s → ∀ (c : List Nat), q_run tn bf em (b ++ c) = q_run tn s.1 s.2 c := by
  induction n with
  | zero =>
    intro b bf em s hb h c
    cases b with
    | nil => simp only [q_run, Option.some.injEq] at h; subst h; rfl
    | cons x r => simp at hb
  | succ n ih =>
    intro b bf em s hb h c
    cases b with
    | nil => simp only [q_run, Option.some.injEq] at h; subst h; rfl
    | cons x r =>
      simp only [List.length_cons] at hb
      rw [run_cons] at h
      rw [List.cons_append, run_cons]
      by_cases h1 : x = 1
      · rw [if_pos h1] at h ⊢; exact ih r _ _ s (by omega) h c
      · rw [if_neg h1] at h ⊢
        by_cases h2 : x = 2
        · rw [if_pos h2] at h ⊢
          cases r with
          | nil => cases h
          | cons t r' =>
            simp only [List.cons_append, List.length_cons] at h hb ⊢
            by_cases h3 : t < tn
            · rw [if_pos h3] at h ⊢; exact ih r' _ _ s (by omega) h c
            · rw [if_neg h3] at h; cases h
        · rw [if_neg h2] at h ⊢
          by_cases h3 : (mayF bf x && !(decide (x = 10) && em)) = true
          · rw [if_pos h3] at h ⊢; exact ih r _ _ s (by omega) h c
          · rw [if_neg h3] at h; cases h
theorem run_app {tn : Nat} (b : List Nat) (bf : Nat) (em : Bool) {s : Nat × Bool} (h : q_run tn bf em b = some s) (c : List Nat) : q_run tn bf em (b ++ c) = q_run tn s.1 s.2 c := run_appN b.length b bf em s (Nat.le_refl _) h c
theorem run_bOkN {tn : Nat} (n : Nat) : ∀ (b : List Nat) (bf : Nat) (em e : Bool), b.length ≤ n → q_run tn bf em b = some (10, e) → bOk tn bf em b = true := by
  induction n with
  | zero =>
    intro b bf em e hb h
    cases b with
    | nil => simp only [q_run, Option.some.injEq, Prod.mk.injEq] at h; simp [bOk, h.1]
    | cons x r => simp at hb
  | succ n ih =>
    intro b bf em e hb h
    cases b with
    | nil => simp only [q_run, Option.some.injEq, Prod.mk.injEq] at h; simp [bOk, h.1]
    | cons x r =>
      simp only [List.length_cons] at hb
      rw [run_cons] at h
      rw [bOk_cons]
      by_cases h1 : x = 1
      · rw [if_pos h1] at h ⊢; exact ih r _ _ e (by omega) h
      · rw [if_neg h1] at h ⊢
        by_cases h2 : x = 2
        · rw [if_pos h2] at h ⊢
          cases r with
          | nil => cases h
          | cons t r' =>
            simp only [List.length_cons] at h hb ⊢
            by_cases h3 : t < tn
            · rw [if_pos h3] at h; rw [decide_eq_true h3, Bool.true_and]; exact ih r' _ _ e (by omega) h
            · rw [if_neg h3] at h; cases h
        · rw [if_neg h2] at h ⊢
          by_cases h3 : (mayF bf x && !(decide (x = 10) && em)) = true
          · rw [if_pos h3] at h; rw [h3, Bool.true_and]; exact ih r _ _ e (by omega) h
          · rw [if_neg h3] at h; cases h
theorem run_bOk {tn : Nat} (b : List Nat) (bf : Nat) (em : Bool) {e : Bool} (h : q_run tn bf em b = some (10, e)) : bOk tn bf em b = true := run_bOkN b.length b bf em e (Nat.le_refl _) h
theorem run_1 {tn : Nat} {b : List Nat} {bf : Nat} {em : Bool} (h : q_run tn 10 false b = some (bf, em)) : q_run tn 10 false (b ++ [1]) = some (1, !em) := by
  rw [run_app b 10 false h]; rfl
theorem run_2 {tn : Nat} {b : List Nat} {bf : Nat} {em : Bool} (h : q_run tn 10 false b = some (bf, em)) (ht : 0 < tn) : q_run tn 10 false (b ++ [2, 0]) = some (2, em) := by
  rw [run_app b 10 false h, run_cons, if_neg (by decide), if_pos rfl]; simp only; rw [if_pos ht]; rfl
theorem run_x {tn : Nat} {b : List Nat} {bf : Nat} {em : Bool} (h : q_run tn 10 false b = some (bf, em)) {x : Nat} (h1 : ¬ x = 1) (h2 : ¬ x = 2) (h3 : mayF bf x = true) (h4 : ¬ (x = 10 ∧ em = true)) : q_run tn 10 false (b ++ [x]) = some (x, em) := by
  rw [run_app b 10 false h, run_cons, if_neg h1, if_neg h2, if_pos]
  · rfl
  · rw [h3, Bool.true_and]
    cases em with
    | false => simp
    | true => simp at h4; simp [h4]
/-- a place that tells where a link leads -/
def slot (tn : Nat) (b : List Nat) (i : Nat) : Prop := ∃ p q y s, b = p ++ 2 :: y :: q ∧ i = p.length + 1 ∧ q_run tn 10 false p = some s
theorem slot_app {tn : Nat} {b : List Nat} {i : Nat} (h : slot tn b i) (c : List Nat) : slot tn (b ++ c) i := by
  obtain ⟨p, q, y, s, h1, h2, h3⟩ := h
  exact ⟨p, q ++ c, y, s, by rw [h1]; simp, h2, h3⟩
theorem set_mid (p q : List Nat) (y z : Nat) : (p ++ 2 :: y :: q).set (p.length + 1) z = p ++ 2 :: z :: q := by
  rw [List.set_append_right _ _ (by omega), show p.length + 1 - p.length = 1 by omega]; rfl
theorem run_lk {tn : Nat} {p : List Nat} {s : Nat × Bool} (h : q_run tn 10 false p = some s) (y : Nat) (q : List Nat) : q_run tn 10 false (p ++ 2 :: y :: q) = if y < tn then q_run tn 2 s.2 q else none := by
  rw [run_app p 10 false h, run_cons, if_neg (by decide), if_pos rfl]
theorem run_lk1 {tn : Nat} {p : List Nat} {s : Nat × Bool} (h : q_run tn 10 false p = some s) : q_run tn 10 false (p ++ [2]) = none := by
  rw [run_app p 10 false h, run_cons, if_neg (by decide), if_pos rfl]
theorem set_run {tn : Nat} {b : List Nat} {i : Nat} (h : slot tn b i) {s : Nat × Bool} (hr : q_run tn 10 false b = some s) {z : Nat} (hz : z < tn) : q_run tn 10 false (b.set i z) = some s := by
  obtain ⟨p, q, y, s2, rfl, rfl, h3⟩ := h
  rw [run_lk h3] at hr
  rw [set_mid, run_lk h3, if_pos hz]
  split at hr
  · exact hr
  · cases hr
theorem set_slot {tn : Nat} {b : List Nat} {i j : Nat} (h : slot tn b i) (hj : slot tn b j) {z : Nat} (hz : z < tn) : slot tn (b.set i z) j := by
  obtain ⟨p, q, y, s, h1, rfl, h3⟩ := h
  obtain ⟨p2, q2, y2, s2, g1, rfl, g3⟩ := hj
  rw [h1, set_mid]
  rw [h1] at g1
  rcases List.append_eq_append_iff.mp g1 with ⟨r, e1, e2⟩ | ⟨r, e1, e2⟩
  · -- p2 = p ++ r
    match r, e1, e2 with
    | [], e1, e2 =>
      simp only [List.append_nil] at e1
      exact ⟨p, q, z, s, rfl, by rw [e1], h3⟩
    | [x], e1, e2 =>
      simp only [List.cons_append, List.nil_append, List.cons.injEq] at e2
      rw [e1, ← e2.1, run_lk1 h3] at g3; cases g3
    | x :: x2 :: r', e1, e2 =>
      simp only [List.cons_append, List.cons.injEq] at e2
      obtain ⟨f1, f2, f3⟩ := e2
      rw [e1, ← f1, ← f2, run_lk h3] at g3
      refine ⟨p ++ 2 :: z :: r', q2, y2, s2, by rw [f3]; simp, by rw [e1]; simp, ?_⟩
      rw [run_lk h3, if_pos hz]
      split at g3
      · exact g3
      · cases g3
  · match r, e1, e2 with
    | [], e1, e2 =>
      simp only [List.append_nil] at e1
      exact ⟨p, q, z, s, rfl, by rw [e1], h3⟩
    | [x], e1, e2 =>
      simp only [List.cons_append, List.nil_append, List.cons.injEq] at e2
      rw [e1, ← e2.1, run_lk1 g3] at h3; cases h3
    | x :: x2 :: r', e1, e2 =>
      simp only [List.cons_append, List.cons.injEq] at e2
      obtain ⟨f1, f2, f3⟩ := e2
      exact ⟨p2, r' ++ 2 :: z :: q, x2, s2, by rw [e1, ← f1]; simp, rfl, g3⟩
/-- so many signs of a source at least stand behind these keywords -/
def ksz (m : List (List Nat × Nat)) : Nat := (m.map fun e => e.1.length + 2).sum
theorem ksz_ins (w : List Nat) (b : Nat) (m : List (List Nat × Nat)) : ksz (insW w b m) ≤ ksz m + (w.length + 2) := by
  induction m with
  | nil => simp [insW, ksz]
  | cons e r ih =>
    rw [insW]
    split
    · simp only [ksz, List.map_cons, List.sum_cons] at ih ⊢; omega
    · split
      · simp only [ksz, List.map_cons, List.sum_cons]; omega
      · simp only [ksz, List.map_cons, List.sum_cons]; omega
theorem insW_all {P : List Nat × Nat → Prop} {w : List Nat} {b : Nat} {m : List (List Nat × Nat)} (h : ∀ e ∈ m, P e) (hw : P (w, b)) (ho : ∀ e, P e → P (e.1, e.2 ||| b)) : ∀ e ∈ insW w b m, P e := by
  induction m with
  | nil => intro e he; simp [insW] at he; rw [he]; exact hw
  | cons x r ih =>
    intro e he
    rw [insW] at he
    split at he
    · simp only [List.mem_cons] at he
      rcases he with he | he
      · exact h e (by simp [he])
      · exact ih (fun y hy => h y (by simp [hy])) e he
    · split at he
      · simp only [List.mem_cons] at he
        rcases he with he | he
        · rw [he]; exact ho x (h x (by simp))
        · exact h e (by simp [he])
      · simp only [List.mem_cons] at he
        rcases he with he | he | he
        · rw [he]; exact hw
        · exact h e (by simp [he])
        · exact h e (by simp [he])
def KO (n : Nat) (m : List (List Nat × Nat)) : Prop := Srt (codes m) ∧ ∀ e ∈ m, q_Wd e.1 ∧ 1 ≤ e.1.length ∧ e.1.length ≤ 8 ∧ 1 ≤ e.2 ∧ e.2 < 2 ^ n
theorem KO.mono {n k : Nat} {m : List (List Nat × Nat)} (h : KO n m) (hk : n ≤ k) : KO k m := ⟨h.1, fun e he => by
  obtain ⟨a, b, c, d, f⟩ := h.2 e he
  exact ⟨a, b, c, d, Nat.lt_of_lt_of_le f (Nat.pow_le_pow_right (by omega) hk)⟩⟩
theorem shl_lt {t n : Nat} (h : t < n) : 1 ≤ 1 <<< t ∧ 1 <<< t < 2 ^ n := by
  rw [Nat.one_shiftLeft]
  exact ⟨Nat.one_le_two_pow, Nat.pow_lt_pow_right (by omega) h⟩
theorem KO.ins {n : Nat} {m : List (List Nat × Nat)} (h : KO n m) {w : List Nat} (hw : q_Wd w) (h1 : 1 ≤ w.length) (h8 : w.length ≤ 8) {t : Nat} (ht : t < n) : KO n (insW w (1 <<< t) m) := by
  have hb := shl_lt ht
  refine ⟨insW_srt h.1, insW_all h.2 ⟨hw, h1, h8, hb.1, hb.2⟩ (fun e he => ⟨he.1, he.2.1, he.2.2.1, Nat.le_trans he.2.2.2.1 Nat.left_le_or, Nat.or_lt_two_pow he.2.2.2.2 hb.2⟩)⟩
/-- what is kept while a source is read -/
def q_BD (tn : Nat) (a : q_Cs) : Prop := (a.2.1 = [] ∧ a.2.2.2.2.2.2.2.1 = false ∧ a.2.2.2.2.2.2.2.2.1 = false) ∨ ∃ d c, a.2.1 = d ++ [c] ∧ (∀ b ∈ d, q_run tn 10 false b = some (10, false)) ∧ (a.2.2.2.2.2.2.2.1 = false → q_run tn 10 false c = some (10, false) ∧ a.2.2.2.2.2.2.2.2.1 = false) ∧ (a.2.2.2.2.2.2.2.1 = true → ∃ bf, ¬ bf = 10 ∧ ¬ bf = 32 ∧ q_run tn 10 false c = some (bf, a.2.2.2.2.2.2.2.2.1))
def q_LS (tn : Nat) (a : q_Cs) : Prop := ∀ k ∈ a.2.2.2.2.1, k.2.2.2.1 < a.2.1.length ∧ slot tn (bd a.2.1 k.2.2.2.1) k.2.2.2.2
def q_BI (tn : Nat) (a : q_Cs) (s : Nat) : Prop := a.1.Nodup ∧ a.1.length = a.2.1.length ∧ a.2.1.length ≤ 10 ∧ KO a.2.1.length a.2.2.2.1 ∧ a.2.1.flatten.length + ksz a.2.2.2.1 + (if a.2.2.2.2.2.2.2.1 = true then 1 else 0) ≤ s ∧ q_BD tn a ∧ q_LS tn a
theorem ls_add {tn : Nat} {bs : List (List Nat)} {lk : List q_Lk} (hne : bs ≠ []) (h : ∀ k ∈ lk, k.2.2.2.1 < bs.length ∧ slot tn (bd bs k.2.2.2.1) k.2.2.2.2) (x : Nat) : ∀ k ∈ lk, k.2.2.2.1 < (q_addB bs x).length ∧ slot tn (bd (q_addB bs x) k.2.2.2.1) k.2.2.2.2 := fun k hk => by
  obtain ⟨h1, h2⟩ := h k hk
  rw [addB_len hne, addB_bd hne x h1]
  refine ⟨h1, ?_⟩
  split
  · exact slot_app h2 _
  · exact h2
theorem bi_clP {tn : Nat} {a : q_Cs} {s : Nat} (h : q_BI tn a s) (hf : (clP a).2.2.2.2.2.1 = 0) : q_BI tn (clP a) s ∧ (clP a).2.2.2.2.2.2.2.1 = false := by
  refine ⟨?_, (clP_ns a).2.2.2.1⟩
  unfold clP at hf ⊢
  split
  · rename_i hP
    rw [if_pos hP] at hf
    obtain ⟨h1, h2, h3, h4, h5, h6, h7⟩ := h
    have hem : a.2.2.2.2.2.2.2.2.1 = false := by
      cases he : a.2.2.2.2.2.2.2.2.1 with
      | false => rfl
      | true => rw [he, if_pos rfl] at hf; simp only [blm] at hf; split at hf <;> omega
    rcases h6 with ⟨_, h9, _⟩ | ⟨d, c, e1, e2, e3, e4⟩
    · rw [h9] at hP; cases hP
    · obtain ⟨bf, b1, b2, b3⟩ := e4 hP
      rw [hem] at b3
      have hne : a.2.1 ≠ [] := by rw [e1]; simp
      have hk : (if a.2.2.2.2.2.2.2.2.1 = true then blm 7 a.2.2.2.2.2.2.2.2.2.2 a else a) = a := by rw [hem]; simp
      rw [hk]
      refine ⟨h1, by simp only; rw [addB_len hne]; exact h2, by simp only; rw [addB_len hne]; exact h3, by simp only; rw [addB_len hne]; exact h4, ?_, Or.inr ⟨d, c ++ [10], by simp only; rw [e1, addB_eq], e2, fun _ => ⟨?_, rfl⟩, fun h9 => by cases h9⟩, ls_add hne h7 10⟩
      · simp only; rw [addB_flat hne]; simp only [List.length_append, List.length_cons, List.length_nil, Bool.false_eq_true, if_false]; rw [if_pos hP] at h5; omega
      · exact run_x b3 (by decide) (by decide) (by simp [mayF, b1, b2]) (by simp)
  · exact h
/-- in a line of text -/
def TI (tn ks0 : Nat) (a : q_Cs) (k : Nat) : Prop := a.2.2.2.2.2.1 = 0 → a.1.Nodup ∧ a.1.length = a.2.1.length ∧ a.2.1.length ≤ 10 ∧ KO a.2.1.length a.2.2.2.1 ∧ a.2.1.flatten.length + ksz a.2.2.2.1 + (if a.2.2.2.2.2.2.2.2.2.1 = true then 1 else 0) ≤ k ∧ (a.2.2.2.2.2.2.2.2.2.1 = true → a.2.2.2.2.2.2.2.1 = true) ∧ (∃ d c, a.2.1 = d ++ [c] ∧ (∀ b ∈ d, q_run tn 10 false b = some (10, false)) ∧ (a.2.2.2.2.2.2.2.1 = false → q_run tn 10 false c = some (10, false) ∧ a.2.2.2.2.2.2.2.2.1 = false) ∧ (a.2.2.2.2.2.2.2.1 = true → ∃ bf, ¬ bf = 10 ∧ ¬ bf = 32 ∧ q_run tn 10 false c = some (bf, a.2.2.2.2.2.2.2.2.1))) ∧ q_LS tn a
/-- behind a due blank -/
def TD (tn : Nat) (a : q_Cs) (k : Nat) : Prop := a.1.Nodup ∧ a.1.length = a.2.1.length ∧ a.2.1.length ≤ 10 ∧ KO a.2.1.length a.2.2.2.1 ∧ a.2.1.flatten.length + ksz a.2.2.2.1 ≤ k ∧ a.2.2.2.2.2.2.2.2.2.1 = false ∧ a.2.2.2.2.2.2.2.1 = true ∧ (∃ d c bf, a.2.1 = d ++ [c] ∧ (∀ b ∈ d, q_run tn 10 false b = some (10, false)) ∧ q_run tn 10 false c = some (bf, a.2.2.2.2.2.2.2.2.1)) ∧ q_LS tn a
theorem ti_due {tn z : Nat} {a : q_Cs} {k : Nat} (h : TI tn z a k) (hf : a.2.2.2.2.2.1 = 0) : TD tn (dueB a) k := by
  obtain ⟨h1, h2, h3, h4, h5, h6, ⟨d, c, e1, e2, e3, e4⟩, h7⟩ := h hf
  have hne : a.2.1 ≠ [] := by rw [e1]; simp
  unfold dueB
  cases hd : a.2.2.2.2.2.2.2.2.2.1 with
  | false =>
    rw [hd, if_neg (by simp)] at h5
    refine ⟨h1, by simpa using h2, by simpa using h3, by simpa using h4, by simpa using h5, rfl, rfl, ?_, by simp only [q_LS, Bool.false_eq_true, if_false]; exact h7⟩
    cases hP : a.2.2.2.2.2.2.2.1 with
    | false => obtain ⟨f1, f2⟩ := e3 hP; exact ⟨d, c, 10, by simpa using e1, e2, by simpa [f2] using f1⟩
    | true => obtain ⟨bf, b1, b2, b3⟩ := e4 hP; exact ⟨d, c, bf, by simpa using e1, e2, b3⟩
  | true =>
    rw [hd, if_pos rfl] at h5
    obtain ⟨bf, b1, b2, b3⟩ := e4 (h6 hd)
    refine ⟨h1, by simp only [if_true]; rw [addB_len hne]; exact h2, by simp only [if_true]; rw [addB_len hne]; exact h3, by simp only [if_true]; rw [addB_len hne]; exact h4, ?_, rfl, rfl, ⟨d, c ++ [32], 32, by simp only [if_true]; rw [e1, addB_eq], e2, ?_⟩, ?_⟩
    · simp only [if_true]; rw [addB_flat hne]; simp only [List.length_append, List.length_cons, List.length_nil]; omega
    · exact run_x b3 (by decide) (by decide) (by simp [mayF, b1, b2]) (by simp)
    · simp only [q_LS, if_true]; exact ls_add hne h7 32
theorem ti_sgn {tn z : Nat} {a : q_Cs} {k x ln : Nat} (h : TD tn a k) (hx : 33 ≤ x ∧ x ≤ 126) (h9 : ¬ x = 91) : TI tn z (q_sgn x ln a) (k + 1) := by
  intro hf
  obtain ⟨h1, h2, h3, h4, h5, h6, h6', ⟨d, c, bf, e1, e2, e3⟩, h7⟩ := h
  have hne : a.2.1 ≠ [] := by rw [e1]; simp
  unfold q_sgn at hf ⊢
  by_cases h93 : x = 93
  · rw [if_pos h93] at hf; simp only [blm] at hf; split at hf <;> omega
  · rw [if_neg h93] at hf ⊢
    by_cases h42 : x = 42
    · rw [if_pos h42]
      refine ⟨h1, by simp only; rw [addB_len hne]; exact h2, by simp only; rw [addB_len hne]; exact h3, by simp only; rw [addB_len hne]; exact h4, ?_, (fun g => by simp only [h6] at g; cases g), ⟨d, c ++ [1], by simp only; rw [e1, addB_eq], e2, (fun g => by simp only [h6'] at g; cases g), fun _ => ⟨1, by decide, by decide, run_1 e3⟩⟩, ls_add hne h7 1⟩
      simp only; rw [addB_flat hne, h6]; simp only [List.length_append, List.length_cons, List.length_nil, Bool.false_eq_true, if_false]; omega
    · rw [if_neg h42]
      refine ⟨h1, by simp only; rw [addB_len hne]; exact h2, by simp only; rw [addB_len hne]; exact h3, by simp only; rw [addB_len hne]; exact h4, ?_, (fun g => by simp only [h6] at g; cases g), ⟨d, c ++ [x], by simp only; rw [e1, addB_eq], e2, (fun g => by simp only [h6'] at g; cases g), fun _ => ⟨x, by omega, by omega, ?_⟩⟩, ls_add hne h7 x⟩
      · simp only; rw [addB_flat hne, h6]; simp only [List.length_append, List.length_cons, List.length_nil, Bool.false_eq_true, if_false]; omega
      · exact run_x e3 (by omega) (by omega) (by unfold mayF; rw [if_neg (by omega)]; simp only [decide_eq_true_eq]; omega) (by omega)
theorem ti_lnk {tn z : Nat} (htn : 0 < tn) {L : List Nat} {f : Nat} {a : q_Cs} {k ln : Nat} (h : TD tn a k) : TI tn z (lnkA L k f ln a) (letEnd L (k + 1) f + 1) := by
  intro hf
  obtain ⟨h1, h2, h3, h4, h5, h6, h6', ⟨d, c, bf, e1, e2, e3⟩, h7⟩ := h
  have hne : a.2.1 ≠ [] := by rw [e1]; simp
  have hge := letEnd_ge L (k + 1) f
  have hl2 : (q_addB (q_addB a.2.1 2) 0).length = a.2.1.length := by rw [addB_len (addB_ne _ _), addB_len hne]
  have hbs : q_addB (q_addB a.2.1 2) 0 = d ++ [c ++ [2, 0]] := by rw [e1, addB_eq, addB_eq]; simp
  have hlast : bd a.2.1 (a.2.1.length - 1) = c := by rw [e1]; simp [bd]
  unfold lnkA
  refine ⟨h1, by simp only; rw [hl2]; exact h2, by simp only; rw [hl2]; exact h3, by simp only; rw [hl2]; exact h4, ?_, (fun g => by simp only [h6] at g; cases g), ⟨d, c ++ [2, 0], hbs, e2, (fun g => by simp only [h6'] at g; cases g), fun _ => ⟨2, by decide, by decide, run_2 e3 htn⟩⟩, ?_⟩
  · simp only; rw [addB_flat (addB_ne _ _), addB_flat hne, h6]; simp only [List.length_append, List.length_cons, List.length_nil, Bool.false_eq_true, if_false]; omega
  · intro q hq
    simp only [List.mem_append, List.mem_singleton] at hq
    rcases hq with hq | hq
    · exact ls_add (addB_ne _ _) (ls_add hne h7 2) 0 q hq
    · rw [hq]
      simp only
      have hlt : a.2.1.length - 1 < a.2.1.length := by rw [e1]; simp
      rw [hl2]
      refine ⟨hlt, ?_⟩
      have : bd (q_addB (q_addB a.2.1 2) 0) (a.2.1.length - 1) = c ++ [2, 0] := by rw [hbs, e1]; simp [bd]
      rw [this, hlast]
      exact ⟨c, [], 0, (bf, a.2.2.2.2.2.2.2.2.1), rfl, rfl, e3⟩
