/-! Pure: letters and words. -/
def isSm (x : Nat) : Bool := decide (97 ≤ x) && decide (x ≤ 122)
def isLet (x : Nat) : Bool := isSm x || (decide (65 ≤ x) && decide (x ≤ 90))
theorem let_isSmall {x : Nat} (hx : x < 2 ^ 31) : D_Letters_isSmall (nI x) (isSm x) := by
  refine ⟨fun h1 => ?_, fun h1 => ⟨fun h2 => ?_, fun h2 => ?_⟩⟩
  · have : x < 97 := (nI_ltI hx (by decide)).mp h1
    simp [isSm]; omega
  · have : 122 < x := (nI_ltI (by decide) hx).mp h2
    simp [isSm]; omega
  · have h3 : ¬ x < 97 := fun h => h1 ((nI_ltI hx (by decide)).mpr h)
    have h4 : ¬ 122 < x := fun h => h2 ((nI_ltI (by decide) hx).mpr h)
    simp [isSm]; omega
theorem let_isLetter {x : Nat} (hx : x < 2 ^ 31) : D_Letters_isLetter (nI x) (isLet x) := by
  have hB : ¬ (97 ≤ x ∧ x ≤ 122) → T_Letters_isLetter (isLet x) 1 (nI x) := by
    intro hn
    show B_Letters_isLetter_12 _ (T_Letters_isLetter (isLet x) 0) _
    refine ⟨fun h1 => ?_, fun h1 => ⟨fun h2 => ?_, fun h2 => ?_⟩⟩
    · have : x < 65 := (nI_ltI hx (by decide)).mp h1
      simp [isLet, isSm]; omega
    · have : 90 < x := (nI_ltI (by decide) hx).mp h2
      simp [isLet, isSm]; omega
    · have h3 : ¬ x < 65 := fun h => h1 ((nI_ltI hx (by decide)).mpr h)
      have h4 : ¬ 90 < x := fun h => h2 ((nI_ltI (by decide) hx).mpr h)
      simp [isLet, isSm]; omega
  refine ⟨1, fun h1 => hB ?_, fun h1 => ⟨fun h2 => ?_, fun h2 => hB ?_⟩⟩
  · have : x < 97 := (nI_ltI hx (by decide)).mp h1
    omega
  · have h3 : ¬ x < 97 := fun h => h1 ((nI_ltI hx (by decide)).mpr h)
    have h4 : x ≤ 122 := (nI_leI hx (by decide)).mp h2
    simp [isLet, isSm]; omega
  · have h4 : ¬ x ≤ 122 := fun h => h2 ((nI_leI hx (by decide)).mpr h)
    omega
/-- the letters from a place on, before another -/
def letRun (L : List Nat) (k f : Nat) : List Nat := ((L.drop k).take (f - k)).takeWhile isLet
def letEnd (L : List Nat) (k f : Nat) : Nat := k + (letRun L k f).length
theorem letRun_stop {L : List Nat} {k f : Nat} (h : f ≤ k ∨ isLet (L.getD k 0) = false) : letRun L k f = [] := by
  unfold letRun
  rcases h with h | h
  · rw [Nat.sub_eq_zero_of_le h]; simp
  · by_cases hk : k < L.length
    · rw [List.drop_eq_getElem_cons hk]
      have e : L.getD k 0 = L[k] := by simp [List.getD_eq_getElem?_getD, List.getElem?_eq_getElem hk]
      rw [e] at h
      cases hd : f - k with
      | zero => simp
      | succ d => rw [List.take_succ_cons, List.takeWhile_cons_of_neg (by simp [h])]
    · rw [List.drop_eq_nil_of_le (by omega)]; simp
theorem letRun_step {L : List Nat} {k f : Nat} (h1 : k < f) (h2 : isLet (L.getD k 0) = true) : letRun L k f = L.getD k 0 :: letRun L (k + 1) f := by
  have hk : k < L.length := by
    by_cases hk : k < L.length
    · exact hk
    · rw [List.getD_eq_getElem?_getD, List.getElem?_eq_none (by omega)] at h2
      exact absurd h2 (by decide)
  unfold letRun
  rw [List.drop_eq_getElem_cons hk]
  have e : L.getD k 0 = L[k] := by simp [List.getD_eq_getElem?_getD, List.getElem?_eq_getElem hk]
  rw [e] at h2 ⊢
  have e2 : f - k = (f - (k + 1)) + 1 := by omega
  rw [e2, List.take_succ_cons, List.takeWhile_cons_of_pos h2]
theorem let_lettersEnd {n : Nat} {E : Nat → Int32} {C : Int32} {L : List Nat} (h : Rw n E C L) (hv : ∀ i, L.getD i 0 < 2 ^ 31) {k f : Nat} (hf : f < 2 ^ 30) (hk : k < 2 ^ 30) : D_Letters_lettersEnd n (nI k) (nI f) E C (nI (letEnd L k f)) := by
  have key : ∀ (d k : Nat), f - k ≤ d → k < 2 ^ 30 → T_Letters_lettersEnd n E C (nI (letEnd L k f)) (d + 1) (nI f) (nI k) := by
    intro d
    induction d with
    | zero =>
      intro k hd hk
      show B_Letters_lettersEnd_2 n E C _ _ _ _
      refine ⟨fun _ => ?_, fun h1 => ?_⟩
      · simp [letEnd, letRun_stop (L := L) (k := k) (f := f) (Or.inl (by omega))]
      · exact absurd ((nI_leI (by omega) (by omega)).mpr (by omega : f ≤ k)) h1
    | succ d ih =>
      intro k hd hk
      show B_Letters_lettersEnd_2 n E C _ _ _ _
      refine ⟨fun h1 => ?_, fun h1 => ⟨nI (L.getD k 0), row_el h (by omega), isLet (L.getD k 0), let_isLetter (hv k), ?_, ?_⟩⟩
      · have : f ≤ k := (nI_leI (by omega) (by omega)).mp h1
        simp [letEnd, letRun_stop (L := L) (k := k) (f := f) (Or.inl this)]
      · intro h2
        simp [letEnd, letRun_stop (L := L) (k := k) (f := f) (Or.inr (bI_0.mp h2))]
      · intro h2
        have h3 : k < f := by
          have : ¬ f ≤ k := fun hh => h1 ((nI_leI (by omega) (by omega)).mpr hh)
          omega
        have h4 := bI_n0.mp h2
        have e : letEnd L k f = letEnd L (k + 1) f := by
          simp only [letEnd, letRun_step h3 h4, List.length_cons]; omega
        rw [e, nI_1]
        exact ih (k + 1) (by omega) (by omega)
  exact ⟨(f - k) + 1, key (f - k) k (by omega) hk⟩
