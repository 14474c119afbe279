/-! Pure: rows as lists of numbers, and what Row's methods do to them. -/
def Rw (n : Nat) (E : Nat → Int32) (C : Int32) (L : List Nat) : Prop := C = nI L.length ∧ L.length ≤ n ∧ n < 2 ^ 30 ∧ ∀ i, i < L.length → E i = nI (L.getD i 0)
theorem Rw.lt {n : Nat} {E : Nat → Int32} {C : Int32} {L : List Nat} (h : Rw n E C L) : L.length < 2 ^ 31 := by
  have := h.2.1; have := h.2.2.1; omega
theorem row_has {n : Nat} {E : Nat → Int32} {C : Int32} {L : List Nat} (h : Rw n E C L) {k : Nat} (hk : k < 2 ^ 31) : D_Row_has (nI k) C (decide (k < L.length)) := by
  refine ⟨fun h1 => absurd h1 (nI_pos hk), fun _ => ⟨fun h2 => ?_, fun h2 => ?_⟩⟩
  · rw [h.1, nI_leI h.lt hk] at h2
    exact decide_eq_false (by omega)
  · rw [h.1, nI_leI h.lt hk] at h2
    exact decide_eq_true (by omega)
theorem row_el {n : Nat} {E : Nat → Int32} {C : Int32} {L : List Nat} (h : Rw n E C L) {k : Nat} (hk : k < 2 ^ 31) : D_Row_element n (nI k) E C (nI (L.getD k 0)) := by
  refine ⟨fun h1 => absurd h1 (nI_pos hk), fun _ => ⟨fun h2 => ?_, fun h2 => ?_⟩⟩
  · rw [h.1, nI_leI h.lt hk] at h2
    rw [List.getD_eq_getElem?_getD, List.getElem?_eq_none h2]
    exact nI_0
  · rw [h.1, nI_leI h.lt hk] at h2
    have hn := h.2.2.1
    have hl := h.2.1
    refine ⟨vp_in_nI (by omega) (by omega), ?_⟩
    rw [nI_clamp hk]
    exact (h.2.2.2 k (by omega)).symm
/-- a place ahead of the row: nothing there -/
theorem row_el_neg {n : Nat} {E : Nat → Int32} {C k : Int32} (h : k < 0) : D_Row_element n k E C 0 := ⟨fun _ => rfl, fun h1 => absurd h h1⟩
theorem row_append {n : Nat} {E : Nat → Int32} {C : Int32} {L : List Nat} (h : Rw n E C L) (hl : L.length < n) (x : Nat) :
    ∃ (E' : Nat → Int32) (C' : Int32), D_Row_append n (nI x) E C false E' C' false ∧ Rw n E' C' (L ++ [x]) := by
  have hn := h.2.2.1
  refine ⟨upd E L.length (nI x), nI (L.length + 1), ⟨fun h1 => ?_, fun _ => ?_⟩, ?_⟩
  · rw [h.1, nI_leI (by omega) h.lt] at h1
    omega
  · rw [h.1, nI_clamp h.lt]
    exact ⟨vp_in_nI hl (by omega), rfl, (nI_1 _).symm, rfl⟩
  · refine ⟨by simp, by simp; omega, hn, fun i hi => ?_⟩
    simp only [List.length_append, List.length_cons, List.length_nil] at hi
    by_cases hi2 : i = L.length
    · subst hi2
      simp [upd]
    · have h3 : i < L.length := by omega
      simp only [upd, hi2, if_false]
      rw [h.2.2.2 i h3]
      simp [List.getD_eq_getElem?_getD, List.getElem?_append_left h3]
theorem row_shorten {n : Nat} {E : Nat → Int32} {C : Int32} {L : List Nat} (h : Rw n E C L) {k : Nat} (hk : k ≤ L.length) (O : Bool) :
    D_Row_shorten (nI k) C O (nI k) false ∧ Rw n E (nI k) (L.take k) := by
  have hl := h.lt
  refine ⟨⟨fun h1 => absurd h1 (nI_pos (by omega)), fun _ => ⟨fun h2 => ?_, fun _ => ⟨rfl, rfl⟩⟩⟩, ?_⟩
  · rw [h.1, nI_ltI hl (by omega)] at h2
    omega
  · have hm : (L.take k).length = k := by simp; omega
    refine ⟨by rw [hm], by rw [hm]; have := h.2.1; omega, h.2.2.1, fun i hi => ?_⟩
    rw [hm] at hi
    rw [h.2.2.2 i (by omega)]
    simp [List.getD_eq_getElem?_getD, List.getElem?_take, hi]
theorem row_replace {n : Nat} {E : Nat → Int32} {C : Int32} {L : List Nat} (h : Rw n E C L) {k : Nat} (hk : k < L.length) (x : Nat) :
    ∃ E' : Nat → Int32, D_Row_replace n (nI k) (nI x) E C E' ∧ Rw n E' C (L.set k x) := by
  have hl := h.lt
  refine ⟨upd E k (nI x), ⟨true, ?_, ?_, ?_⟩, ?_⟩
  · have := row_has h (k := k) (by omega)
    rwa [decide_eq_true hk] at this
  · intro h1
    exact absurd h1 (by decide)
  · intro _
    have hn := h.2.2.1
    have hl2 := h.2.1
    refine ⟨vp_in_nI (by omega) (by omega), ?_⟩
    rw [nI_clamp (by omega)]
  · refine ⟨by simp [h.1], by simp; exact h.2.1, h.2.2.1, fun i hi => ?_⟩
    simp only [List.length_set] at hi
    by_cases hi2 : i = k
    · subst hi2
      simp [upd, List.getD_eq_getElem?_getD, hi]
    · simp only [upd, hi2, if_false]
      rw [h.2.2.2 i hi]
      simp [List.getD_eq_getElem?_getD, List.getElem?_set_ne (Ne.symm hi2)]
/-- sums stay small -/
theorem row_sum {n : Nat} {E : Nat → Int32} {C : Int32} {L : List Nat} (h : Rw n E C L) : D_Row_sum n E C (nI L.sum) := by
  have hl := h.lt
  have key : ∀ (k i : Nat), i + k = L.length → T_Row_sum n E C (nI L.sum) (k + 1) (nI (L.take i).sum) (nI i) := by
    intro k
    induction k with
    | zero =>
      intro i hi
      show B_Row_sum_4 n E C (nI L.sum) _ _ _
      refine ⟨fun _ => ?_, fun h1 => ?_⟩
      · rw [List.take_of_length_le (by omega)]
      · rw [h.1, nI_leI hl (by omega)] at h1
        omega
    | succ k ih =>
      intro i hi
      show B_Row_sum_4 n E C (nI L.sum) _ _ _
      refine ⟨fun h1 => ?_, fun _ => ⟨vp_in_nI (by have := h.2.1; omega) (by have := h.2.2.1; omega), ?_⟩⟩
      · rw [h.1, nI_leI hl (by omega)] at h1
        omega
      · have h3 := ih (i + 1) (by omega)
        rw [nI_clamp (by omega), h.2.2.2 i (by omega), nI_add, nI_1]
        have e1 : (L.take (i + 1)).sum = (L.take i).sum + L.getD i 0 := by
          have hi' : i < L.length := by omega
          rw [List.take_succ, List.sum_append, List.getElem?_eq_getElem hi']
          simp [List.getD_eq_getElem?_getD, List.getElem?_eq_getElem hi']
        rw [← e1]
        exact h3
  refine ⟨L.length + 1, ?_⟩
  have := key L.length 0 (by omega)
  simpa [nI_0] using this
