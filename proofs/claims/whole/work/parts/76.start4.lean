/-! the law: what its start gives (written by a program of mine) -/
theorem lw_t {w : Cond} (i : Nat) (h : tables_1[i]? = some w) : w ∈ lw_tbl := List.mem_append_right _ (List.mem_of_getElem? h)
theorem lw_hts {args : Array Value} {s : State} (hts : ∀ w ∈ lw_tbl, w.before args s = true) : ∀ w ∈ Cond.tt :: ga, w.before args s = true := fun w hw => by
  rcases List.mem_cons.mp hw with h | h
  · subst h; rfl
  · exact hts w (List.mem_filter.mp h).1
theorem k2000_classLink : Cond.classLink "HelpFileLaw" 8 "HelpFile" ∈ ga := ga_t 24 (by decide +kernel) rfl
theorem k2001_instantiable : Cond.instantiable "HelpFile" 14 ∈ ga := ga_t 25 (by decide +kernel) rfl
theorem k2002_methodLink : Cond.methodLink "HelpFileLaw" 63 ⟨"HelpFile", "<init>", "()V"⟩ ∈ ga := ga_t 26 (by decide +kernel) rfl
theorem k2003_instanceMethod : Cond.instanceMethod ⟨"HelpFile", "<init>", "()V"⟩ ∈ ga := ga_t 27 (by decide +kernel) rfl
theorem k2004_classLink : Cond.classLink "HelpFileLaw" 64 "HelpFileModel" ∈ ga := ga_t 1030 (by decide +kernel) rfl
theorem k2005_instantiable : Cond.instantiable "HelpFileModel" 69 ∈ ga := ga_t 1031 (by decide +kernel) rfl
theorem k2006_methodLink : Cond.methodLink "HelpFileLaw" 66 ⟨"HelpFileModel", "<init>", "()V"⟩ ∈ ga := ga_t 1032 (by decide +kernel) rfl
theorem k2007_instanceMethod : Cond.instanceMethod ⟨"HelpFileModel", "<init>", "()V"⟩ ∈ ga := ga_t 1033 (by decide +kernel) rfl
theorem ten_cases {α : Type} {P : Nat → α → Prop} {a0 a1 a2 a3 a4 a5 a6 a7 a8 a9 : α} (h0 : P 0 a0) (h1 : P 1 a1) (h2 : P 2 a2) (h3 : P 3 a3) (h4 : P 4 a4) (h5 : P 5 a5) (h6 : P 6 a6) (h7 : P 7 a7) (h8 : P 8 a8) (h9 : P 9 a9) : ∀ (c : Nat) (q : α), [a0, a1, a2, a3, a4, a5, a6, a7, a8, a9][c]? = some q → P c q
  | 0, q, h => by have e : some a0 = some q := h; cases e; exact h0
  | 1, q, h => by have e : some a1 = some q := h; cases e; exact h1
  | 2, q, h => by have e : some a2 = some q := h; cases e; exact h2
  | 3, q, h => by have e : some a3 = some q := h; cases e; exact h3
  | 4, q, h => by have e : some a4 = some q := h; cases e; exact h4
  | 5, q, h => by have e : some a5 = some q := h; cases e; exact h5
  | 6, q, h => by have e : some a6 = some q := h; cases e; exact h6
  | 7, q, h => by have e : some a7 = some q := h; cases e; exact h7
  | 8, q, h => by have e : some a8 = some q := h; cases e; exact h8
  | 9, q, h => by have e : some a9 = some q := h; cases e; exact h9
  | n + 10, q, h => by
    have := (List.getElem?_eq_some_iff.mp h).1
    simp only [List.length_cons, List.length_nil] at this
    omega
theorem three_cases {α : Type} {P : Nat → α → Prop} {a0 a1 a2 : α} (h0 : P 0 a0) (h1 : P 1 a1) (h2 : P 2 a2) : ∀ (c : Nat) (q : α), [a0, a1, a2][c]? = some q → P c q
  | 0, q, h => by have e : some a0 = some q := h; cases e; exact h0
  | 1, q, h => by have e : some a1 = some q := h; cases e; exact h1
  | 2, q, h => by have e : some a2 = some q := h; cases e; exact h2
  | n + 3, q, h => by
    have := (List.getElem?_eq_some_iff.mp h).1
    simp only [List.length_cons, List.length_nil] at this
    omega
theorem lw_K {args : Array Value} {s : State} (hts : ∀ w ∈ Cond.tt :: ga, w.before args s = true) : ∃ (dC : Nat → ClassId) (dI : Nat → Nat → Nat) (cI cL cZ : ClassId), va_K (dC, dI) classes (Tys cI cL cZ) s := by
  obtain ⟨c0, i0, g0⟩ := u_known hts in_HelpFile (hts _ (List.mem_cons_of_mem _ k2001_instantiable))
  obtain ⟨c1, i1, g1⟩ := u_known hts in_Row (hts _ (List.mem_cons_of_mem _ k744_instantiable))
  obtain ⟨c2, i2, g2⟩ := u_known hts in_WordList (hts _ (List.mem_cons_of_mem _ k748_instantiable))
  obtain ⟨c3, i3, g3⟩ := u_known hts in_Book (hts _ (List.mem_cons_of_mem _ k785_instantiable))
  obtain ⟨c4, i4, g4⟩ := u_known hts in_Compiler (hts _ (List.mem_cons_of_mem _ k765_instantiable))
  obtain ⟨c5, i5, g5⟩ := u_known hts in_ImageReader (hts _ (List.mem_cons_of_mem _ k769_instantiable))
  obtain ⟨c6, i6, g6⟩ := u_known hts in_Visits (hts _ (List.mem_cons_of_mem _ k773_instantiable))
  obtain ⟨c7, i7, g7⟩ := u_known hts in_Query (hts _ (List.mem_cons_of_mem _ k777_instantiable))
  obtain ⟨c8, i8, g8⟩ := u_known hts in_Screen (hts _ (List.mem_cons_of_mem _ k781_instantiable))
  obtain ⟨c9, i9, g9⟩ := u_known hts in_Model (hts _ (List.mem_cons_of_mem _ k2005_instantiable))
  obtain ⟨cI, kI, oI, aI, bI, dI⟩ := Cond.arrayClass_spec (hts _ (List.mem_cons_of_mem _ k739_arrayClass))
  obtain ⟨cL, kL, oL, aL, bL, dL⟩ := Cond.arrayClass_spec (hts _ (List.mem_cons_of_mem _ k741_arrayClass))
  obtain ⟨cZ, kZ, oZ, aZ, bZ, dZ⟩ := Cond.arrayClass_spec (hts _ (List.mem_cons_of_mem _ k757_arrayClass))
  refine ⟨fun c => [c0, c1, c2, c3, c4, c5, c6, c7, c8, c9].getD c c0, fun c => [i0, i1, i2, i3, i4, i5, i6, i7, i8, i9].getD c i0, cI, cL, cZ, ?_, ?_⟩
  · exact ten_cases (P := fun (c : Nat) (q : vw_C) => u_Kn s q.1 q.2.1 q.2.2 ([c0, c1, c2, c3, c4, c5, c6, c7, c8, c9].getD c c0) ([i0, i1, i2, i3, i4, i5, i6, i7, i8, i9].getD c i0)) g0 g1 g2 g3 g4 g5 g6 g7 g8 g9
  · exact three_cases (P := fun (_ : Nat) (q : ClassId × FieldType) => ArrOfT s q.1 q.2 ∧ va_RA s q.1 q.2) (a0 := (cI, .int)) (a1 := (cL, .long)) (a2 := (cZ, .boolean)) ⟨fun n z => ⟨fun k h => (by cases h), kI, bI, oI, dI⟩, aI⟩ ⟨fun n z => ⟨fun k h => (by cases h), kL, bL, oL, dL⟩, aL⟩ ⟨fun n z => ⟨fun k h => (by cases h), kZ, bZ, oZ, dZ⟩, aZ⟩
theorem thL_of {C n d : String} {A : Nat → Prop} {U : State} {args : Array Value} (h1 : (Cond.laysStatic C n d).before args U = true) (h2 : (Cond.isRef (.static C n d)).before args U = true) (hA : ∀ q, A q → U.heap.size ≤ q) : thL C n d A U U.heap := by
  obtain ⟨c, k, i, f, a, cell, g1, g2, g3, g4, g5, g6, g7, g8, g9⟩ := Cond.laysStatic_spec h1
  obtain ⟨v, hv⟩ : ∃ v, cell.slots[f.slot]? = some v := ⟨_, Array.getElem?_eq_getElem g8⟩
  have ev : (Term.static C n d).eval args U none [] U = some v := Term.static_eval g2 g3 g4 g5 g6 hv
  refine ⟨c, k, i, f, a, cell, v, g1, g2, g3, g4, g5, g6, g7, g8, g9, hv, ?_, fun h => ?_⟩
  · cases v <;> simp_all [Cond.before, Cond.holds, Cond.value, Value.isRef]
  · have h3 := (Array.getElem?_eq_some_iff.mp g5).1
    have h4 := hA a h
    omega
theorem thT_one {args : Array Value} {s : State} {k : Nat} {tx : String} (h1 : (Cond.stringRef "HelpFile" k tx).before args s = true) (h2 : (Cond.exactly (Term.string "HelpFile" k) "java/lang/String").before args s = true) : ∃ a, vk_R "HelpFile" k tx a s := by
  obtain ⟨a, c, cell, k1, h, -⟩ := Cond.exactly_spec h2
  exact ⟨a, vk_R.of h1 h⟩
theorem lw_thT {args : Array Value} {s : State} (hts : ∀ w ∈ lw_tbl, w.before args s = true) (hgv : ∀ w ∈ flatC (Jvm.Cond.and given_1 narrow_1), w.before args s = true) : thT s := by
  refine ⟨fun q hq => ?_, fun w hw => ?_⟩
  · simp only [thTx, List.mem_cons, List.not_mem_nil, or_false] at hq
    rcases hq with rfl | rfl | rfl | rfl | rfl | rfl | rfl | rfl | rfl | rfl | rfl | rfl | rfl
    · exact thT_one (hts _ (lw_t 693 (by decide +kernel))) (hgv _ (by decide +kernel))
    · exact thT_one (hts _ (lw_t 730 (by decide +kernel))) (hgv _ (by decide +kernel))
    · exact thT_one (hts _ (lw_t 745 (by decide +kernel))) (hgv _ (by decide +kernel))
    · exact thT_one (hts _ (lw_t 765 (by decide +kernel))) (hgv _ (by decide +kernel))
    · exact thT_one (hts _ (lw_t 820 (by decide +kernel))) (hgv _ (by decide +kernel))
    · exact thT_one (hts _ (lw_t 857 (by decide +kernel))) (hgv _ (by decide +kernel))
    · exact thT_one (hts _ (lw_t 873 (by decide +kernel))) (hgv _ (by decide +kernel))
    · exact thT_one (hts _ (lw_t 898 (by decide +kernel))) (hgv _ (by decide +kernel))
    · exact thT_one (hts _ (lw_t 906 (by decide +kernel))) (hgv _ (by decide +kernel))
    · exact thT_one (hts _ (lw_t 907 (by decide +kernel))) (hgv _ (by decide +kernel))
    · exact thT_one (hts _ (lw_t 975 (by decide +kernel))) (hgv _ (by decide +kernel))
    · exact thT_one (hts _ (lw_t 1025 (by decide +kernel))) (hgv _ (by decide +kernel))
    · exact thT_one (hts _ (lw_t 803 (by decide +kernel))) (hgv _ (by decide +kernel))
  · simp only [thWs, List.mem_cons, List.not_mem_nil, or_false] at hw
    rcases hw with rfl | rfl | rfl | rfl | rfl | rfl | rfl | rfl
    · exact va_Nw.of rfl (hts _ (lw_t 658 (by decide +kernel)))
    · exact va_Nw.of rfl (hts _ (lw_t 656 (by decide +kernel)))
    · exact va_Nw.of rfl (hts _ (lw_t 654 (by decide +kernel)))
    · exact va_Nw.of rfl (hts _ (lw_t 652 (by decide +kernel)))
    · exact va_Nw.of rfl (hts _ (lw_t 723 (by decide +kernel)))
    · exact va_Nw.of rfl (hts _ (lw_t 758 (by decide +kernel)))
    · exact va_Nw.of rfl (hts _ (lw_t 796 (by decide +kernel)))
    · exact va_Nw.of rfl (hts _ (lw_t 813 (by decide +kernel)))
theorem lw_thN {args : Array Value} {s : State} (hgv : ∀ w ∈ flatC (Jvm.Cond.and given_1 narrow_1), w.before args s = true) : thN s := by
  intro q hq
  simp only [thNl, List.mem_cons, List.not_mem_nil, or_false] at hq
  rcases hq with rfl | rfl | rfl
  · exact va_Nc.of (hgv _ (by decide +kernel))
  · exact va_Nc.of (hgv _ (by decide +kernel))
  · exact va_Nc.of (hgv _ (by decide +kernel))
theorem lw_facts {p : Program} {l : Launch} {e : Env} {s : State} {m : MethodId} {below : List Frame} {meth : Method} {c : Code} {b L : Nat} {xs : Nat → Int32} (htr : ∀ e : Env, l.admits e → e.platform.stackTraces = false) (C0 : lw_At p s m meth c b L xs) : ∃ (dC : Nat → ClassId) (dI : Nat → Nat → Nat) (cI cL cZ : ClassId), lawC p l e s m below meth c b L xs (fun q => s.heap.size ≤ q) dC dI cI cL cZ := by
  obtain ⟨hx, hb, hr, hml, hown, hts, hX, hbl, hlocks, hgv⟩ := C0
  have hg := flat_of_before _ hgv
  obtain ⟨dC, dI, cI, cL, cZ, hK⟩ := lw_K (lw_hts hts)
  exact ⟨dC, dI, cI, cL, cZ, htr, hx, hb, hr, hml, hown, hlocks, lw_hts hts, hK, va_Nw.of rfl (hts _ (lw_t 616 (by decide +kernel))), ⟨thL_of (hts _ (lw_t 677 (by decide +kernel))) (hg _ (by decide +kernel)) (fun q h => h), thL_of (hts _ (lw_t 679 (by decide +kernel))) (hg _ (by decide +kernel)) (fun q h => h)⟩, lw_thT hts hg, lw_thN hg, fun q h => h, hX, hbl, Nat.not_le.mpr hbl⟩
