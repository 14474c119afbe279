/-! Throwing: methods that end by an exception of their own making, having changed nothing. -/
/-- a static that holds a reference or null, in a cell that the world doesn't hold -/
def thL (C n d : String) (A : Nat → Prop) (U : State) (H : Heap) : Prop := ∃ (c : ClassId) (k : Class) (i : Nat) (f : Field) (a : Nat) (cell : Cell) (v : Value), U.vm.findClass C = some c ∧ U.fieldFound? C n d = some (c, k, i, f) ∧ f.isStatic = true ∧ k.statics = some a ∧ H[a]? = some cell ∧ cell.vm.isStatics = true ∧ cell.cls = c ∧ f.slot < cell.slots.size ∧ k.staticTypes[f.slot]? = some f.type ∧ cell.slots[f.slot]? = some v ∧ v.isRef = true ∧ ¬ A a
theorem thL.moved {C n d : String} {A : Nat → Prop} {u U : State} {H : Heap} (hvm : u.vm.Alike U.vm) (h : thL C n d A u H) : thL C n d A U H := by
  obtain ⟨c, k, i, f, a, cell, v, h1, h2, h3, h4, h5, h6, h7, h8, h9, h10⟩ := h
  obtain ⟨k', hi', he⟩ := State.fieldFound?_setVm hvm h2
  exact ⟨c, k', i, f, a, cell, v, by rw [hvm.findClass]; exact h1, hi', h3, by rw [he]; exact h4, h5, h6, h7, h8, by rw [he]; exact h9, h10⟩
theorem thL.kept {C n d : String} {A : Nat → Prop} {U : State} {H H1 : Heap} (h : thL C n d A U H) (hq : ∀ a : Nat, a < H.size → ¬ A a → H1[a]? = H[a]?) : thL C n d A U H1 := by
  obtain ⟨c, k, i, f, a, cell, v, h1, h2, h3, h4, h5, h6, h7, h8, h9, h10, h11, h12⟩ := h
  exact ⟨c, k, i, f, a, cell, v, h1, h2, h3, h4, by rw [hq a (Array.getElem?_eq_some_iff.mp h5).1 h12]; exact h5, h6, h7, h8, h9, h10, h11, h12⟩
theorem thL.narrow {C n d : String} {A B : Nat → Prop} {U : State} {H : Heap} (h : thL C n d A U H) (hAB : ∀ q, B q → A q) : thL C n d B U H := by
  obtain ⟨c, k, i, f, a, cell, v, h1, h2, h3, h4, h5, h6, h7, h8, h9, h10, h11, h12⟩ := h
  exact ⟨c, k, i, f, a, cell, v, h1, h2, h3, h4, h5, h6, h7, h8, h9, h10, h11, fun z => h12 (hAB a z)⟩
theorem thL.isRef {C n d : String} {A : Nat → Prop} {U : State} {args : Array Value} (h : thL C n d A U U.heap) : (Cond.isRef (.static C n d)).before args U = true := by
  obtain ⟨c, k, i, f, a, cell, v, h1, h2, h3, h4, h5, h6, h7, h8, h9, h10, h11, h12⟩ := h
  have ev : (Term.static C n d).eval args U none [] U = some v := Term.static_eval h2 h3 h4 h5 h6 h10
  cases v <;> simp_all [Cond.before, Cond.holds, Cond.value, Value.isRef]
theorem thL.lays {C n d : String} {A : Nat → Prop} {U : State} {args : Array Value} (h : thL C n d A U U.heap) : (Cond.laysStatic C n d).before args U = true := by
  obtain ⟨c, k, i, f, a, cell, v, h1, h2, h3, h4, h5, h6, h7, h8, h9, h10, h11, h12⟩ := h
  exact Cond.laysStatic_of h1 h2 h3 h4 h5 h6 h7 h8 h9
/-- Throwable's two statics -/
def thS (A : Nat → Prop) (U : State) (H : Heap) : Prop := thL Bundle.tN "UNASSIGNED_STACK" Bundle.steD A U H ∧ thL Bundle.tN "SUPPRESSED_SENTINEL" Bundle.listD A U H
theorem thS.moved {A : Nat → Prop} {u U : State} {H : Heap} (hvm : u.vm.Alike U.vm) (h : thS A u H) : thS A U H := ⟨h.1.moved hvm, h.2.moved hvm⟩
theorem thS.kept {A : Nat → Prop} {U : State} {H H1 : Heap} (h : thS A U H) (hq : ∀ a : Nat, a < H.size → ¬ A a → H1[a]? = H[a]?) : thS A U H1 := ⟨h.1.kept hq, h.2.kept hq⟩
theorem thS.narrow {A B : Nat → Prop} {U : State} {H : Heap} (h : thS A U H) (hAB : ∀ q, B q → A q) : thS B U H := ⟨h.1.narrow hAB, h.2.narrow hAB⟩
/-- the texts of the class's exceptions, by their places -/
def thTx : List (Nat × String) := [(89, "no sign of a source"), (100, "the source is full"), (106, "the source has not so many signs"), (131, "the image has no such byte"), (157, "no such topic"), (170, "no such link"), (178, "the stack is empty"), (192, "nothing is told about that"), (194, "no sign of a query"), (196, "the query is full"), (221, "no such width"), (233, "no such place is shown"), (240, "nothing is open")]
/-- words on tables that are no words of ga -/
def thWs : List Cond := [.declares (Bundle.initS Bundle.tN), .declares (Bundle.initS "java/lang/Exception"), .declares (Bundle.initS "java/lang/RuntimeException"), .castable "java/lang/IllegalArgumentException" "java/lang/IllegalArgumentException", .castable "java/lang/UnsupportedOperationException" "java/lang/UnsupportedOperationException", .castable "java/lang/IndexOutOfBoundsException" "java/lang/IndexOutOfBoundsException", .castable "java/lang/IllegalStateException" "java/lang/IllegalStateException", .castable "java/util/NoSuchElementException" "java/util/NoSuchElementException"]
theorem thWs_kind : ∀ w ∈ thWs, (∃ x, w = .declares x) ∨ ∃ C T, w = .castable C T := by
  intro w hw
  simp only [thWs, List.mem_cons, List.not_mem_nil, or_false] at hw
  rcases hw with rfl | rfl | rfl | rfl | rfl | rfl | rfl | rfl
  · exact Or.inl ⟨_, rfl⟩
  · exact Or.inl ⟨_, rfl⟩
  · exact Or.inl ⟨_, rfl⟩
  · exact Or.inr ⟨_, _, rfl⟩
  · exact Or.inr ⟨_, _, rfl⟩
  · exact Or.inr ⟨_, _, rfl⟩
  · exact Or.inr ⟨_, _, rfl⟩
  · exact Or.inr ⟨_, _, rfl⟩
def thT (U : State) : Prop := (∀ q ∈ thTx, ∃ a, vk_R "HelpFile" q.1 q.2 a U) ∧ ∀ w ∈ thWs, va_Nw w U
theorem thT.warm {s U : State} (hW : s.WarmedH U.vm) (h : thT s) : thT U := by
  refine ⟨fun q hq => let ⟨a, ha⟩ := h.1 q hq; ⟨a, ha.warm hW⟩, fun w hw => ?_⟩
  have h1 := h.2 w hw
  rcases thWs_kind w hw with ⟨x, rfl⟩ | ⟨C, T, rfl⟩
  · exact va_Nw.warmD hW h1
  · exact va_Nw.warmC hW h1
theorem thT.same {u U : State} (hv : U.vm = u.vm) (h : thT u) : thT U := by
  refine ⟨fun q hq => let ⟨a, ha⟩ := h.1 q hq; ⟨a, ha.same hv⟩, fun w hw => ?_⟩
  have h1 := h.2 w hw
  rcases thWs_kind w hw with ⟨x, rfl⟩ | ⟨C, T, rfl⟩
  · exact va_Nw.same rfl hv.symm h1
  · exact va_Nw.same rfl hv.symm h1
/-- the words of an exception's making: those of ga hold on by themselves; the rest is thS and thT -/
def thSp : List Cond := [.isRef (.static Bundle.tN "UNASSIGNED_STACK" Bundle.steD), .isRef (.static Bundle.tN "SUPPRESSED_SENTINEL" Bundle.listD), .laysStatic Bundle.tN "UNASSIGNED_STACK" Bundle.steD, .laysStatic Bundle.tN "SUPPRESSED_SENTINEL" Bundle.listD]
def thOk (ws : List Cond) : Prop := ∀ w ∈ ws, w ∈ ga ∨ w ∈ thSp ∨ w ∈ thWs
def thDec (w : Cond) : Bool := match w with | .isRef _ => true | .laysStatic .. => true | .declares _ => true | .castable .. => true | _ => false
theorem thOk_of {ws : List Cond} (ps : List Nat) (h : ws.filter (fun w => !thDec w) = ps.filterMap (fun i => tables_1[i]?)) (hg : (ws.filter (fun w => !thDec w)).all goodWord = true)
    (hs : (ws.filter thDec).all (fun w => decide (w ∈ thSp ++ thWs)) = true) : thOk ws := by
  intro w hw
  by_cases hd : thDec w = true
  · have h1 := List.all_eq_true.mp hs w (List.mem_filter.mpr ⟨hw, hd⟩)
    exact Or.inr (List.mem_append.mp (of_decide_eq_true h1))
  · exact Or.inl (ga_ps ps h hg w (List.mem_filter.mpr ⟨hw, by simp [hd]⟩))
theorem th_words {ws : List Cond} {A : Nat → Prop} {s : State} {args : Array Value} {k0 : Cond} (h : thOk ws) (hts : ∀ w ∈ k0 :: ga, w.before args s = true) (hZ : thS A s s.heap) (hT : thT s) : ∀ w ∈ ws, w.before args s = true := by
  intro w hw
  rcases h w hw with h | h | h
  · exact hts w (List.mem_cons_of_mem _ h)
  · simp only [thSp, List.mem_cons, List.not_mem_nil, or_false] at h
    rcases h with rfl | rfl | rfl | rfl
    · exact hZ.1.isRef
    · exact hZ.2.isRef
    · exact hZ.1.lays
    · exact hZ.2.lays
  · have h1 := hT.2 w h
    rcases thWs_kind w h with ⟨x, rfl⟩ | ⟨C, T, rfl⟩
    · exact va_Nw.use rfl h1
    · exact va_Nw.use rfl h1
/-- the end of a method that threw: an exception of the class X, made anew; nothing else has changed -/
def QT (X : String) : Array Value → State → Outcome → State → Prop := fun _ st oc t =>
  ∃ (x : Nat) (ce : Cell), oc = .threw x ∧ st.heap.size ≤ x ∧ t.heap[x]? = some ce ∧ ce.vm = .none ∧ st.vm.findClass X = some ce.cls ∧ st.WarmedH t.vm ∧ st.sameButNew ({ t with vm := st.vm } : State) [] 1 6
def MX (below : List Frame) (Qc : Array Value → State → Outcome → State → Prop) (a : Array Value) (s : State) : State → Prop := fun t => ∃ o, t.status = .running ∧ Ended t below o ∧ Qc a s o t
def PsT (D : va_G) (cl : List vw_C) (tys : List (ClassId × FieldType)) (av : List Value) (ws : va_W) (sz : Nat) : Array Value → State → Prop :=
  fun v U => Ps D cl tys av ws sz v U ∧ thS (va_A ws sz) U U.heap ∧ thT U
def CtT (l : Launch) (y : MethodName) (wl : List Cond) (rm : Room) (D : va_G) (cl : List vw_C) (tys : List (ClassId × FieldType)) (av : List Value) (ws : va_W) (X : String) : Prop :=
  ∀ sz : Nat, MetFree l y (headSpec wl rm) (PsT D cl tys av ws sz) (fun _ _ _ _ _ => True) (QT X)
theorem CtT.ofW {l : Launch} {y : MethodName} {cc : ByteArray} {maxL : Nat} {ret : Option FieldType} {rm : Room} {D : va_G} {cl : List vw_C} {tys : List (ClassId × FieldType)} {av : List Value} {ws : va_W} {X : String}
    (hy : plainName y.cls = true) (hn : (lg_sl av).length ≤ maxL)
    (body : ∀ (p : Program) (e : Env) (s : State) (m : MethodId) (below : List Frame) (meth : Method) (c : Code) (A : Nat → Prop) (ls : Array Slot),
      p.tables.exec = Jvm.exec → c.code = cc → meth.sig.returnType = ret → c.maxLocals = maxL → s.vm.findClass y.cls = some m.cls → meth.locks = false → c.exceptionTable.isEmpty = true →
      (∀ w ∈ Cond.code y cc maxL ret :: ga, w.before av.toArray s = true) → va_K D cl tys s → nw s → thS A s s.heap → thT s → (∀ q, s.heap.size ≤ q → A q) → va_P D cl ws s.heap → va_D A ws → lv_has ls maxL (lv_args 0 av) →
      W p l e rm s m av.toArray below meth c s.heap [] 0 0 (MX below (QT X) av.toArray s) (F0 m 0 ls [])) :
    CtT l y (Cond.code y cc maxL ret :: ga) rm D cl tys av ws X := by
  intro sz
  refine MetFree.of_bodyS (code := cc) (maxLocals := maxL) (ret := ret) hy ?_ ?_
  · intro args s m h hn
    obtain ⟨meth, c, h1, h2, h3, h4, h5, h6, -, -⟩ := Cond.code_spec hn (atoms_spec (ws := Cond.code y cc maxL ret :: ga) h _ List.mem_cons_self)
    exact ⟨meth, c, h1, h2, h3, h4, h5, h6⟩
  · intro p e s m args below meth c s₁ B hml hv _
    obtain ⟨⟨rfl, hsz, hP, hK, hN, hD0⟩, hZ, hT⟩ := hv
    subst hsz
    have hts := atoms_spec (ws := Cond.code y cc maxL ret :: ga) B.pre
    have hown : s.vm.findClass y.cls = some m.cls := findClass_of_methodNamed B.named
    have hnh := B.noHandlers (hts _ List.mem_cons_self)
    have hh0 : s₁.heap = s.heap := by rw [B.state]; rfl
    have hl := lv_entry av (n := maxL) hn
    have hw := body p e s m below meth c (va_A ws s.heap.size) _ B.exec B.bytes B.returns hml hown B.notSynchronized hnh hts hK hN hZ hT (fun q h => Or.inr h) hP hD0.self hl
    rw [← lg_entry_eq] at hw
    obtain ⟨t, a1, o, b1, b2, b3⟩ := hw s₁ hh0 (Stand.of_body B)
    exact ⟨t, o, a1, b1, b2, b3⟩
section TH
variable {p : Program} {l : Launch} {e : Env} {R : Room} {s : State} {m : MethodId} {args : Array Value} {below : List Frame} {meth : Method} {c : Code} {H : Heap} {locs : List Loc} {cells slots : Nat} {Q : State → Prop}
variable {cc : ByteArray} {pc : Nat} {ls : Array Slot} {rest st0 : List Value} {A : Nat → Prop} {H0 : Heap} {D : va_G} {cl : List vw_C} {tys : List (ClassId × FieldType)} {ws wc wr w1 : va_W} {rv : Option Value}
theorem noTable {c : Code} (h : c.exceptionTable.isEmpty = true) {P : ExceptionTableEntry → Prop} : ∀ x ∈ c.exceptionTable.toList, P x := by
  intro x hx
  have h1 : c.exceptionTable = #[] := by simpa using h
  rw [h1] at hx
  cases hx
/-- throw new X("..") -/
theorem ct_throw {nL iN iS ic q : Nat} {own X tx : String} {names : List String} {k0 : Cond} (htr : ∀ e : Env, l.admits e → e.platform.stackTraces = false)
    (hx : p.tables.exec = Jvm.exec) (hb : c.code = cc) (hml : c.maxLocals = nL) (hsz : ls.size = nL) (hown : s.vm.findClass own = some m.cls) (hlocks : meth.locks = false) (hnh : c.exceptionTable.isEmpty = true)
    (hts : ∀ w ∈ k0 :: ga, w.before args s = true) (hZ : thS A s s.heap) (hTt : thT s) (hok : thOk (Bundle.ownAtoms own ic X names)) (hfit : Bundle.fit X = true) (hnames : ∀ n ∈ names, Bundle.fit n = true)
    (m1 : Cond.classLink own iN X ∈ ga) (m2 : Cond.instantiable X 6 ∈ ga) (m3 : Cond.initialized X ∈ ga) (hstr : vk_R own iS tx q s)
    (d0 : decode cc pc = .ok (.new iN, 3)) (d3 : decode cc (pc + 3) = .ok (.dup, 1)) (d4 : decode cc (pc + 4) = .ok (.ldc iS, 2)) (d6 : decode cc (pc + 6) = .ok (.invokespecial ic, 3)) (d9 : decode cc (pc + 9) = .ok (.athrow, 1))
    (hRf : names.length + 3 < R.frames) (hRl : 1 + (13 * (names.length + 1) + 42) ≤ R.locals) (hRc : 1 ≤ R.cells) (hRs : 6 ≤ R.slots) :
    W p l e R s m args below meth c s.heap [] 0 0 (MX below (QT X) args s) (F0 m pc ls []) := by
  have tb : ∀ {w : Cond}, w ∈ ga → w.before args s = true := fun h => hts _ (List.mem_cons_of_mem _ h)
  refine W.newc hx hb hown (tb m1) (tb m2) (tb m3) rfl d0 (by omega) (by omega) (fun cC kC h1 h2 h3 h4 => ?_)
  refine W.eq (g2 := F0 m (pc + 3) ls [.ref s.heap.size]) rfl ?_
  refine lv_dup hx hb d3 rfl ?_
  refine va_ldcS hx hb hown hstr d4 ?_
  intro T hT X0
  obtain ⟨U, st, run, hend, hW, hsame, ce, hce, hO⟩ := X0.ctorThrowS hx (htr e X0.admits) hown hfit hnames (th_words hok hts hZ hTt) (fun _ h => by cases h) (a := s.heap.size) (cX := cC) (kX := kC) h1 h2 (by rw [hT]; simp) (Nat.le_refl _) (msg := .ref q) rfl (g := F0 m (pc + 6) ls [.ref q, .ref s.heap.size, .ref s.heap.size]) rfl (hsz.trans hml.symm) rfl rfl (rest := []) rfl (by rw [hb]; exact d6) (by rw [hb]; exact d9) (noTable hnh) hRf (by simpa [JFrame.monitorRoom, Value.category] using hRl) hlocks
  exact ⟨U, st, .threw s.heap.size, run, hend, s.heap.size, ce, rfl, Nat.le_refl _, hce, hO.vm, hO.cls, hW, hsame⟩
/-- NoSuchElementException's constructor names its superclass's by another place (13) -/
def six13 : ByteArray := ⟨#[0x2a, 0x2b, 0xb7, 0x00, 0x0d, 0xb1]⟩
def ownAtomsN (own : String) (ic : Nat) (X : String) : List Cond :=
  Bundle.throwableAtoms ++ Bundle.throwableSAtoms ++ (Bundle.passSAtoms X "java/lang/RuntimeException" 13 six13 ++ Bundle.chainSAtoms "java/lang/RuntimeException" ["java/lang/Exception"]) ++
  [.methodLink own ic (Bundle.initS X), .instantiable X 6, .castable X X, .selects X Bundle.tFill0 Bundle.tFill0, .selects X Bundle.tFill Bundle.tFill,
   .lays X Bundle.tN "cause" "Ljava/lang/Throwable;", .lays X Bundle.tN "stackTrace" Bundle.steD, .lays X Bundle.tN "suppressedExceptions" Bundle.listD, .lays X Bundle.tN "detailMessage" "Ljava/lang/String;",
   .isRef (.static Bundle.tN "UNASSIGNED_STACK" Bundle.steD), .isRef (.static Bundle.tN "SUPPRESSED_SENTINEL" Bundle.listD),
   .fieldLink Bundle.tN 198 Bundle.tN "backtrace" "Ljava/lang/Object;", .lays Bundle.tN Bundle.tN "backtrace" "Ljava/lang/Object;", .lays X Bundle.tN "backtrace" "Ljava/lang/Object;"]
theorem ct_throwN {nL iN iS ic q : Nat} {own X tx : String} {k0 : Cond} (htr : ∀ e : Env, l.admits e → e.platform.stackTraces = false)
    (hx : p.tables.exec = Jvm.exec) (hb : c.code = cc) (hml : c.maxLocals = nL) (hsz : ls.size = nL) (hown : s.vm.findClass own = some m.cls) (hlocks : meth.locks = false) (hnh : c.exceptionTable.isEmpty = true)
    (hts : ∀ w ∈ k0 :: ga, w.before args s = true) (hZ : thS A s s.heap) (hTt : thT s) (hok : thOk (ownAtomsN own ic X)) (hfit : Bundle.fit X = true)
    (m1 : Cond.classLink own iN X ∈ ga) (m2 : Cond.instantiable X 6 ∈ ga) (m3 : Cond.initialized X ∈ ga) (hstr : vk_R own iS tx q s)
    (d0 : decode cc pc = .ok (.new iN, 3)) (d3 : decode cc (pc + 3) = .ok (.dup, 1)) (d4 : decode cc (pc + 4) = .ok (.ldc iS, 2)) (d6 : decode cc (pc + 6) = .ok (.invokespecial ic, 3)) (d9 : decode cc (pc + 9) = .ok (.athrow, 1))
    (hRf : 5 < R.frames) (hRl : 82 ≤ R.locals) (hRc : 1 ≤ R.cells) (hRs : 6 ≤ R.slots) :
    W p l e R s m args below meth c s.heap [] 0 0 (MX below (QT X) args s) (F0 m pc ls []) := by
  have tb : ∀ {w : Cond}, w ∈ ga → w.before args s = true := fun h => hts _ (List.mem_cons_of_mem _ h)
  refine W.newc hx hb hown (tb m1) (tb m2) (tb m3) rfl d0 (by omega) (by omega) (fun cC kC hf1 hk1 hord1 hn1 => ?_)
  refine W.eq (g2 := F0 m (pc + 3) ls [.ref s.heap.size]) rfl ?_
  refine lv_dup hx hb d3 rfl ?_
  refine va_ldcS hx hb hown hstr d4 ?_
  intro T hT X0
  have hcellA : T.heap[s.heap.size]? = some (freshCell cC kC) := by rw [hT]; simp
  have hw := th_words hok hts hZ hTt
  have p1 : e.platform.frameOwnsMonitors = true := by rw [X0.admits.platform]
  have p2 : e.platform.finalization = false := by rw [X0.admits.platform]
  have p3 : e.platform.magicAccessors = ({} : Platform).magicAccessors := by rw [X0.admits.platform]
  obtain ⟨Tc, Z0, L, hZ0, Y⟩ := ThrowableC.of_atoms (args := args) p1 p2 p3 (fun x hx => hw x (by simp [ownAtomsN, hx]))
  obtain ⟨Z, M, LZ, LM, hnZ⟩ := Init0T.ofS_atoms (args := args) p3 L Y (fun x hx => hw x (by simp [ownAtomsN, hx]))
  obtain ⟨P1, Ps, hlen, L1, hLs, hm1, hk1', hks⟩ := Bundle.chainS (args := args) p3 hnZ ["java/lang/Exception"] "java/lang/RuntimeException" (by decide +kernel) (by decide +kernel) (fun x hx => hw x (by simp only [ownAtomsN, List.mem_append]; exact Or.inl (Or.inr (Or.inr hx))))
  obtain ⟨P0, L0, hm0, hs0⟩ := PassC.ofS_atoms (args := args) (s := s) p3 (X := X) (Y := "java/lang/RuntimeException") (index := 13) (bytes := six13) (Bundle.fit_spec hfit).1 (by decide +kernel) (by decide +kernel) (by decide +kernel) (by decide +kernel) (by decide +kernel) (fun x hx => hw x (by simp only [ownAtomsN, List.mem_append]; exact Or.inl (Or.inr (Or.inl hx))))
  have hup : P0.sup = P1.m := Option.some.inj (hs0.symm.trans hm1)
  have tail : ∀ x, x ∈ ownAtomsN own ic X → x.holds args s none s [] = true := fun x hx => hw x hx
  have hfound : s.vm.findClass X = some P0.m.cls := findClass_of_methodNamed hm0
  cases Option.some.inj (hf1.symm.trans hfound)
  have sel : ∀ (y : MethodName) (my : MethodId), s.methodNamed? y = some my → (y.cls ≠ "java/lang/invoke/MethodHandle" ∧ y.cls ≠ "java/lang/invoke/VarHandle") → (Cond.selects X y y).holds args s none s [] = true → selectMethod e.platform s.vm P0.m.cls my = .method my := by
    intro y my hy hny hsel
    obtain ⟨c2, r2, m2', q1, q2, q3, q4, -⟩ := Cond.selects_spec hsel
    cases Option.some.inj (q1.symm.trans hfound)
    cases Option.some.inj (q2.symm.trans (State.methodFound?_of_named hy hny))
    cases Option.some.inj (q3.symm.trans hy)
    rw [Launch.admits_selectMethod X0.admits]; exact q4
  have hsel0 := sel _ _ Y.fill0 (by decide) (tail (.selects X Bundle.tFill0 Bundle.tFill0) (by simp [ownAtomsN]))
  have hselF := sel _ _ Y.fill (by decide) (tail (.selects X Bundle.tFill Bundle.tFill) (by simp [ownAtomsN]))
  obtain ⟨cellS0, hcS0, hiss⟩ := Y.statics
  obtain ⟨u0, hu0⟩ := Cond.staticRefV Y.unassigned L.unassignedStatic L.statics hcS0 hiss (tail (.isRef (.static Bundle.tN "UNASSIGNED_STACK" Bundle.steD)) (by simp [ownAtomsN]))
  obtain ⟨sen, hsen⟩ := Cond.staticRefV Y.sentinel L.sentinelStatic L.statics hcS0 hiss (tail (.isRef (.static Bundle.tN "SUPPRESSED_SENTINEL" Bundle.listD)) (by simp [ownAtomsN]))
  obtain ⟨ci8, i8, fB, b1, b2, b3, b4, -, hnB, htB, hffB⟩ := Cond.ownField (t := .object "java/lang/Object") Y.found L.cls (by decide +kernel) (tail (.fieldLink Bundle.tN 198 Bundle.tN "backtrace" "Ljava/lang/Object;") (by simp [ownAtomsN])) (tail (.lays Bundle.tN Bundle.tN "backtrace" "Ljava/lang/Object;") (by simp [ownAtomsN])) e.platform p3
  have hltS : Tc.aS < s.heap.size := (Array.getElem?_eq_some_iff.mp hcS0).1
  have hcellS : T.heap[Tc.aS]? = some cellS0 := by rw [hT, Array.getElem?_push, if_neg (Nat.ne_of_lt hltS)]; exact hcS0
  have hneS : Tc.aS ≠ s.heap.size := Nat.ne_of_lt hltS
  have hknS : cellS0.vm ≠ .unknown := by
    intro hu
    rw [hu] at hiss
    cases hiss
  obtain ⟨iM, hffM⟩ := Y.msg
  obtain ⟨tyC, dC, hdC, hdnC⟩ := Cond.laysAt hfound hk1 Y.cause (tail (.lays X Bundle.tN "cause" "Ljava/lang/Throwable;") (by simp [ownAtomsN]))
  obtain ⟨tyS, dS, hdS, hdnS⟩ := Cond.laysAt hfound hk1 Y.stack (tail (.lays X Bundle.tN "stackTrace" Bundle.steD) (by simp [ownAtomsN]))
  obtain ⟨tyP, dP, hdP, hdnP⟩ := Cond.laysAt hfound hk1 Y.supp (tail (.lays X Bundle.tN "suppressedExceptions" Bundle.listD) (by simp [ownAtomsN]))
  obtain ⟨tyM, dM, hdM, hdnM⟩ := Cond.laysAt hfound hk1 hffM (tail (.lays X Bundle.tN "detailMessage" "Ljava/lang/String;") (by simp [ownAtomsN]))
  obtain ⟨tyB, dB, hdB, hdnB⟩ := Cond.laysAt hfound hk1 hffB (tail (.lays X Bundle.tN "backtrace" "Ljava/lang/Object;") (by simp [ownAtomsN]))
  have bC := Cond.laysApart hdB hdC hdnB hdnC (by rw [hnB, Y.causeName]; decide)
  have bS := Cond.laysApart hdB hdS hdnB hdnS (by rw [hnB, Y.stackName]; decide)
  have bP := Cond.laysApart hdB hdP hdnB hdnP (by rw [hnB, Y.suppName]; decide)
  have hskip : SkipFacts Tc e.platform s (fun u => u) u0 ((preparedCellV Tc.toThrowableT (freshCell P0.m.cls kC) s.heap.size u0 sen).withEntry T.cur) :=
    ⟨{ ci198 := ci8, i198 := i8, fBack := fB }, ⟨b1, b2, b3, b4⟩, by
      have := fresh_default (c := P0.m.cls) tyB
      rw [htB] at this
      simpa [preparedCellV, Cell.setSlot, Cell.withEntry, Array.getElem?_setIfInBounds, bC, bS, bP, bC.symm, bS.symm, bP.symm, defaultValue] using this, fun _ _ => rfl⟩
  obtain ⟨tm, methC, cdC, kC', vm₁, hnC, -, -, -, -, -, -, -, hW₁, st1⟩ := Steps.initColdS (tb := p.tables) (e := e) (below := below) (s := s) (U := T) X0.here hx X0.warmed p3 hown (t := Bundle.initS X) rfl rfl (Bundle.fit_spec hfit).2
    (tail (.methodLink own ic (Bundle.initS X)) (by simp [ownAtomsN])) (hw (.instanceMethod (Bundle.initS X)) (by simp [ownAtomsN, Bundle.passSAtoms])) (bytes := six13) (maxL := 2) (hw (.code (Bundle.initS X) six13 2 none) (by simp [ownAtomsN, Bundle.passSAtoms]))
    (f := F0 m (pc + 6) ls [.ref q, .ref s.heap.size, .ref s.heap.size]) rfl (a := s.heap.size) (msg := .ref q) (rest := [.ref s.heap.size]) rfl (by rw [hb]; exact d6)
  cases Option.some.inj (hnC.symm.trans hm0)
  have X₁ := X0.noted hW₁
  obtain ⟨vm₂, X₂, st2⟩ := X₁.ctorMessageOffV hx (g := F0 m (pc + 6) ls [.ref s.heap.size]) rfl (hsz.trans hml.symm) Tc L Z LZ M LM (P0 :: P1 :: Ps)
    (fun P hP => by
      rcases List.mem_cons.mp hP with rfl | hP
      · exact L0
      · rcases List.mem_cons.mp hP with rfl | hP
        · exact L1
        · exact hLs P hP) ⟨hup, hk1', hks⟩ (u0 := u0) (sen := sen) (self := s.heap.size) (msg := .ref q) rfl (cell := freshCell P0.m.cls kC) (cellS := cellS0)
    hcellA (fun _ => by simp) (by simp) rfl rfl hsel0 hselF hcellS hneS hknS hu0 hsen
    (Takes.of_laid hk1 hord1 tyC (by rw [Y.causeType]; rfl)) (Takes.of_laid hk1 hord1 tyS (by rw [Y.stackType]; exact fits_refV_array _ u0)) (Takes.of_laid hk1 hord1 tyP (by rw [Y.suppType]; exact fits_refV_object _ sen))
    (Takes.of_laid hk1 hord1 tyM (by rw [Y.msgType]; rfl)) Y.objLocals hskip (htr e X0.admits) [] (by rw [hb]; exact d6)
    (by simp only [List.length_cons, hlen, List.length_nil]; omega) (by simp only [List.length_cons, hlen, List.length_nil]; simpa [JFrame.monitorRoom, Value.category] using hRl)
  obtain ⟨hwalk, hrun, hended, hWU, hsame⟩ := X₂.athrowLeaves hx (g := F0 m (pc + 9) ls [.ref s.heap.size]) rfl rfl rfl (noTable hnh) (a := s.heap.size) (rest := []) rfl (by rw [hb]; exact d9) hlocks
  have hlt : s.heap.size < ((T.setVm vm₁).setVm vm₂).heap.size := (Array.getElem?_eq_some_iff.mp hcellA).1
  have hU := heapAt_setCell_self (s := (T.setVm vm₁).setVm vm₂) (plainBareV Tc.toThrowableT (freshCell P0.m.cls kC) s.heap.size u0 sen (.ref q)) hlt
  refine ⟨_, st1 _ (fun acts => ?_), .threw s.heap.size, hrun, hended, s.heap.size, _, rfl, Nat.le_refl _, hU, rfl, hfound, hWU, hsame.weaken (fun y hy hlt' => ?_) (Nat.le_refl _) (Nat.le_refl _)⟩
  · rw [doInvoke_state]
    exact st2 _ hwalk
  · exfalso
    have hb' : y.base = s.heap.size := by
      simp only [List.nil_append, List.mem_cons, List.not_mem_nil, or_false] at hy
      rcases hy with rfl | rfl | rfl | rfl | rfl <;> rfl
    rw [hb'] at hlt'
    exact Nat.lt_irrefl _ hlt'
/-- nothing written: every old cell is as it was -/
theorem sbn_old {s t : State} {k n : Nat} (h : s.sameButNew t [] k n) {q : Nat} (hq : q < s.heap.size) : t.heap[q]? = s.heap[q]? := by
  obtain ⟨cell, hc⟩ : ∃ cell, s.heap[q]? = some cell := ⟨s.heap[q], by simp [hq]⟩
  obtain ⟨c', h1, h2, h3, h4⟩ := h.2.2.2.2.2 q cell hc
  rw [h1, hc, h2]
  congr 1
  have hs : c'.slots = cell.slots := by
    apply Array.ext_getElem?
    intro i
    exact h4 i (by simp)
  rw [hs]
/-- a call that comes back by an exception: the walk stands before it, with the exception laid on top -/
theorem outT {y : MethodName} {wl : List Cond} {rm : Room} {P : Array Value → State → Prop} {Xc : String} {bytes : ByteArray} {maxL : Nat} {ret : Option FieldType} {U : State} {g : JFrame} {ig : Instr} {len : Nat} {mk : MethodId} {a : Array Value}
    (X : Stand p l e R s m args below meth c U locs cells slots) (hM : MetFree l y (headSpec wl rm) P (fun _ _ _ _ _ => True) (QT Xc)) (hg : g.method = m) (hsize : g.locals.size = c.maxLocals) (hdg : decode c.code g.pc = .ok (ig, len)) (hn : U.methodNamed? y = some mk)
    (h1 : (headSpec wl rm).pre.before a U = true) (h2 : (Cond.code y bytes maxL ret).before a U = true) (h3 : (Cond.initialized y.cls).before a U = true) (h4 : cells + rm.cells ≤ R.cells) (h5 : slots + rm.slots ≤ R.slots)
    (hframes : rm.frames + 1 ≤ R.frames) (hlocals : 8 + (maxL + 11) + rm.locals ≤ R.locals) (hW : 2 * g.monitorRoom + (g.stack.map fun v => v.category).sum ≤ 8) (hP : P a (U.calling g mk a)) :
    ∃ (x : Nat) (ce : Cell) (T' : State), Stand p l e R s m args below meth c T' locs (cells + 1) (slots + 6) ∧ U.heap.size ≤ x ∧ T'.heap[x]? = some ce ∧ ce.vm = .none ∧ U.vm.findClass Xc = some ce.cls ∧ (∀ q, q < U.heap.size → T'.heap[q]? = U.heap[q]?) ∧ U.WarmedH T'.vm ∧
      Steps p.tables e below (doInvoke e (U.setTop g) [] mk a).1 ((T'.setTop g).pushFrame (.throwing x)) := by
  obtain ⟨methY, cY, hmY, hcY, -, hlY, -, -, -, -⟩ := Cond.code_spec hn h2
  obtain ⟨kY, hkY, -⟩ := className_of_methodNamed hn
  have hinitY : kY.init = .initialized := Cond.initialized_spec (findClass_of_methodNamed hn) hkY h3
  have h : At U g.method c below := by rw [hg]; exact X.here
  have happ : (headSpec wl rm).appliesLoose y e.platform (U.calling g mk a) = true :=
    Spec.appliesLoose_calling (g := g) h hdg hn hkY hinitY
      (X.room_calling (g := g) (R' := (headSpec wl rm).room) hsize hmY hcY hframes (by rw [hlY]; show _ + rm.locals ≤ _; omega) h4 h5) h1
  obtain ⟨mid, hmid⟩ := h.above
  have hfr : (U.setTop g).frames = (.java g :: mid) ++ below := by rw [State.frames_setTop' g h.top, hmid]; rfl
  obtain ⟨o, s₂, hsteps, -, hend, hq⟩ := Steps.callFree hM p X.admits X.cas X.clock (acts := []) hfr happ hP trivial
  rw [State.frames_setTop' g h.top, X.tail] at hend
  obtain ⟨x, ce, rfl, q1, q2, q3, q4, q5, q6⟩ := hq
  obtain ⟨T', X', hW', hsame, ht⟩ := X.outOfThrown hg hend q5 q6
  rw [List.append_nil] at X'
  have hh : s₂.heap = T'.heap := by rw [ht]; exact Stand.throwing_heap T' g x
  subst ht
  exact ⟨x, ce, T', X', q1, by rw [← hh]; exact q2, q3, q4, fun q hq => sbn_old hsame hq, hW', hsteps⟩
/-- invokevirtual of a method that throws, out of a method that doesn't catch it -/
theorem ct_VT {nL index n maxL b ci : Nat} {y : MethodName} {bytes : ByteArray} {ret : Option FieldType} {rm : Room} {own C Xc : String} {As : List Value} {k0 : Cond} {fs : List Value} {q : vw_C}
    (S : CallFix p m c cc nL s args (k0 :: ga) own) (hlocks : meth.locks = false) (hnh : c.exceptionTable.isEmpty = true) (hF : Fm y bytes maxL ret n) (hC : CtT l y (Cond.code y bytes maxL ret :: ga) rm D cl tys (.ref b :: As) wc Xc)
    (m1 : Cond.methodLink own index y ∈ ga) (m2 : Cond.instanceMethod y ∈ ga) (m3 : Cond.selects C y y ∈ ga)
    (hR : rm.frames + 1 ≤ R.frames ∧ 8 + (maxL + 11) + rm.locals ≤ R.locals) (hrc : rm.cells ≤ R.cells) (hrs : rm.slots ≤ R.slots)
    (hK : va_K D cl tys s) (hN : nw s) (hZ : thS A s s.heap) (hT0 : thT s) (hA : ∀ q, s.heap.size ≤ q → A q) (hP : va_P D cl ws s.heap) (hD : va_D A ws)
    (isC : List Nat) (eF : isC.filterMap (fun i => ws[i]?) = wc) (eC : isC.map (fun i => ws[i]?) = wc.map some) (nC : va_nd isC = true)
    (q0 : Nat) (hc : cl[ci]? = some q) (hq : q.1 = C) (he : ws[q0]? = some (b, .inr (ci, fs)))
    (hn : As.length = n) (hsize : ls.size = nL) (hst : st0 = As.reverse ++ .ref b :: rest) (hW : (rest.map fun v => v.category).sum ≤ 8) (hdg : decode cc pc = .ok (.invokevirtual index, 3)) :
    W p l e R s m args below meth c s.heap [] 0 0 (MX below (QT Xc) args s) (F0 m pc ls st0) := by
  obtain ⟨hx, hb, hml, hown, hts⟩ := S
  have tb : ∀ {w : Cond}, w ∈ ga → w.before args s = true := fun h => hts _ (List.mem_cons_of_mem _ h)
  subst hq
  have hFc := va_free (wc := wc) hD (va_S.rf (A := A) (H0 := s.heap)) hA isC eC
  intro T hT X
  obtain ⟨mk, methM, hnamed, hmethM, hstM, habM⟩ := Cond.instanceMethod_spec (tb m2)
  obtain ⟨methM', cM, hmethM', -, -, -, -, -, -, hsigM⟩ := Cond.code_spec hnamed (tb hF.1)
  cases hmethM.symm.trans hmethM'
  obtain ⟨cellB, hcB, hoB, hclB⟩ := va_recv hK hP hc he
  obtain ⟨c2, r2, m2', q1, q2, q3, q4, kP, hkP, hkPi⟩ := Cond.selects_spec (tb m3)
  cases hclB.symm.trans q1
  cases (State.methodFound?_of_named hnamed ⟨hF.2.2.1, hF.2.2.2.1⟩).symm.trans q2
  cases hnamed.symm.trans q3
  have hselP : selectMethod e.platform s.vm cellB.cls mk = .method mk := by rw [Launch.admits_selectMethod X.admits]; exact q4
  have hlen : As.length = methM.sig.parameters.length := by
    have h2 := hF.2.2.2.2
    rw [hsigM] at h2
    rw [hn]; exact (Option.some.inj h2).symm
  obtain ⟨vm₁, X₁, hstep₁⟩ := X.invokevirtual hx hown (tb m1) hnamed hmethM hstM hkP hkPi ⟨hF.2.2.1, hF.2.2.2.1⟩ (a := b) (cell := cellB) (by rw [hT]; exact hcB)
    (fun z h => by rw [h] at hoB; cases hoB) hselP hmethM habM hkP hkPi (g := F0 m pc ls st0) rfl (argsL := As) (rest := rest) hlen hst (by rw [hb]; exact hdg)
  have hgood : ∀ w ∈ Cond.code y bytes maxL ret :: ga, w.before (Value.ref b :: As).toArray (T.setVm vm₁) = true := fun w hw => pay_in hts (ga_good hF.1) w hw _ _ X₁.warmed
  obtain ⟨x, ce, T', X', g1, g2, g3, g4, g5, g6, st⟩ := outT (g := { F0 m pc ls st0 with stack := rest }) X₁ (hC T.heap.size) rfl (hsize.trans hml.symm) (by rw [hb]; exact hdg) (X₁.named hnamed) (atoms_intro hgood) (hgood _ List.mem_cons_self) (word_at X₁.warmed (ga_ok hF.2.1) (tb hF.2.1)) (by omega) (by omega) hR.1 hR.2 (lv_room hW)
    (by
      refine ⟨?_, ?_, ?_⟩
      · have hp := ct_pre (av := .ref b :: As) (A := A) (wc := wc) (H := T.heap) hK hN (by rw [hT]; exact hP.sub isC eF) (hD.sub isC nC eC) (T.setVm vm₁) rfl X₁.warmed
        exact Ps_blind _ _ _ _ hp
      · have h1 : thS (va_A wc T.heap.size) s T.heap := by rw [hT]; exact hZ.narrow hFc
        exact thS.moved X₁.warmed.alike h1
      · exact thT.same (u := T.setVm vm₁) rfl (hT0.warm X₁.warmed))
  obtain ⟨l1, l2, l3, l4, l5⟩ := X'.leaveThrown x (g := { F0 m pc ls st0 with stack := rest }) rfl rfl rfl (noTable hnh) hlocks
  refine ⟨T'.setFrames (.throwing x :: below), hstep₁ _ fun acts => ?_, .threw x, l2, l3, x, ce, rfl, ?_, g2, g3, ?_, l4, l5⟩
  · rw [doInvoke_state]; exact st.trans l1
  · rw [← hT]; exact g1
  · rw [← X₁.warmed.alike.findClass]; exact g4
end TH
