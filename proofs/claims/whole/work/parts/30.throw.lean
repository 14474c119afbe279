/-! Throwing: methods that end by an exception of their own making, having changed nothing. -/
theorem isRef_of_Zq {C n d : String} {A : Nat → Prop} {U : State} {args : Array Value} (h : va_Zq C n d A U U.heap) : (Cond.isRef (.static C n d)).before args U = true := by
  have key : ∀ v : Value, v.isRef = true → va_Z C n d v A U U.heap → (Cond.isRef (.static C n d)).before args U = true := by
    intro v hv hz
    obtain ⟨cf, kf, fi, f, a, cell, h1, h2, -, h4, h5, h6, h7, -⟩ := hz
    have ev : (Term.static C n d).eval args U none [] U = some v := Term.static_eval h1 h2 h4 h5 h6 h7
    cases v <;> simp_all [Cond.before, Cond.holds, Cond.value, Value.isRef]
  rcases h with h | ⟨t, h⟩
  · exact key _ rfl h
  · exact key _ rfl h
/-- Throwable's two statics hold references (or null), in a cell that the world doesn't hold -/
def thS (A : Nat → Prop) (U : State) (H : Heap) : Prop := va_Zq Bundle.tN "UNASSIGNED_STACK" Bundle.steD A U H ∧ va_Zq Bundle.tN "SUPPRESSED_SENTINEL" Bundle.listD A U H
theorem thS.moved {A : Nat → Prop} {u U : State} {H : Heap} (hvm : u.vm.Alike U.vm) (h : thS A u H) : thS A U H := ⟨h.1.moved hvm, h.2.moved hvm⟩
theorem thS.kept {A : Nat → Prop} {U : State} {H H1 : Heap} (h : thS A U H) (hq : ∀ a : Nat, a < H.size → ¬ A a → H1[a]? = H[a]?) : thS A U H1 := ⟨h.1.kept hq, h.2.kept hq⟩
theorem thS.narrow {A B : Nat → Prop} {U : State} {H : Heap} (h : thS A U H) (hAB : ∀ q, B q → A q) : thS B U H := ⟨h.1.narrow hAB, h.2.narrow hAB⟩
/-- the texts of the class's exceptions, by their places -/
def thTx : List (Nat × String) := [(89, "no sign of a source"), (100, "the source is full"), (106, "the source has not so many signs"), (131, "the image has no such byte"), (157, "no such topic"), (170, "no such link"), (178, "the stack is empty"), (192, "nothing is told about that"), (194, "no sign of a query"), (196, "the query is full"), (221, "no such width"), (233, "no such place is shown"), (240, "nothing is open")]
def thT (U : State) : Prop := ∀ q ∈ thTx, ∃ a, vk_R "HelpFile" q.1 q.2 a U
theorem thT.warm {s U : State} (hW : s.WarmedH U.vm) (h : thT s) : thT U := fun q hq => let ⟨a, ha⟩ := h q hq; ⟨a, ha.warm hW⟩
theorem thT.same {u U : State} (hv : U.vm = u.vm) (h : thT u) : thT U := fun q hq => let ⟨a, ha⟩ := h q hq; ⟨a, ha.same hv⟩
/-- which words of an exception's making hold on by themselves: those of ga; the rest (statics) is thS -/
def thOk (ws : List Cond) : Prop := ∀ w ∈ ws, w ∈ ga ∨ w = .isRef (.static Bundle.tN "UNASSIGNED_STACK" Bundle.steD) ∨ w = .isRef (.static Bundle.tN "SUPPRESSED_SENTINEL" Bundle.listD)
def thDec (w : Cond) : Bool := match w with | .isRef _ => true | _ => false
theorem thOk_of {ws : List Cond} (ps : List Nat) (h : ws.filter (fun w => !thDec w) = ps.filterMap (fun i => tables_1[i]?)) (hg : (ws.filter (fun w => !thDec w)).all goodWord = true)
    (hs : (ws.filter thDec).all (fun w => decide (w = .isRef (.static Bundle.tN "UNASSIGNED_STACK" Bundle.steD)) || decide (w = .isRef (.static Bundle.tN "SUPPRESSED_SENTINEL" Bundle.listD))) = true) : thOk ws := by
  intro w hw
  by_cases hd : thDec w = true
  · have h1 := List.all_eq_true.mp hs w (List.mem_filter.mpr ⟨hw, hd⟩)
    simp only [Bool.or_eq_true, decide_eq_true_eq] at h1
    exact Or.inr h1
  · exact Or.inl (ga_ps ps h hg w (List.mem_filter.mpr ⟨hw, by simp [hd]⟩))
theorem th_words {ws : List Cond} {A : Nat → Prop} {s : State} {args : Array Value} {k0 : Cond} (h : thOk ws) (hts : ∀ w ∈ k0 :: ga, w.before args s = true) (hZ : thS A s s.heap) : ∀ w ∈ ws, w.before args s = true := by
  intro w hw
  rcases h w hw with h | h | h
  · exact hts w (List.mem_cons_of_mem _ h)
  · rw [h]; exact isRef_of_Zq hZ.1
  · rw [h]; exact isRef_of_Zq hZ.2
/-- the end of a method that threw: an exception of the class X, made anew; nothing else has changed -/
def QT (X : String) : Array Value → State → Outcome → State → Prop := fun _ st oc t =>
  ∃ (x : Nat) (ce : Cell), oc = .threw x ∧ st.heap.size ≤ x ∧ t.heap[x]? = some ce ∧ ce.vm = .none ∧ st.vm.findClass X = some ce.cls ∧ st.WarmedH t.vm ∧ st.sameButNew ({ t with vm := st.vm } : State) [] 1 6
def MX (below : List Frame) (Qc : Array Value → State → Outcome → State → Prop) (a : Array Value) (s : State) : State → Prop := fun t => ∃ o, t.status = .running ∧ Ended t below o ∧ Qc a s o t
def PsT (D : va_G) (cl : List vw_C) (tys : List (ClassId × FieldType)) (av : List Value) (ws : va_W) (sz : Nat) : Array Value → State → Prop :=
  fun v U => Ps D cl tys av ws sz v U ∧ thS (va_A ws sz) U U.heap ∧ thT U
def CtT (l : Launch) (y : MethodName) (wl : List Cond) (rm : Room) (D : va_G) (cl : List vw_C) (tys : List (ClassId × FieldType)) (av : List Value) (ws : va_W) (X : String) : Prop :=
  ∀ sz : Nat, MetFree l y (headSpec wl rm) (PsT D cl tys av ws sz) (fun _ _ _ _ _ => True) (QT X)
theorem CtT.ofW {l : Launch} {y : MethodName} {cc : ByteArray} {maxL : Nat} {ret : Option FieldType} {rm : Room} {D : va_G} {cl : List vw_C} {tys : List (ClassId × FieldType)} {av : List Value} {ws : va_W} {X : String}
    (hy : plainName y.cls = true) (hn : (lg_sl av).length ≤ maxL)
    (body : ∀ (p : Program) (e : Env) (s : State) (m : MethodId) (below : List Frame) (meth : Method) (c : Code) (A : Nat → Prop) (ls : Array Slot),
      p.tables.exec = Jvm.exec → c.code = cc → meth.sig.returnType = ret → c.maxLocals = maxL → s.vm.findClass y.cls = some m.cls → meth.locks = false → c.exceptionTable.isEmpty = true →
      (∀ w ∈ Cond.code y cc maxL ret :: ga, w.before av.toArray s = true) → va_K D cl tys s → nw s → thS A s s.heap → thT s → (∀ q, s.heap.size ≤ q → A q) → va_P D cl ws s.heap → va_D A ws → lv_has ls maxL (lv_args 0 av) →
      W p l e rm s m av.toArray below meth c s.heap [] 0 0 (MX below (QT X) av.toArray s) (F0 m 0 ls [])) :
    CtT l y (Cond.code y cc maxL ret :: ga) rm D cl tys av ws X := by
  intro sz
  refine MetFree.of_bodyS (code := cc) (maxLocals := maxL) (ret := ret) hy ?_ ?_
  · intro args s m h hn
    obtain ⟨meth, c, h1, h2, h3, h4, h5, h6, -, -⟩ := Cond.code_spec hn (atoms_spec (ws := Cond.code y cc maxL ret :: ga) h _ List.mem_cons_self)
    exact ⟨meth, c, h1, h2, h3, h4, h5, h6⟩
  · intro p e s m args below meth c s₁ B hml hv _
    obtain ⟨⟨rfl, hsz, hP, hK, hN, hD0⟩, hZ, hT⟩ := hv
    subst hsz
    have hts := atoms_spec (ws := Cond.code y cc maxL ret :: ga) B.pre
    have hown : s.vm.findClass y.cls = some m.cls := findClass_of_methodNamed B.named
    have hnh := B.noHandlers (hts _ List.mem_cons_self)
    have hh0 : s₁.heap = s.heap := by rw [B.state]; rfl
    have hl := lv_entry av (n := maxL) hn
    have hw := body p e s m below meth c (va_A ws s.heap.size) _ B.exec B.bytes B.returns hml hown B.notSynchronized hnh hts hK hN hZ hT (fun q h => Or.inr h) hP hD0.self hl
    rw [← lg_entry_eq] at hw
    obtain ⟨t, a1, o, b1, b2, b3⟩ := hw s₁ hh0 (Stand.of_body B)
    exact ⟨t, o, a1, b1, b2, b3⟩
section TH
variable {p : Program} {l : Launch} {e : Env} {R : Room} {s : State} {m : MethodId} {args : Array Value} {below : List Frame} {meth : Method} {c : Code} {H : Heap} {locs : List Loc} {cells slots : Nat} {Q : State → Prop}
variable {cc : ByteArray} {pc : Nat} {ls : Array Slot} {rest st0 : List Value} {A : Nat → Prop} {H0 : Heap} {D : va_G} {cl : List vw_C} {tys : List (ClassId × FieldType)} {ws wc wr w1 : va_W} {rv : Option Value}
theorem noTable {c : Code} (h : c.exceptionTable.isEmpty = true) {P : ExceptionTableEntry → Prop} : ∀ x ∈ c.exceptionTable.toList, P x := by
  intro x hx
  have h1 : c.exceptionTable = #[] := by simpa using h
  rw [h1] at hx
  cases hx
/-- throw new X("..") -/
theorem ct_throw {nL iN iS ic q : Nat} {own X tx : String} {names : List String} {k0 : Cond} (htr : ∀ e : Env, l.admits e → e.platform.stackTraces = false)
    (hx : p.tables.exec = Jvm.exec) (hb : c.code = cc) (hml : c.maxLocals = nL) (hsz : ls.size = nL) (hown : s.vm.findClass own = some m.cls) (hlocks : meth.locks = false) (hnh : c.exceptionTable.isEmpty = true)
    (hts : ∀ w ∈ k0 :: ga, w.before args s = true) (hZ : thS A s s.heap) (hok : thOk (Bundle.ownAtoms own ic X names)) (hfit : Bundle.fit X = true) (hnames : ∀ n ∈ names, Bundle.fit n = true)
    (m1 : Cond.classLink own iN X ∈ ga) (m2 : Cond.instantiable X 6 ∈ ga) (m3 : Cond.initialized X ∈ ga) (hstr : vk_R own iS tx q s)
    (d0 : decode cc pc = .ok (.new iN, 3)) (d3 : decode cc (pc + 3) = .ok (.dup, 1)) (d4 : decode cc (pc + 4) = .ok (.ldc iS, 2)) (d6 : decode cc (pc + 6) = .ok (.invokespecial ic, 3)) (d9 : decode cc (pc + 9) = .ok (.athrow, 1))
    (hRf : names.length + 3 < R.frames) (hRl : 1 + (13 * (names.length + 1) + 42) ≤ R.locals) (hRc : 1 ≤ R.cells) (hRs : 6 ≤ R.slots) :
    W p l e R s m args below meth c s.heap [] 0 0 (MX below (QT X) args s) (F0 m pc ls []) := by
  have tb : ∀ {w : Cond}, w ∈ ga → w.before args s = true := fun h => hts _ (List.mem_cons_of_mem _ h)
  refine W.newc hx hb hown (tb m1) (tb m2) (tb m3) rfl d0 (by omega) (by omega) (fun cC kC h1 h2 h3 h4 => ?_)
  refine W.eq (g2 := F0 m (pc + 3) ls [.ref s.heap.size]) rfl ?_
  refine lv_dup hx hb d3 rfl ?_
  refine va_ldcS hx hb hown hstr d4 ?_
  intro T hT X0
  obtain ⟨U, st, run, hend, hW, hsame, ce, hce, hO⟩ := X0.ctorThrowS hx (htr e X0.admits) hown hfit hnames (th_words hok hts hZ) (fun _ h => by cases h) (a := s.heap.size) (cX := cC) (kX := kC) h1 h2 (by rw [hT]; simp) (Nat.le_refl _) (msg := .ref q) rfl (g := F0 m (pc + 6) ls [.ref q, .ref s.heap.size, .ref s.heap.size]) rfl (hsz.trans hml.symm) rfl rfl (rest := []) rfl (by rw [hb]; exact d6) (by rw [hb]; exact d9) (noTable hnh) hRf (by simpa [JFrame.monitorRoom, Value.category] using hRl) hlocks
  exact ⟨U, st, .threw s.heap.size, run, hend, s.heap.size, ce, rfl, Nat.le_refl _, hce, hO.vm, hO.cls, hW, hsame⟩
end TH
