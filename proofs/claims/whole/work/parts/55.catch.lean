/-! Catching: an exception that comes out of a call, caught by an entry of the walked method's own table; its catch type may be resolved here for the first time. -/
section CA
variable {e : Env} {s : State} {f : JFrame} {a : Addr}
/-- the search at an entry that covers the place, by whatever resolution of its catch type gives -/
theorem fh_go {Q : Handler → Pre} {E : CtlPost} {d : Bool} {acts : List Action} {x : ExceptionTableEntry} {t : List ExceptionTableEntry} {c : ClassId} {vm' : Vm} {cell : Cell} (hx : covers x f.pc = true) (h0 : x.catchType ≠ 0)
    (hg : (Jvm.resolveClass f.method.cls x.catchType).Gives e.toSetting s.vm (.ok c) vm') (hsz : vm'.classes.size ≤ s.vm.classes.size)
    (hcell : s.heap[a]? = some cell) (hobj : ∀ k, cell.vm ≠ .statics k) (hk : ∃ k, vm'.classes[cell.cls]? = some k) (hc : ∃ k, vm'.classes[c]? = some k) :
    wp (findHandler.go f a (x :: t)) Q E e d acts s ↔ if vm'.assignable cell.cls c = true then Q (.found x.handlerPc) d acts (s.setVm vm') else wp (findHandler.go f a t) Q E e d acts (s.setVm vm') := by
  obtain ⟨ha, ht⟩ := hg.op (op := VmOp.resolveClass f.method.cls x.catchType) rfl
  simp only [covers] at hx
  cases hfit : vm'.assignable cell.cls c <;>
    simp [findHandler.go, hx, h0, ha, ht, hsz, hcell, hobj, hk, hc, hfit, VmOp.dirties, VmOp.acts]
/-- what the search gives, and the tables that it leaves -/
def FindsC (e : Env) (s : State) (f : JFrame) (a : Addr) (h : Handler) (vm' : Vm) : Prop :=
  ∀ (Q : Handler → Pre) (E : CtlPost) (d : Bool) (acts : List Action), wp (findHandler f a) Q E e d acts s ↔ Q h d acts (s.setVm vm')
theorem stepThrowing_catchC {r : List Frame} {pc : Nat} {vm' : Vm} (hfind : FindsC e s f a (.found pc) vm') :
    (stepThrowing e s a (.java f :: r)).Is ((s.setVm vm').setFrames (.java { f with pc := pc, stack := [.ref a] } :: r)) [] := by
  simp only [stepThrowing, searchFrame, vmDo]
  generalize hr : Sem.go _ e false [] s = res
  obtain ⟨as, rfl, ha⟩ := Sem.eq_ok_of hr (a := Handler.found pc) (s' := s.setVm vm') (acts' := []) (by simp [hfind _ _ _ _])
  exact ⟨rfl, ha⟩
theorem Steps.caughtC {tb : Tables} {target : State} {g : JFrame} {c : Code} {below : List Frame} {vm' : Vm} (h : At s g.method c below) {pc : Nat} (hfind : FindsC e ((s.setTop g).pushFrame (.throwing a)) g a (.found pc) vm')
    (hrest : Steps tb e below ((s.setVm vm').setTop { g with pc := pc, stack := [.ref a] }) target) : Steps tb e below ((s.setTop g).pushFrame (.throwing a)) target := by
  obtain ⟨hgo, hw⟩ := h.throwing a
  refine Steps.head hgo hw ?_
  rw [stepThread_throwing (frames_entered h.top _), (stepThrowing_catchC (s := (s.setTop g).pushFrame (.throwing a)) hfind).1]
  obtain ⟨g₀, hg⟩ := Option.isSome_iff_exists.mp h.top
  obtain ⟨r, hr⟩ := State.topJava?_eq_some.mp hg
  have hr' : (s.setVm vm').frames = .java g₀ :: r := hr
  rw [State.setTop_of_frames _ hr'] at hrest
  rw [hr, List.tail_cons]
  have e1 : ((((s.setTop g).pushFrame (.throwing a)).setVm vm').setFrames (.java { g with pc := pc, stack := [.ref a] } :: r)) = (s.setVm vm').setFrames (.java { g with pc := pc, stack := [.ref a] } :: r) := by
    rw [State.pushFrame, State.setTop_of_frames _ hr, State.setFrames_setFrames]
    show ((s.setFrames _).setFrames _).setVm vm' = (s.setFrames _).setVm vm'
    rw [State.setFrames_setFrames]
  rw [e1]
  exact hrest
end CA
section CB
variable {e : Env} {s : State} {f : JFrame} {a : Addr}
theorem fc_one {meth : Method} {code : Code} {x : ExceptionTableEntry} {t : List ExceptionTableEntry} {c : ClassId} {vm' : Vm} {cell : Cell} (hm : s.vm.method? f.method = some meth) (hcd : meth.code = some code) (htab : code.exceptionTable.toList = x :: t)
    (hx : covers x f.pc = true) (h0 : x.catchType ≠ 0) (hg : (Jvm.resolveClass f.method.cls x.catchType).Gives e.toSetting s.vm (.ok c) vm') (hsz : vm'.classes.size ≤ s.vm.classes.size)
    (hcell : s.heap[a]? = some cell) (hobj : ∀ k, cell.vm ≠ .statics k) (hk : ∃ k, vm'.classes[cell.cls]? = some k) (hc : ∃ k, vm'.classes[c]? = some k) (hfit : vm'.assignable cell.cls c = true) : FindsC e s f a (.found x.handlerPc) vm' := by
  intro Q E d acts
  rw [W.findHandler_eq hm hcd, htab, fh_go hx h0 hg hsz hcell hobj hk hc, if_pos hfit]
theorem fc_two {meth : Method} {code : Code} {x y : ExceptionTableEntry} {t : List ExceptionTableEntry} {c c2 : ClassId} {vm' vm2 : Vm} {cell : Cell} (hm : s.vm.method? f.method = some meth) (hcd : meth.code = some code) (htab : code.exceptionTable.toList = x :: y :: t)
    (hx : covers x f.pc = true) (h0 : x.catchType ≠ 0) (hg : (Jvm.resolveClass f.method.cls x.catchType).Gives e.toSetting s.vm (.ok c) vm') (hsz : vm'.classes.size ≤ s.vm.classes.size)
    (hcell : s.heap[a]? = some cell) (hobj : ∀ k, cell.vm ≠ .statics k) (hk : ∃ k, vm'.classes[cell.cls]? = some k) (hc : ∃ k, vm'.classes[c]? = some k) (hno : vm'.assignable cell.cls c = false)
    (hy : covers y f.pc = true) (h02 : y.catchType ≠ 0) (hg2 : (Jvm.resolveClass f.method.cls y.catchType).Gives e.toSetting vm' (.ok c2) vm2) (hsz2 : vm2.classes.size ≤ vm'.classes.size)
    (hk2 : ∃ k, vm2.classes[cell.cls]? = some k) (hc2 : ∃ k, vm2.classes[c2]? = some k) (hfit : vm2.assignable cell.cls c2 = true) : FindsC e s f a (.found y.handlerPc) vm2 := by
  intro Q E d acts
  rw [W.findHandler_eq hm hcd, htab, fh_go hx h0 hg hsz hcell hobj hk hc, if_neg (by rw [hno]; decide)]
  rw [fh_go (s := s.setVm vm') hy h02 hg2 hsz2 hcell hobj hk2 hc2, if_pos hfit]
  rfl
end CB
/-- which exceptions are no instances of the class that an earlier clause names -/
def thNl : List (String × String) := [("java/lang/UnsupportedOperationException", "java/lang/IllegalArgumentException"), ("java/util/NoSuchElementException", "java/lang/IllegalStateException"), ("java/lang/IllegalArgumentException", "java/lang/IllegalStateException")]
def thN (U : State) : Prop := ∀ q ∈ thNl, va_Nc q.1 q.2 U
theorem thN.moved {u U : State} (hvm : u.vm.Alike U.vm) (h : thN u) : thN U := fun q hq => (h q hq).moved hvm
def PsL (D : va_G) (cl : List vw_C) (tys : List (ClassId × FieldType)) (av : List Value) (ws : va_W) (sz : Nat) : Array Value → State → Prop :=
  fun v U => PsT D cl tys av ws sz v U ∧ thN U
theorem PsL_blind {D : va_G} {cl : List vw_C} {tys : List (ClassId × FieldType)} {av : List Value} {ws : va_W} {sz : Nat} : FrameBlind (PsL D cl tys av ws sz) := by
  intro a U g mk q
  obtain ⟨⟨q1, q2, q3⟩, q4⟩ := q
  exact ⟨⟨Ps_blind a U g mk q1, thS.moved (u := U) (U := U.calling g mk a) (Vm.Alike.refl U.vm) q2, thT.same (u := U) (U := U.calling g mk a) rfl q3⟩, thN.moved (u := U) (U := U.calling g mk a) (Vm.Alike.refl U.vm) q4⟩
/-- the law's own calls: they come back, and make at most one cell of six slots -/
def CtG (l : Launch) (y : MethodName) (wl : List Cond) (rm : Room) (D : va_G) (cl : List vw_C) (tys : List (ClassId × FieldType)) (av : List Value) (ws : va_W) (rv : Option Value) (w1 : va_W) : Prop :=
  ∀ sz : Nat, Met l y wl rm (PsL D cl tys av ws sz) (Qs D cl tys rv w1 (va_A ws sz)) 1 6 (va_A ws sz)
theorem CtG.ofW {l : Launch} {y : MethodName} {cc : ByteArray} {maxL : Nat} {ret : Option FieldType} {hh : List (Nat × Nat × Nat × Nat)} {rm : Room} {D : va_G} {cl : List vw_C} {tys : List (ClassId × FieldType)} {av : List Value} {ws : va_W} {rv : Option Value} {w1 : va_W}
    (hy : plainName y.cls = true) (hn : (lg_sl av).length ≤ maxL)
    (body : ∀ (p : Program) (e : Env) (s : State) (m : MethodId) (below : List Frame) (meth : Method) (c : Code) (A : Nat → Prop) (ls : Array Slot),
      p.tables.exec = Jvm.exec → c.code = cc → meth.sig.returnType = ret → c.maxLocals = maxL → s.vm.findClass y.cls = some m.cls → meth.locks = false → c.exceptionTable.toList.map (fun h => (h.startPc, h.endPc, h.handlerPc, h.catchType)) = hh →
      (∀ w ∈ Cond.codeWith y cc maxL ret hh :: ga, w.before av.toArray s = true) → va_K D cl tys s → nw s → thS A s s.heap → thT s → thN s → (∀ q, s.heap.size ≤ q → A q) → va_P D cl ws s.heap → va_D A ws → va_S A s.heap s.heap [] → lv_has ls maxL (lv_args 0 av) →
      W p l e rm s m av.toArray below meth c s.heap [] 0 0 (MQ below (Qs D cl tys rv w1 A) av.toArray s 1 6 A) (F0 m 0 ls [])) :
    CtG l y (Cond.codeWith y cc maxL ret hh :: ga) rm D cl tys av ws rv w1 := by
  intro sz
  refine va_MetW (cc := cc) (maxL := maxL) (ret := ret) (hh := hh) hy rfl ?_
  intro p e s m args below meth c s₁ B hml hv
  obtain ⟨⟨⟨rfl, hsz, hP, hK, hN, hD0⟩, hZ, hT⟩, hNc⟩ := hv
  subst hsz
  have hts := atoms_spec (ws := Cond.codeWith y cc maxL ret hh :: ga) B.pre
  have hown : s.vm.findClass y.cls = some m.cls := findClass_of_methodNamed B.named
  have htab : c.exceptionTable.toList.map (fun h => (h.startPc, h.endPc, h.handlerPc, h.catchType)) = hh := by
    obtain ⟨m9, meth9, c9, h1, h2, h3, -, -, h6, -⟩ := Cond.codeWith_spec (hts _ List.mem_cons_self)
    cases B.named.symm.trans h1
    cases B.method.symm.trans h2
    cases (Stand.of_body B).code.symm.trans h3
    exact h6
  have hl := lv_entry av (n := maxL) hn
  rw [lg_entry_eq]
  exact body p e s m below meth c (va_A ws s.heap.size) _ B.exec B.bytes B.returns hml hown B.notSynchronized htab hts hK hN hZ hT hNc (fun q h => Or.inr h) hP hD0.self va_S.rf hl
section CC
variable {p : Program} {l : Launch} {e : Env} {R : Room} {s : State} {m : MethodId} {args : Array Value} {below : List Frame} {meth : Method} {c : Code} {H : Heap} {locs : List Loc} {cells slots : Nat} {Q : State → Prop}
variable {cc : ByteArray} {pc : Nat} {ls : Array Slot} {rest st0 : List Value} {A : Nat → Prop} {H0 : Heap} {D : va_G} {cl : List vw_C} {tys : List (ClassId × FieldType)} {ws wc wr w1 : va_W} {rv : Option Value}
theorem ct_iretG {v : Int32} (hx : p.tables.exec = Jvm.exec) (hb : c.code = cc) (hr : meth.sig.returnType = some .int) (hlocks : meth.locks = false) (hK : va_K D cl tys s) (hP : va_P D cl w1 H) (hD : va_D A w1) (hS : va_S A s.heap H locs) (hdg : decode cc pc = .ok (.ireturn, 1)) :
    W p l e R s m args below meth c H locs 1 6 (MQ below (Qs D cl tys (some (.int v)) w1 A) args s 1 6 A) (F0 m pc ls [.int v]) :=
  W.iret hx hb hr (fun t ht hW => ⟨⟨rfl, by rw [ht]; exact hP, va_K.moved hW.alike hK, hD⟩, hS.F ht⟩) hS.2.2 hdg hlocks
/-- one entry of a table as the listing has it -/
theorem tab_cons {t : List ExceptionTableEntry} {a b c d : Nat} {r : List (Nat × Nat × Nat × Nat)} (h : t.map (fun h => (h.startPc, h.endPc, h.handlerPc, h.catchType)) = (a, b, c, d) :: r) :
    ∃ (x : ExceptionTableEntry) (t' : List ExceptionTableEntry), t = x :: t' ∧ x.startPc = a ∧ x.endPc = b ∧ x.handlerPc = c ∧ x.catchType = d ∧ t'.map (fun h => (h.startPc, h.endPc, h.handlerPc, h.catchType)) = r := by
  cases t with
  | nil => cases h
  | cons x t' =>
    simp only [List.map_cons, List.cons.injEq, Prod.mk.injEq] at h
    exact ⟨x, t', rfl, h.1.1, h.1.2.1, h.1.2.2.1, h.1.2.2.2, h.2⟩
/-- invokevirtual of a method that throws, caught by the method's first or second entry: k is which -/
theorem ct_VC {nL index n maxL b ci hpc1 ct1 hpc2 : Nat} {y : MethodName} {bytes : ByteArray} {ret : Option FieldType} {rm : Room} {own C Xc N1 : String} {As : List Value} {k0 : Cond} {fs : List Value} {q : vw_C} {lo hi : Nat} {r : List (Nat × Nat × Nat × Nat)}
    (S : CallFix p m c cc nL s args (k0 :: ga) own) (htab : c.exceptionTable.toList.map (fun h => (h.startPc, h.endPc, h.handlerPc, h.catchType)) = (lo, hi, hpc1, ct1) :: r) (hcov : lo ≤ pc ∧ pc < hi) (hF : Fm y bytes maxL ret n) (hC : CtT l y (Cond.code y bytes maxL ret :: ga) rm D cl tys (.ref b :: As) wc Xc)
    (m1 : Cond.methodLink own index y ∈ ga) (m2 : Cond.instanceMethod y ∈ ga) (m3 : Cond.selects C y y ∈ ga)
    (hR : rm.frames + 1 ≤ R.frames ∧ 8 + (maxL + 11) + rm.locals ≤ R.locals) (hrc : rm.cells ≤ R.cells) (hrs : rm.slots ≤ R.slots)
    (hK : va_K D cl tys s) (hN : nw s) (hZ : thS A s s.heap) (hT0 : thT s) (hA : ∀ q, s.heap.size ≤ q → A q) (hP : va_P D cl ws s.heap) (hD : va_D A ws)
    (isC : List Nat) (eF : isC.filterMap (fun i => ws[i]?) = wc) (eC : isC.map (fun i => ws[i]?) = wc.map some) (nC : va_nd isC = true)
    (q0 : Nat) (hc : cl[ci]? = some q) (hq : q.1 = C) (he : ws[q0]? = some (b, .inr (ci, fs)))
    (hn : As.length = n) (hsize : ls.size = nL) (hst : st0 = As.reverse ++ .ref b :: rest) (hW : (rest.map fun v => v.category).sum ≤ 8) (hdg : decode cc pc = .ok (.invokevirtual index, 3))
    (ml1 : Cond.classLink own ct1 N1 ∈ ga) (h01 : ct1 ≠ 0)
    (hway : (va_Nw (.castable Xc N1) s ∧ hpc2 = hpc1) ∨ (va_Nc Xc N1 s ∧ ∃ (ct2 : Nat) (N2 : String) (r2 : List (Nat × Nat × Nat × Nat)), r = (lo, hi, hpc2, ct2) :: r2 ∧ ct2 ≠ 0 ∧ Cond.classLink own ct2 N2 ∈ ga ∧ va_Nw (.castable Xc N2) s))
    (kk : ∀ (x : Nat) (H1 : Heap), va_P D cl ws H1 → va_S A s.heap H1 [] → W p l e R s m args below meth c H1 [] (0 + 1) (0 + 6) Q (F0 m hpc2 ls [.ref x])) :
    W p l e R s m args below meth c s.heap [] 0 0 Q (F0 m pc ls st0) := by
  obtain ⟨hx, hb, hml, hown, hts⟩ := S
  have tb : ∀ {w : Cond}, w ∈ ga → w.before args s = true := fun h => hts _ (List.mem_cons_of_mem _ h)
  subst hq
  have hFc := va_free (wc := wc) hD (va_S.rf (A := A) (H0 := s.heap)) hA isC eC
  intro T hT X
  have hpl : e.platform.magicAccessors = ({} : Platform).magicAccessors := by rw [X.admits.platform]
  obtain ⟨mk, methM, hnamed, hmethM, hstM, habM⟩ := Cond.instanceMethod_spec (tb m2)
  obtain ⟨methM', cM, hmethM', -, -, -, -, -, -, hsigM⟩ := Cond.code_spec hnamed (tb hF.1)
  cases hmethM.symm.trans hmethM'
  obtain ⟨cellB, hcB, hoB, hclB⟩ := va_recv hK hP hc he
  obtain ⟨c2, r2, m2', q1, q2, q3, q4, kP, hkP, hkPi⟩ := Cond.selects_spec (tb m3)
  cases hclB.symm.trans q1
  cases (State.methodFound?_of_named hnamed ⟨hF.2.2.1, hF.2.2.2.1⟩).symm.trans q2
  cases hnamed.symm.trans q3
  have hselP : selectMethod e.platform s.vm cellB.cls mk = .method mk := by rw [Launch.admits_selectMethod X.admits]; exact q4
  have hlen : As.length = methM.sig.parameters.length := by
    have h2 := hF.2.2.2.2
    rw [hsigM] at h2
    rw [hn]; exact (Option.some.inj h2).symm
  obtain ⟨vm₁, X₁, hstep₁⟩ := X.invokevirtual hx hown (tb m1) hnamed hmethM hstM hkP hkPi ⟨hF.2.2.1, hF.2.2.2.1⟩ (a := b) (cell := cellB) (by rw [hT]; exact hcB)
    (fun z h => by rw [h] at hoB; cases hoB) hselP hmethM habM hkP hkPi (g := F0 m pc ls st0) rfl (argsL := As) (rest := rest) hlen hst (by rw [hb]; exact hdg)
  have hgood : ∀ w ∈ Cond.code y bytes maxL ret :: ga, w.before (Value.ref b :: As).toArray (T.setVm vm₁) = true := fun w hw => pay_in hts (ga_good hF.1) w hw _ _ X₁.warmed
  obtain ⟨x, ce, T', X', g1, g2, g3, g4, g5, g6, st⟩ := outT (g := { F0 m pc ls st0 with stack := rest }) X₁ (hC T.heap.size) rfl (hsize.trans hml.symm) (by rw [hb]; exact hdg) (X₁.named hnamed) (atoms_intro hgood) (hgood _ List.mem_cons_self) (word_at X₁.warmed (ga_ok hF.2.1) (tb hF.2.1)) (by omega) (by omega) hR.1 hR.2 (lv_room hW)
    (by
      refine ⟨?_, ?_, ?_⟩
      · have hp := ct_pre (av := .ref b :: As) (A := A) (wc := wc) (H := T.heap) hK hN (by rw [hT]; exact hP.sub isC eF) (hD.sub isC nC eC) (T.setVm vm₁) rfl X₁.warmed
        exact Ps_blind _ _ _ _ hp
      · have h1 : thS (va_A wc T.heap.size) s T.heap := by rw [hT]; exact hZ.narrow hFc
        exact thS.moved X₁.warmed.alike h1
      · exact thT.same (u := T.setVm vm₁) rfl (hT0.warm X₁.warmed))
  have g4' : s.vm.findClass Xc = some ce.cls := by rw [← X₁.warmed.alike.findClass]; exact g4
  have hT'v := Stand.throwing_vm T' ({ F0 m pc ls st0 with stack := rest }) x
  have hT'h := Stand.throwing_heap T' ({ F0 m pc ls st0 with stack := rest }) x
  obtain ⟨x1, t1, ht1, e1, e2, e3, e4, ht2⟩ := tab_cons htab
  obtain ⟨cA, hfA, hclA⟩ := Cond.classLink_spec hown (tb ml1) e.platform hpl
  obtain ⟨hgA, hwA, hrA⟩ := State.classEntry (e := e) X'.warmed hclA
  have hcells : ∀ {vm' : Vm}, s.WarmedH vm' → ∀ {nm : String} {k : ClassId}, s.vm.findClass nm = some k → ∃ kc, vm'.classes[k]? = some kc := by
    intro vm' hw nm k hk
    obtain ⟨kc, hkc⟩ := Vm.classAt_of_findClass hk
    obtain ⟨kc', h', -⟩ := hw.alike.2.2 _ _ hkc
    exact ⟨kc', h'⟩
  have hold : ∀ q : Nat, q < s.heap.size → T'.heap[q]? = s.heap[q]? := fun q hq => by
    have := g5 q (by show q < T.heap.size; rw [hT]; exact hq)
    rw [this]; show T.heap[q]? = _; rw [hT]
  have hP1 : va_P D cl ws T'.heap := hP.kept (fun k q hq => hold q.1 (hP k q hq).lt)
  have hsz1 : s.heap.size ≤ T'.heap.size := by
    have hz := X'.same.2.1
    exact hz
  have hS1 : va_S A s.heap T'.heap [] := ⟨hsz1, fun q h1 _ => hold q h1, fun _ h => by cases h⟩
  have sz : ∀ {vm' : Vm} {u : Vm}, s.WarmedH vm' → s.WarmedH u → vm'.classes.size ≤ u.classes.size := fun h1 h2 => by
    rw [h1.alike.2.1, h2.alike.2.1]; exact Nat.le_refl _
  have done : ∀ (vm2 : Vm), s.WarmedH vm2 → FindsC e ((T'.setTop ({ F0 m pc ls st0 with stack := rest })).pushFrame (.throwing x)) ({ F0 m pc ls st0 with stack := rest }) x (.found hpc2) vm2 → ∃ t, Steps p.tables e below (T.setTop (F0 m pc ls st0)) t ∧ Q t := by
    intro vm2 hw2 hf
    obtain ⟨t2, a1, b1⟩ := kk x T'.heap hP1 hS1 (T'.setVm vm2) rfl (X'.noted hw2)
    refine ⟨t2, hstep₁ _ fun acts => ?_, b1⟩
    rw [doInvoke_state]
    exact st.trans (Steps.caughtC X'.here hf a1)
  rcases hway with ⟨hcast, rfl⟩ | ⟨hnc, ct2, N2, r3, hr2, h02, ml2, hcast⟩
  · obtain ⟨c3, c4, hc3, hc4, hasg⟩ := Cond.castable_spec (args := #[]) (first := s) (o := none) (s := s) (idx := []) hcast
    cases hc3.symm.trans g4'
    cases hc4.symm.trans hfA
    have hf := fc_one (e := e) (s := (T'.setTop ({ F0 m pc ls st0 with stack := rest })).pushFrame (.throwing x)) (f := { F0 m pc ls st0 with stack := rest }) (a := x) (cell := ce) (by rw [hT'v]; exact X'.method') X'.code ht1 (by simp [covers, e1, e2, hcov.1, hcov.2]) (by rw [e4]; exact h01)
      (by rw [hT'v, e4]; exact hgA) (by rw [hT'v]; exact sz hwA X'.warmed) (by rw [hT'h]; exact g2) (fun k => by rw [g3]; intro h; cases h) (hcells hwA g4') (hcells hwA hfA) (by rw [hwA.alike.assignable]; exact hasg)
    rw [e3] at hf
    exact done _ hwA hf
  · obtain ⟨c3, c4, hc3, hc4, hno⟩ := hnc
    cases hc3.symm.trans g4'
    cases hc4.symm.trans hfA
    subst hr2
    obtain ⟨x2, t2, ht3, f1, f2, f3, f4, -⟩ := tab_cons ht2
    subst ht3
    obtain ⟨cB, hfB, hclB2⟩ := Cond.classLink_spec hown (tb ml2) e.platform hpl
    obtain ⟨hgB, hwB, hrB⟩ := State.classEntry (e := e) hwA hclB2
    obtain ⟨c5, c6, hc5, hc6, hasg⟩ := Cond.castable_spec (args := #[]) (first := s) (o := none) (s := s) (idx := []) hcast
    cases hc5.symm.trans g4'
    cases hc6.symm.trans hfB
    have hf := fc_two (e := e) (s := (T'.setTop ({ F0 m pc ls st0 with stack := rest })).pushFrame (.throwing x)) (f := { F0 m pc ls st0 with stack := rest }) (a := x) (cell := ce) (by rw [hT'v]; exact X'.method') X'.code ht1 (by simp [covers, e1, e2, hcov.1, hcov.2]) (by rw [e4]; exact h01)
      (by rw [hT'v, e4]; exact hgA) (by rw [hT'v]; exact sz hwA X'.warmed) (by rw [hT'h]; exact g2) (fun k => by rw [g3]; intro h; cases h) (hcells hwA g4') (hcells hwA hfA) (by rw [hwA.alike.assignable]; exact hno)
      (by simp [covers, f1, f2, hcov.1, hcov.2]) (by rw [f4]; exact h02) (by rw [f4]; exact hgB) (sz hwB hwA) (hcells hwB g4') (hcells hwB hfB) (by rw [hwB.alike.assignable]; exact hasg)
    rw [f3] at hf
    exact done _ hwB hf
end CC
