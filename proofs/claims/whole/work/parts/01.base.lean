/-! Base: the words of all methods, contracts of methods that make nothing, calls and returns over them. -/
def bI (b : Bool) : Int32 := if b = true then 1 else 0
theorem bI_nar (b : Bool) : narrow .boolean (.int (bI b)) = .int (bI b) := by cases b <;> rfl
theorem bI_fit (b : Bool) : fits .boolean (.int (bI b)) = true := by cases b <;> rfl
theorem bI_0 {b : Bool} : bI b = 0 ↔ b = false := by cases b <;> decide
theorem bI_n0 {b : Bool} : ¬ bI b = 0 ↔ b = true := by cases b <;> decide
/-- the words of every method: the tables' words that hold on -/
def ga : List Cond := lw_tbl.filter goodWord
theorem ga_in {w : Cond} (h : w ∈ lw_tbl) (hg : goodWord w = true) : w ∈ ga := List.mem_filter.mpr ⟨h, hg⟩
theorem ga_t {w : Cond} (i : Nat) (h : tables_1[i]? = some w) (hg : goodWord w = true) : w ∈ ga := ga_in (List.mem_append_right _ (List.mem_of_getElem? h)) hg
theorem ga_s {q : MethodName × Nat} (i : Nat) (h : lw_privs[i]? = some q) : Cond.selects q.1.cls q.1 q.1 ∈ ga :=
  ga_in (List.mem_append_left _ (List.mem_map.mpr ⟨q, List.mem_of_getElem? h, rfl⟩)) rfl
theorem ga_ok {w : Cond} (h : w ∈ ga) : (w.onTables && w.keeps) = true ∨ ∃ ty, w = .arrayClass ty := good_of_word (List.mem_filter.mp h).2
theorem ga_good {k w : Cond} (hw : w ∈ ga) : GoodIn (k :: ga) (w :: ga) := by
  intro x hx
  rcases List.mem_cons.mp hx with h | h
  · subst h
    exact ⟨List.mem_cons_of_mem _ hw, ga_ok hw⟩
  · exact ⟨List.mem_cons_of_mem _ h, ga_ok h⟩
/-- words by their places -/
theorem ga_ps {ws : List Cond} (ps : List Nat) (h : ws = ps.filterMap (fun i => tables_1[i]?)) (hg : ws.all goodWord = true) : ∀ w ∈ ws, w ∈ ga := by
  intro w hw
  have h1 := List.all_eq_true.mp hg w hw
  rw [h] at hw
  obtain ⟨i, -, hi⟩ := List.mem_filterMap.mp hw
  exact ga_t i hi h1
/-- what every caller of a method needs of the tables -/
def Fm (y : MethodName) (bytes : ByteArray) (maxL : Nat) (ret : Option FieldType) (n : Nat) : Prop :=
  Cond.code y bytes maxL ret ∈ ga ∧ Cond.initialized y.cls ∈ ga ∧ y.cls ≠ "java/lang/invoke/MethodHandle" ∧ y.cls ≠ "java/lang/invoke/VarHandle" ∧ (parseMethodDescriptor y.desc).map (fun d => d.parameters.length) = some n
/-- the one link to a nest mate's private method (no word of ga: it is carried by itself) -/
def nw (U : State) : Prop := va_Nw (.methodLinkNest "HelpFile$Book" 106 ⟨"HelpFile", "isTyped", "(I)Z"⟩ "HelpFile") U
/-- a method that makes nothing: from the world ws it comes to the world w1 and answers rv -/
def Qs (D : va_G) (cl : List vw_C) (tys : List (ClassId × FieldType)) (rv : Option Value) (w1 : va_W) (A : Nat → Prop) : Array Value → State → Outcome → State → Prop :=
  fun _ st oc t => (oc = .returned rv ∧ va_P D cl w1 t.heap ∧ va_K D cl tys t ∧ va_D A w1) ∧ va_F A st t
def Ps (D : va_G) (cl : List vw_C) (tys : List (ClassId × FieldType)) (av : List Value) (ws : va_W) (sz : Nat) : Array Value → State → Prop :=
  va_Pc av (fun U => U.heap.size = sz ∧ va_P D cl ws U.heap ∧ va_K D cl tys U ∧ nw U ∧ va_D (fun _ => True) ws)
def Ctr (l : Launch) (y : MethodName) (wl : List Cond) (rm : Room) (D : va_G) (cl : List vw_C) (tys : List (ClassId × FieldType)) (av : List Value) (ws : va_W) (rv : Option Value) (w1 : va_W) : Prop :=
  ∀ sz : Nat, Met l y wl rm (Ps D cl tys av ws sz) (Qs D cl tys rv w1 (va_A ws sz)) 0 0 (va_A ws sz)
theorem Ps_blind {D : va_G} {cl : List vw_C} {tys : List (ClassId × FieldType)} {av : List Value} {ws : va_W} {sz : Nat} : FrameBlind (Ps D cl tys av ws sz) := by
  intro a U g mk q
  obtain ⟨q0, q1, qP, qK, qN, qD⟩ := q
  exact ⟨q0, q1, qP, va_K.moved (u := U) (U := U.calling g mk a) (Vm.Alike.refl U.vm) qK, va_Nw.same (u := U) (U := U.calling g mk a) rfl rfl qN, qD⟩
/-- a contract out of a walk -/
theorem Ctr.ofW {l : Launch} {y : MethodName} {cc : ByteArray} {maxL : Nat} {ret : Option FieldType} {rm : Room} {D : va_G} {cl : List vw_C} {tys : List (ClassId × FieldType)} {av : List Value} {ws : va_W} {rv : Option Value} {w1 : va_W}
    (hy : plainName y.cls = true) (hn : (lg_sl av).length ≤ maxL)
    (body : ∀ (p : Program) (e : Env) (s : State) (m : MethodId) (below : List Frame) (meth : Method) (c : Code) (A : Nat → Prop) (ls : Array Slot),
      p.tables.exec = Jvm.exec → c.code = cc → meth.sig.returnType = ret → c.maxLocals = maxL → s.vm.findClass y.cls = some m.cls → meth.locks = false →
      (∀ w ∈ Cond.code y cc maxL ret :: ga, w.before av.toArray s = true) → va_K D cl tys s → nw s → (∀ q, s.heap.size ≤ q → A q) → va_P D cl ws s.heap → va_D A ws → va_S A s.heap s.heap [] → lv_has ls maxL (lv_args 0 av) →
      W p l e rm s m av.toArray below meth c s.heap [] 0 0 (MQ below (Qs D cl tys rv w1 A) av.toArray s 0 0 A) (F0 m 0 ls [])) :
    Ctr l y (Cond.code y cc maxL ret :: ga) rm D cl tys av ws rv w1 := by
  intro sz
  refine Met.ofW (cc := cc) (maxL := maxL) (ret := ret) hy rfl ?_
  intro p e s m args below meth c s₁ B hml hv
  obtain ⟨rfl, hsz, hP, hK, hN, hD0⟩ := hv
  subst hsz
  have hts := atoms_spec (ws := Cond.code y cc maxL ret :: ga) B.pre
  have hown : s.vm.findClass y.cls = some m.cls := findClass_of_methodNamed B.named
  have hD := hD0.self (sz := s.heap.size)
  have hl := lv_entry av (n := maxL) hn
  rw [lg_entry_eq]
  exact body p e s m below meth c (va_A ws s.heap.size) _ B.exec B.bytes B.returns hml hown B.notSynchronized hts hK hN (fun q h => Or.inr h) hP hD va_S.rf hl
/-- a method that changes nothing at all -/
def Qr (rv : Option Value) : Array Value → State → Outcome → State → Prop := fun _ st oc t => oc = .returned rv ∧ t.heap = st.heap
def CtrR (l : Launch) (y : MethodName) (wl : List Cond) (rm : Room) (D : va_G) (cl : List vw_C) (tys : List (ClassId × FieldType)) (av : List Value) (ws : va_W) (rv : Option Value) : Prop :=
  ∀ sz : Nat, Met l y wl rm (Ps D cl tys av ws sz) (Qr rv) 0 0 (fun _ => False)
theorem CtrR.ofW {l : Launch} {y : MethodName} {cc : ByteArray} {maxL : Nat} {ret : Option FieldType} {rm : Room} {D : va_G} {cl : List vw_C} {tys : List (ClassId × FieldType)} {av : List Value} {ws : va_W} {rv : Option Value}
    (hy : plainName y.cls = true) (hn : (lg_sl av).length ≤ maxL)
    (body : ∀ (p : Program) (e : Env) (s : State) (m : MethodId) (below : List Frame) (meth : Method) (c : Code) (ls : Array Slot),
      p.tables.exec = Jvm.exec → c.code = cc → meth.sig.returnType = ret → c.maxLocals = maxL → s.vm.findClass y.cls = some m.cls → meth.locks = false →
      (∀ w ∈ Cond.code y cc maxL ret :: ga, w.before av.toArray s = true) → va_K D cl tys s → nw s → va_P D cl ws s.heap → va_D (fun _ => True) ws → lv_has ls maxL (lv_args 0 av) →
      W p l e rm s m av.toArray below meth c s.heap [] 0 0 (MQ below (Qr rv) av.toArray s 0 0 (fun _ => False)) (F0 m 0 ls [])) :
    CtrR l y (Cond.code y cc maxL ret :: ga) rm D cl tys av ws rv := by
  intro sz
  refine Met.ofW (cc := cc) (maxL := maxL) (ret := ret) hy rfl ?_
  intro p e s m args below meth c s₁ B hml hv
  obtain ⟨rfl, hsz, hP, hK, hN, hD0⟩ := hv
  subst hsz
  have hts := atoms_spec (ws := Cond.code y cc maxL ret :: ga) B.pre
  have hown : s.vm.findClass y.cls = some m.cls := findClass_of_methodNamed B.named
  have hl := lv_entry av (n := maxL) hn
  rw [lg_entry_eq]
  exact body p e s m below meth c _ B.exec B.bytes B.returns hml hown B.notSynchronized hts hK hN hP hD0 hl
section CT
variable {p : Program} {l : Launch} {e : Env} {R : Room} {s : State} {m : MethodId} {args : Array Value} {below : List Frame} {meth : Method} {c : Code} {H : Heap} {locs : List Loc} {cells slots : Nat} {Q : State → Prop}
variable {cc : ByteArray} {pc : Nat} {ls : Array Slot} {rest st0 : List Value} {A : Nat → Prop} {H0 : Heap} {D : va_G} {cl : List vw_C} {tys : List (ClassId × FieldType)} {ws wc wr w1 : va_W} {rv : Option Value}
theorem ct_pre {av : List Value} (hK : va_K D cl tys s) (hN : nw s) (hPc : va_P D cl wc H) (hDc : va_D A wc) : ∀ U : State, U.heap = H → s.WarmedH U.vm → Ps D cl tys av wc H.size av.toArray U :=
  fun U hU hW => ⟨rfl, by rw [hU], by rw [hU]; exact hPc, va_K.moved hW.alike hK, va_Nw.warmM hW hN, hDc.weaken (fun _ _ _ _ => trivial)⟩
theorem ct_go {a : Array Value} (hr : va_Run p l e R s m args below meth c H locs cells slots 0 0 (F0 m pc ls st0) rest (Qs D cl tys rv w1 (va_A wc H.size) a) (va_A wc H.size))
    (hP : va_P D cl ws H) (hD : va_D A ws) (hS : va_S A H0 H locs) (hA : ∀ q, H0.size ≤ q → A q) (isC isR : List Nat) (eC : isC.map (fun i => ws[i]?) = wc.map some) (eR : isR.map (fun i => ws[i]?) = wr.map some) (nR : va_nd isR = true) (hdis : ∀ i ∈ isR, i ∉ isC)
    (kk : ∀ (H1 : Heap) (locs1 : List Loc), va_P D cl (wr ++ w1) H1 → va_D A (wr ++ w1) → va_S A H0 H1 locs1 → W p l e R s m args below meth c H1 locs1 cells slots Q (F0 m (pc + 3) ls (rv.toList ++ rest))) : W p l e R s m args below meth c H locs cells slots Q (F0 m pc ls st0) := by
  have hF := va_free (wc := wc) hD hS hA isC eC
  intro T hT X
  obtain ⟨v, st₀, t, T', L, h0, X', hL, e1, e2, ⟨⟨hv, hP1, hK1, hD1⟩, hz, hk⟩, st⟩ := hr T hT X
  cases hv
  rw [h0] at hz hk
  have hk1 : ∀ q : Nat, q < H.size → ¬ va_A wc H.size q → T'.heap[q]? = H[q]? := fun q h1 h2 => by rw [e1]; exact hk q h1 h2
  obtain ⟨hPj, hDj⟩ := va_join (wr := wr) (w1 := w1) (H1 := T'.heap) hP hD isC isR eC eR nR hdis hk1 hF (by rw [e1]; exact hP1) hD1
  obtain ⟨t2, a1, b1⟩ := kk T'.heap (locs ++ L) hPj hDj ⟨Nat.le_trans hS.1 (by rw [e1]; exact hz), fun q h1 h2 => by rw [hk1 q (Nat.lt_of_lt_of_le h1 hS.1) (fun z => h2 (hF q z))]; exact hS.2.1 q h1 h2, fun q hq => by
      rcases List.mem_append.mp hq with h | h
      · exact hS.2.2 q h
      · exact hF _ (hL q h)⟩ T' rfl X'
  exact ⟨t2, st t2 a1, b1⟩
/-- invokevirtual -/
theorem ct_V {nL index n maxL b ci : Nat} {y : MethodName} {bytes : ByteArray} {ret : Option FieldType} {rm : Room} {own C : String} {As : List Value} {k0 : Cond} {fs : List Value} {q : vw_C}
    (S : CallFix p m c cc nL s args (k0 :: ga) own) (hF : Fm y bytes maxL ret n) (hC : Ctr l y (Cond.code y bytes maxL ret :: ga) rm D cl tys (.ref b :: As) wc rv w1)
    (m1 : Cond.methodLink own index y ∈ ga) (m2 : Cond.instanceMethod y ∈ ga) (m3 : Cond.selects C y y ∈ ga)
    (hR : rm.frames + 1 ≤ R.frames ∧ 8 + (maxL + 11) + rm.locals ≤ R.locals) (hrc : rm.cells = 0) (hrs : rm.slots = 0)
    (hK : va_K D cl tys s) (hN : nw s) (hP : va_P D cl ws H) (hD : va_D A ws) (hS : va_S A H0 H locs) (hA : ∀ q, H0.size ≤ q → A q)
    (isC isR : List Nat) (eF : isC.filterMap (fun i => ws[i]?) = wc) (eC : isC.map (fun i => ws[i]?) = wc.map some) (eR : isR.map (fun i => ws[i]?) = (isR.filterMap (fun i => ws[i]?)).map some) (nC : va_nd isC = true) (nR : va_nd isR = true) (hdis : ∀ i ∈ isR, i ∉ isC)
    (q0 : Nat) (hc : cl[ci]? = some q) (hq : q.1 = C) (he : ws[q0]? = some (b, .inr (ci, fs)))
    (hn : As.length = n) (hsize : ls.size = nL) (hst : st0 = As.reverse ++ .ref b :: rest) (hW : (rest.map fun v => v.category).sum ≤ 8) (hdg : decode cc pc = .ok (.invokevirtual index, 3))
    (kk : ∀ (H1 : Heap) (locs1 : List Loc), va_P D cl (isR.filterMap (fun i => ws[i]?) ++ w1) H1 → va_D A (isR.filterMap (fun i => ws[i]?) ++ w1) → va_S A H0 H1 locs1 → W p l e R s m args below meth c H1 locs1 cells slots Q (F0 m (pc + 3) ls (rv.toList ++ rest))) (hcs : cells ≤ R.cells ∧ slots ≤ R.slots := by first | exact ⟨Nat.zero_le _, Nat.zero_le _⟩ | assumption) : W p l e R s m args below meth c H locs cells slots Q (F0 m pc ls st0) := by
  have hts := S.2.2.2.2
  have tb : ∀ {w : Cond}, w ∈ ga → w.before args s = true := fun h => hts _ (List.mem_cons_of_mem _ h)
  subst hq
  refine ct_go (va_runV (C := q.1) (As := As) S (hC H.size) ⟨callB_of n hts (ga_good hF.1) rfl hrc hrs (tb hF.2.1) (tb m1) hF.2.2 hR, tb m2, tb m3⟩ ⟨Ps_blind, va_recv hK hP hc he, ct_pre hK hN (hP.sub isC eF) (hD.sub isC nC eC)⟩ rfl hn hsize hst (lv_room hW) hdg hcs) hP hD hS hA isC isR eC eR nR hdis kk
/-- invokestatic -/
theorem ct_S {nL index n maxL : Nat} {y : MethodName} {bytes : ByteArray} {ret : Option FieldType} {rm : Room} {own : String} {As : List Value} {k0 : Cond}
    (S : CallFix p m c cc nL s args (k0 :: ga) own) (hF : Fm y bytes maxL ret n) (hC : Ctr l y (Cond.code y bytes maxL ret :: ga) rm D cl tys As wc rv w1)
    (m1 : Cond.methodLink own index y ∈ ga) (m2 : Cond.static y ∈ ga)
    (hR : rm.frames + 1 ≤ R.frames ∧ 8 + (maxL + 11) + rm.locals ≤ R.locals) (hrc : rm.cells = 0) (hrs : rm.slots = 0)
    (hK : va_K D cl tys s) (hN : nw s) (hP : va_P D cl ws H) (hD : va_D A ws) (hS : va_S A H0 H locs) (hA : ∀ q, H0.size ≤ q → A q)
    (isC isR : List Nat) (eF : isC.filterMap (fun i => ws[i]?) = wc) (eC : isC.map (fun i => ws[i]?) = wc.map some) (eR : isR.map (fun i => ws[i]?) = (isR.filterMap (fun i => ws[i]?)).map some) (nC : va_nd isC = true) (nR : va_nd isR = true) (hdis : ∀ i ∈ isR, i ∉ isC)
    (hn : As.length = n) (hsize : ls.size = nL) (hst : st0 = As.reverse ++ rest) (hW : (rest.map fun v => v.category).sum ≤ 8) (hdg : decode cc pc = .ok (.invokestatic index, 3))
    (kk : ∀ (H1 : Heap) (locs1 : List Loc), va_P D cl (isR.filterMap (fun i => ws[i]?) ++ w1) H1 → va_D A (isR.filterMap (fun i => ws[i]?) ++ w1) → va_S A H0 H1 locs1 → W p l e R s m args below meth c H1 locs1 cells slots Q (F0 m (pc + 3) ls (rv.toList ++ rest))) (hcs : cells ≤ R.cells ∧ slots ≤ R.slots := by first | exact ⟨Nat.zero_le _, Nat.zero_le _⟩ | assumption) : W p l e R s m args below meth c H locs cells slots Q (F0 m pc ls st0) := by
  have hts := S.2.2.2.2
  have tb : ∀ {w : Cond}, w ∈ ga → w.before args s = true := fun h => hts _ (List.mem_cons_of_mem _ h)
  refine ct_go (va_runS (As := As) S (hC H.size) ⟨callB_of n hts (ga_good hF.1) rfl hrc hrs (tb hF.2.1) (tb m1) hF.2.2 hR, tb m2⟩ ⟨Ps_blind, ct_pre hK hN (hP.sub isC eF) (hD.sub isC nC eC)⟩ rfl hn hsize hst (lv_room hW) hdg hcs) hP hD hS hA isC isR eC eR nR hdis kk
/-- invokestatic of a nest mate's private method -/
theorem ct_SN {nL index n maxL : Nat} {y : MethodName} {bytes : ByteArray} {ret : Option FieldType} {rm : Room} {own host : String} {As : List Value} {k0 : Cond}
    (S : CallFix p m c cc nL s args (k0 :: ga) own) (hF : Fm y bytes maxL ret n) (hC : Ctr l y (Cond.code y bytes maxL ret :: ga) rm D cl tys As wc rv w1)
    (m1 : va_Nw (.methodLinkNest own index y host) s) (m2 : Cond.static y ∈ ga)
    (hR : rm.frames + 1 ≤ R.frames ∧ 8 + (maxL + 11) + rm.locals ≤ R.locals) (hrc : rm.cells = 0) (hrs : rm.slots = 0)
    (hK : va_K D cl tys s) (hN : nw s) (hP : va_P D cl ws H) (hD : va_D A ws) (hS : va_S A H0 H locs) (hA : ∀ q, H0.size ≤ q → A q)
    (isC isR : List Nat) (eF : isC.filterMap (fun i => ws[i]?) = wc) (eC : isC.map (fun i => ws[i]?) = wc.map some) (eR : isR.map (fun i => ws[i]?) = (isR.filterMap (fun i => ws[i]?)).map some) (nC : va_nd isC = true) (nR : va_nd isR = true) (hdis : ∀ i ∈ isR, i ∉ isC)
    (hn : As.length = n) (hsize : ls.size = nL) (hst : st0 = As.reverse ++ rest) (hW : (rest.map fun v => v.category).sum ≤ 8) (hdg : decode cc pc = .ok (.invokestatic index, 3))
    (kk : ∀ (H1 : Heap) (locs1 : List Loc), va_P D cl (isR.filterMap (fun i => ws[i]?) ++ w1) H1 → va_D A (isR.filterMap (fun i => ws[i]?) ++ w1) → va_S A H0 H1 locs1 → W p l e R s m args below meth c H1 locs1 cells slots Q (F0 m (pc + 3) ls (rv.toList ++ rest))) (hcs : cells ≤ R.cells ∧ slots ≤ R.slots := by first | exact ⟨Nat.zero_le _, Nat.zero_le _⟩ | assumption) : W p l e R s m args below meth c H locs cells slots Q (F0 m pc ls st0) := by
  have hts := S.2.2.2.2
  have tb : ∀ {w : Cond}, w ∈ ga → w.before args s = true := fun h => hts _ (List.mem_cons_of_mem _ h)
  refine ct_go (va_runSN (As := As) S (hC H.size) ⟨va_cnB n hts (ga_good hF.1) rfl hrc hrs m1 (tb hF.2.1) hF.2.2 hR, tb m2, trivial⟩ ⟨Ps_blind, ct_pre hK hN (hP.sub isC eF) (hD.sub isC nC eC)⟩ rfl hn hsize hst (lv_room hW) hdg hcs) hP hD hS hA isC isR eC eR nR hdis kk
theorem ct_goR {a : Array Value} (hr : va_Run p l e R s m args below meth c H locs cells slots 0 0 (F0 m pc ls st0) rest (Qr rv a) (fun _ => False))
    (kk : W p l e R s m args below meth c H locs cells slots Q (F0 m (pc + 3) ls (rv.toList ++ rest))) : W p l e R s m args below meth c H locs cells slots Q (F0 m pc ls st0) := by
  intro T hT X
  obtain ⟨v, st₀, t, T', L, h0, X', hL, e1, e2, ⟨hv, hh⟩, st⟩ := hr T hT X
  cases hv
  have hL0 : L = [] := List.eq_nil_iff_forall_not_mem.mpr (fun q hq => hL q hq)
  subst hL0
  rw [List.append_nil] at X'
  obtain ⟨t2, a1, b1⟩ := kk T' (by rw [e1, hh, h0]) X'
  exact ⟨t2, st t2 a1, b1⟩
/-- invokevirtual, of a method that changes nothing -/
theorem ct_VR {nL index n maxL b ci : Nat} {y : MethodName} {bytes : ByteArray} {ret : Option FieldType} {rm : Room} {own C : String} {As : List Value} {k0 : Cond} {fs : List Value} {q : vw_C}
    (S : CallFix p m c cc nL s args (k0 :: ga) own) (hF : Fm y bytes maxL ret n) (hC : CtrR l y (Cond.code y bytes maxL ret :: ga) rm D cl tys (.ref b :: As) wc rv)
    (m1 : Cond.methodLink own index y ∈ ga) (m2 : Cond.instanceMethod y ∈ ga) (m3 : Cond.selects C y y ∈ ga)
    (hR : rm.frames + 1 ≤ R.frames ∧ 8 + (maxL + 11) + rm.locals ≤ R.locals) (hrc : rm.cells = 0) (hrs : rm.slots = 0)
    (hK : va_K D cl tys s) (hN : nw s) (hP : va_P D cl ws H) (hD : va_D A ws)
    (isC : List Nat) (eF : isC.filterMap (fun i => ws[i]?) = wc) (eC : isC.map (fun i => ws[i]?) = wc.map some) (nC : va_nd isC = true)
    (q0 : Nat) (hc : cl[ci]? = some q) (hq : q.1 = C) (he : ws[q0]? = some (b, .inr (ci, fs)))
    (hn : As.length = n) (hsize : ls.size = nL) (hst : st0 = As.reverse ++ .ref b :: rest) (hW : (rest.map fun v => v.category).sum ≤ 8) (hdg : decode cc pc = .ok (.invokevirtual index, 3))
    (kk : W p l e R s m args below meth c H locs cells slots Q (F0 m (pc + 3) ls (rv.toList ++ rest))) (hcs : cells ≤ R.cells ∧ slots ≤ R.slots := by first | exact ⟨Nat.zero_le _, Nat.zero_le _⟩ | assumption) : W p l e R s m args below meth c H locs cells slots Q (F0 m pc ls st0) := by
  have hts := S.2.2.2.2
  have tb : ∀ {w : Cond}, w ∈ ga → w.before args s = true := fun h => hts _ (List.mem_cons_of_mem _ h)
  subst hq
  refine ct_goR (va_runV (C := q.1) (As := As) S (hC H.size) ⟨callB_of n hts (ga_good hF.1) rfl hrc hrs (tb hF.2.1) (tb m1) hF.2.2 hR, tb m2, tb m3⟩ ⟨Ps_blind, va_recv hK hP hc he, ct_pre hK hN (hP.sub isC eF) (hD.sub isC nC eC)⟩ rfl hn hsize hst (lv_room hW) hdg hcs) kk
/-- invokestatic, of a method that changes nothing -/
theorem ct_SR {nL index n maxL : Nat} {y : MethodName} {bytes : ByteArray} {ret : Option FieldType} {rm : Room} {own : String} {As : List Value} {k0 : Cond}
    (S : CallFix p m c cc nL s args (k0 :: ga) own) (hF : Fm y bytes maxL ret n) (hC : CtrR l y (Cond.code y bytes maxL ret :: ga) rm D cl tys As wc rv)
    (m1 : Cond.methodLink own index y ∈ ga) (m2 : Cond.static y ∈ ga)
    (hR : rm.frames + 1 ≤ R.frames ∧ 8 + (maxL + 11) + rm.locals ≤ R.locals) (hrc : rm.cells = 0) (hrs : rm.slots = 0)
    (hK : va_K D cl tys s) (hN : nw s) (hP : va_P D cl ws H) (hD : va_D A ws)
    (isC : List Nat) (eF : isC.filterMap (fun i => ws[i]?) = wc) (eC : isC.map (fun i => ws[i]?) = wc.map some) (nC : va_nd isC = true)
    (hn : As.length = n) (hsize : ls.size = nL) (hst : st0 = As.reverse ++ rest) (hW : (rest.map fun v => v.category).sum ≤ 8) (hdg : decode cc pc = .ok (.invokestatic index, 3))
    (kk : W p l e R s m args below meth c H locs cells slots Q (F0 m (pc + 3) ls (rv.toList ++ rest))) (hcs : cells ≤ R.cells ∧ slots ≤ R.slots := by first | exact ⟨Nat.zero_le _, Nat.zero_le _⟩ | assumption) : W p l e R s m args below meth c H locs cells slots Q (F0 m pc ls st0) := by
  have hts := S.2.2.2.2
  have tb : ∀ {w : Cond}, w ∈ ga → w.before args s = true := fun h => hts _ (List.mem_cons_of_mem _ h)
  refine ct_goR (va_runS (As := As) S (hC H.size) ⟨callB_of n hts (ga_good hF.1) rfl hrc hrs (tb hF.2.1) (tb m1) hF.2.2 hR, tb m2⟩ ⟨Ps_blind, ct_pre hK hN (hP.sub isC eF) (hD.sub isC nC eC)⟩ rfl hn hsize hst (lv_room hW) hdg hcs) kk
/-- invokestatic of a nest mate's private method, of a method that changes nothing -/
theorem ct_SNR {nL index n maxL : Nat} {y : MethodName} {bytes : ByteArray} {ret : Option FieldType} {rm : Room} {own host : String} {As : List Value} {k0 : Cond}
    (S : CallFix p m c cc nL s args (k0 :: ga) own) (hF : Fm y bytes maxL ret n) (hC : CtrR l y (Cond.code y bytes maxL ret :: ga) rm D cl tys As wc rv)
    (m1 : va_Nw (.methodLinkNest own index y host) s) (m2 : Cond.static y ∈ ga)
    (hR : rm.frames + 1 ≤ R.frames ∧ 8 + (maxL + 11) + rm.locals ≤ R.locals) (hrc : rm.cells = 0) (hrs : rm.slots = 0)
    (hK : va_K D cl tys s) (hN : nw s) (hP : va_P D cl ws H) (hD : va_D A ws)
    (isC : List Nat) (eF : isC.filterMap (fun i => ws[i]?) = wc) (eC : isC.map (fun i => ws[i]?) = wc.map some) (nC : va_nd isC = true)
    (hn : As.length = n) (hsize : ls.size = nL) (hst : st0 = As.reverse ++ rest) (hW : (rest.map fun v => v.category).sum ≤ 8) (hdg : decode cc pc = .ok (.invokestatic index, 3))
    (kk : W p l e R s m args below meth c H locs cells slots Q (F0 m (pc + 3) ls (rv.toList ++ rest))) (hcs : cells ≤ R.cells ∧ slots ≤ R.slots := by first | exact ⟨Nat.zero_le _, Nat.zero_le _⟩ | assumption) : W p l e R s m args below meth c H locs cells slots Q (F0 m pc ls st0) := by
  have hts := S.2.2.2.2
  have tb : ∀ {w : Cond}, w ∈ ga → w.before args s = true := fun h => hts _ (List.mem_cons_of_mem _ h)
  refine ct_goR (va_runSN (As := As) S (hC H.size) ⟨va_cnB n hts (ga_good hF.1) rfl hrc hrs m1 (tb hF.2.1) hF.2.2 hR, tb m2, trivial⟩ ⟨Ps_blind, ct_pre hK hN (hP.sub isC eF) (hD.sub isC nC eC)⟩ rfl hn hsize hst (lv_room hW) hdg hcs) kk
theorem ct_iret {v : Int32} (hx : p.tables.exec = Jvm.exec) (hb : c.code = cc) (hr : meth.sig.returnType = some .int) (hlocks : meth.locks = false) (hK : va_K D cl tys s) (hP : va_P D cl w1 H) (hD : va_D A w1) (hS : va_S A s.heap H locs) (hdg : decode cc pc = .ok (.ireturn, 1)) :
    W p l e R s m args below meth c H locs 0 0 (MQ below (Qs D cl tys (some (.int v)) w1 A) args s 0 0 A) (F0 m pc ls [.int v]) :=
  W.iret hx hb hr (fun t ht hW => ⟨⟨rfl, by rw [ht]; exact hP, va_K.moved hW.alike hK, hD⟩, hS.F ht⟩) hS.2.2 hdg hlocks
theorem ct_zret {b : Bool} (hx : p.tables.exec = Jvm.exec) (hb : c.code = cc) (hr : meth.sig.returnType = some .boolean) (hlocks : meth.locks = false) (hK : va_K D cl tys s) (hP : va_P D cl w1 H) (hD : va_D A w1) (hS : va_S A s.heap H locs) (hdg : decode cc pc = .ok (.ireturn, 1)) :
    W p l e R s m args below meth c H locs 0 0 (MQ below (Qs D cl tys (some (.int (bI b))) w1 A) args s 0 0 A) (F0 m pc ls [.int (bI b)]) :=
  W.zret hx hb hr (bI_nar b) (fun t ht hW => ⟨⟨rfl, by rw [ht]; exact hP, va_K.moved hW.alike hK, hD⟩, hS.F ht⟩) hS.2.2 hdg hlocks
theorem ct_lret {v : Int64} (hx : p.tables.exec = Jvm.exec) (hb : c.code = cc) (hr : meth.sig.returnType = some .long) (hlocks : meth.locks = false) (hK : va_K D cl tys s) (hP : va_P D cl w1 H) (hD : va_D A w1) (hS : va_S A s.heap H locs) (hdg : decode cc pc = .ok (.lreturn, 1)) :
    W p l e R s m args below meth c H locs 0 0 (MQ below (Qs D cl tys (some (.long v)) w1 A) args s 0 0 A) (F0 m pc ls [.long v]) :=
  W.lret hx hb hr (fun t ht hW => ⟨⟨rfl, by rw [ht]; exact hP, va_K.moved hW.alike hK, hD⟩, hS.F ht⟩) hS.2.2 hdg hlocks
theorem ct_vret (hx : p.tables.exec = Jvm.exec) (hb : c.code = cc) (hr : meth.sig.returnType = none) (hlocks : meth.locks = false) (hK : va_K D cl tys s) (hP : va_P D cl w1 H) (hD : va_D A w1) (hS : va_S A s.heap H locs) (hdg : decode cc pc = .ok (.return_, 1)) :
    W p l e R s m args below meth c H locs 0 0 (MQ below (Qs D cl tys none w1 A) args s 0 0 A) (F0 m pc ls []) :=
  W.vret hx hb hr (fun t ht hW => ⟨⟨rfl, by rw [ht]; exact hP, va_K.moved hW.alike hK, hD⟩, hS.F ht⟩) hS.2.2 hdg hlocks
theorem ct_aret {x : Nat} {rt : FieldType} (hx : p.tables.exec = Jvm.exec) (hb : c.code = cc) (hr : meth.sig.returnType = some rt) (hrt : (∃ n, rt = .object n) ∨ ∃ t, rt = .array t) (hlocks : meth.locks = false) (hK : va_K D cl tys s) (hP : va_P D cl w1 H) (hD : va_D A w1) (hS : va_S A s.heap H locs) (hdg : decode cc pc = .ok (.areturn, 1)) :
    W p l e R s m args below meth c H locs 0 0 (MQ below (Qs D cl tys (some (.ref x)) w1 A) args s 0 0 A) (F0 m pc ls [.ref x]) :=
  W.aret hx hb hr hrt (Or.inr ⟨x, rfl⟩) (fun t ht hW => ⟨⟨rfl, by rw [ht]; exact hP, va_K.moved hW.alike hK, hD⟩, hS.F ht⟩) hS.2.2 hdg hlocks
theorem ct_iretR {v : Int32} (hx : p.tables.exec = Jvm.exec) (hb : c.code = cc) (hr : meth.sig.returnType = some .int) (hlocks : meth.locks = false) (hdg : decode cc pc = .ok (.ireturn, 1)) :
    W p l e R s m args below meth c s.heap [] 0 0 (MQ below (Qr (some (.int v))) args s 0 0 (fun _ => False)) (F0 m pc ls [.int v]) :=
  W.iret hx hb hr (fun t ht hW => ⟨rfl, ht⟩) (fun _ h => by cases h) hdg hlocks
theorem ct_zretR {b : Bool} (hx : p.tables.exec = Jvm.exec) (hb : c.code = cc) (hr : meth.sig.returnType = some .boolean) (hlocks : meth.locks = false) (hdg : decode cc pc = .ok (.ireturn, 1)) :
    W p l e R s m args below meth c s.heap [] 0 0 (MQ below (Qr (some (.int (bI b)))) args s 0 0 (fun _ => False)) (F0 m pc ls [.int (bI b)]) :=
  W.zret hx hb hr (bI_nar b) (fun t ht hW => ⟨rfl, ht⟩) (fun _ h => by cases h) hdg hlocks
theorem ct_lretR {v : Int64} (hx : p.tables.exec = Jvm.exec) (hb : c.code = cc) (hr : meth.sig.returnType = some .long) (hlocks : meth.locks = false) (hdg : decode cc pc = .ok (.lreturn, 1)) :
    W p l e R s m args below meth c s.heap [] 0 0 (MQ below (Qr (some (.long v))) args s 0 0 (fun _ => False)) (F0 m pc ls [.long v]) :=
  W.lret hx hb hr (fun t ht hW => ⟨rfl, ht⟩) (fun _ h => by cases h) hdg hlocks
theorem ct_vretR (hx : p.tables.exec = Jvm.exec) (hb : c.code = cc) (hr : meth.sig.returnType = none) (hlocks : meth.locks = false) (hdg : decode cc pc = .ok (.return_, 1)) :
    W p l e R s m args below meth c s.heap [] 0 0 (MQ below (Qr none) args s 0 0 (fun _ => False)) (F0 m pc ls []) :=
  W.vret hx hb hr (fun t ht hW => ⟨rfl, ht⟩) (fun _ h => by cases h) hdg hlocks
theorem ct_aretR {x : Nat} {rt : FieldType} (hx : p.tables.exec = Jvm.exec) (hb : c.code = cc) (hr : meth.sig.returnType = some rt) (hrt : (∃ n, rt = .object n) ∨ ∃ t, rt = .array t) (hlocks : meth.locks = false) (hdg : decode cc pc = .ok (.areturn, 1)) :
    W p l e R s m args below meth c s.heap [] 0 0 (MQ below (Qr (some (.ref x))) args s 0 0 (fun _ => False)) (F0 m pc ls [.ref x]) :=
  W.aret hx hb hr hrt (Or.inr ⟨x, rfl⟩) (fun t ht hW => ⟨rfl, ht⟩) (fun _ h => by cases h) hdg hlocks
end CT
