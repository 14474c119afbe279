/-! Constructors: contracts of methods that make cells. -/
def Qn (D : va_G) (cl : List vw_C) (tys : List (ClassId × FieldType)) (Pw : va_W → Prop) (A : Nat → Prop) : Array Value → State → Outcome → State → Prop :=
  fun _ st oc t => (oc = .returned none ∧ ∃ w1, Pw w1 ∧ va_P D cl w1 t.heap ∧ va_K D cl tys t ∧ va_D A w1) ∧ va_F A st t
def CtN (l : Launch) (y : MethodName) (wl : List Cond) (rm : Room) (D : va_G) (cl : List vw_C) (tys : List (ClassId × FieldType)) (av : List Value) (ws : va_W) (Pw : va_W → Prop) (mc ms : Nat) : Prop :=
  ∀ sz : Nat, Met l y wl rm (Ps D cl tys av ws sz) (Qn D cl tys Pw (va_A ws sz)) mc ms (va_A ws sz)
theorem CtN.ofW {l : Launch} {y : MethodName} {cc : ByteArray} {maxL : Nat} {ret : Option FieldType} {rm : Room} {D : va_G} {cl : List vw_C} {tys : List (ClassId × FieldType)} {av : List Value} {ws : va_W} {Pw : va_W → Prop} {mc ms : Nat}
    (hy : plainName y.cls = true) (hn : (lg_sl av).length ≤ maxL)
    (body : ∀ (p : Program) (e : Env) (s : State) (m : MethodId) (below : List Frame) (meth : Method) (c : Code) (A : Nat → Prop) (ls : Array Slot),
      p.tables.exec = Jvm.exec → c.code = cc → meth.sig.returnType = ret → c.maxLocals = maxL → s.vm.findClass y.cls = some m.cls → meth.locks = false → meth.name = y.name →
      (∀ w ∈ Cond.code y cc maxL ret :: ga, w.before av.toArray s = true) → va_K D cl tys s → nw s → (∀ q, s.heap.size ≤ q → A q) → va_P D cl ws s.heap → va_D A ws → va_S A s.heap s.heap [] → lv_has ls maxL (lv_args 0 av) →
      W p l e rm s m av.toArray below meth c s.heap [] 0 0 (MQ below (Qn D cl tys Pw A) av.toArray s mc ms A) (F0 m 0 ls [])) :
    CtN l y (Cond.code y cc maxL ret :: ga) rm D cl tys av ws Pw mc ms := by
  intro sz
  refine Met.ofW (cc := cc) (maxL := maxL) (ret := ret) hy rfl ?_
  intro p e s m args below meth c s₁ B hml hv
  obtain ⟨rfl, hsz, hP, hK, hN, hD0⟩ := hv
  subst hsz
  have hts := atoms_spec (ws := Cond.code y cc maxL ret :: ga) B.pre
  have hown : s.vm.findClass y.cls = some m.cls := findClass_of_methodNamed B.named
  have hl := lv_entry av (n := maxL) hn
  rw [lg_entry_eq]
  exact body p e s m below meth c (va_A ws s.heap.size) _ B.exec B.bytes B.returns hml hown B.notSynchronized (name_of_methodNamed B.named B.method).1 hts hK hN (fun q h => Or.inr h) hP hD0.self va_S.rf hl
/-- an array's class has one number -/
theorem ty_one {D : va_G} {cl : List vw_C} {tys : List (ClassId × FieldType)} {s : State} {cA cB : ClassId} {ty : FieldType} (hty : ty = .int ∨ ty = .long ∨ ty = .boolean) (k : Nat) (hk : tys[k]? = some (cB, ty)) (h : va_K D cl (tys ++ [(cA, ty)]) s) : cA = cB := by
  have hl : k < tys.length := (List.getElem?_eq_some_iff.mp hk).1
  have h1 := (h.2 k (cB, ty) (by rw [List.getElem?_append_left hl]; exact hk)).2
  have h2 := (h.2 tys.length (cA, ty) (by simp)).2
  rcases hty with rfl | rfl | rfl <;> exact Option.some.inj (h2.symm.trans h1)
section CN
variable {p : Program} {l : Launch} {e : Env} {R : Room} {s : State} {m : MethodId} {args : Array Value} {below : List Frame} {meth : Method} {c : Code} {H : Heap} {locs : List Loc} {cells slots : Nat} {Q : State → Prop}
variable {cc : ByteArray} {pc : Nat} {ls : Array Slot} {rest st0 : List Value} {A : Nat → Prop} {H0 : Heap} {D : va_G} {cl : List vw_C} {tys : List (ClassId × FieldType)} {ws wc wr w1 : va_W} {rv : Option Value}
theorem ct_newI {cI : ClassId} {n : Int32} {N k : Nat} {k0 : Cond} (hx : p.tables.exec = Jvm.exec) (hb : c.code = cc) (hts : ∀ w ∈ k0 :: ga, w.before args s = true) (mA : Cond.arrayClass .int ∈ ga) (hk : tys[k]? = some (cI, .int)) (hK : va_K D cl tys s) (hP : va_P D cl ws H) (hD : va_D A ws) (hS : va_S A H0 H locs) (hA : ∀ q, H0.size ≤ q → A q)
    (hn : ¬ n < 0) (hN : n.toNatClampNeg = N) (hbytes : N * 4 ≤ 536870912) (hcells : cells + 1 ≤ R.cells) (hslots : slots + N ≤ R.slots) (hdg : decode cc pc = .ok (.newarray .int, 2))
    (kk : ∀ (q : Nat) (H : Heap), va_P D cl (ws ++ [(q, .inl (cI, N, .inl (fun _ => 0)))]) H → va_D A (ws ++ [(q, .inl (cI, N, .inl (fun _ => 0)))]) → va_S A H0 H locs → W p l e R s m args below meth c H locs (cells + 1) (slots + N) Q (F0 m (pc + 2) ls (.ref q :: rest))) :
    W p l e R s m args below meth c H locs cells slots Q (F0 m pc ls (.int n :: rest)) := by
  refine va_newa (atype := .int) (ty := .int) (a0 := (N, .inl (fun _ => 0))) hx hb (hts _ (List.mem_cons_of_mem _ mA)) rfl hK hP hD hS hA (fun cA => rfl) hn hN hbytes hcells hslots hdg (fun q cA H1 hK1 hP1 hD1 hS1 => ?_)
  have e1 := ty_one (Or.inl rfl) k hk hK1
  subst e1
  exact kk q H1 hP1 hD1 hS1
theorem ct_newL {cL : ClassId} {n : Int32} {N k : Nat} {k0 : Cond} (hx : p.tables.exec = Jvm.exec) (hb : c.code = cc) (hts : ∀ w ∈ k0 :: ga, w.before args s = true) (mA : Cond.arrayClass .long ∈ ga) (hk : tys[k]? = some (cL, .long)) (hK : va_K D cl tys s) (hP : va_P D cl ws H) (hD : va_D A ws) (hS : va_S A H0 H locs) (hA : ∀ q, H0.size ≤ q → A q)
    (hn : ¬ n < 0) (hN : n.toNatClampNeg = N) (hbytes : N * 8 ≤ 536870912) (hcells : cells + 1 ≤ R.cells) (hslots : slots + N ≤ R.slots) (hdg : decode cc pc = .ok (.newarray .long, 2))
    (kk : ∀ (q : Nat) (H : Heap), va_P D cl (ws ++ [(q, .inl (cL, N, .inr (.inl (fun _ => 0))))]) H → va_D A (ws ++ [(q, .inl (cL, N, .inr (.inl (fun _ => 0))))]) → va_S A H0 H locs → W p l e R s m args below meth c H locs (cells + 1) (slots + N) Q (F0 m (pc + 2) ls (.ref q :: rest))) :
    W p l e R s m args below meth c H locs cells slots Q (F0 m pc ls (.int n :: rest)) := by
  refine va_newa (atype := .long) (ty := .long) (a0 := (N, .inr (.inl (fun _ => 0)))) hx hb (hts _ (List.mem_cons_of_mem _ mA)) rfl hK hP hD hS hA (fun cA => rfl) hn hN hbytes hcells hslots hdg (fun q cA H1 hK1 hP1 hD1 hS1 => ?_)
  have e1 := ty_one (Or.inr (Or.inl rfl)) k hk hK1
  subst e1
  exact kk q H1 hP1 hD1 hS1
theorem ct_newZ {cZ : ClassId} {n : Int32} {N k : Nat} {k0 : Cond} (hx : p.tables.exec = Jvm.exec) (hb : c.code = cc) (hts : ∀ w ∈ k0 :: ga, w.before args s = true) (mA : Cond.arrayClass .boolean ∈ ga) (hk : tys[k]? = some (cZ, .boolean)) (hK : va_K D cl tys s) (hP : va_P D cl ws H) (hD : va_D A ws) (hS : va_S A H0 H locs) (hA : ∀ q, H0.size ≤ q → A q)
    (hn : ¬ n < 0) (hN : n.toNatClampNeg = N) (hbytes : N * 1 ≤ 536870912) (hcells : cells + 1 ≤ R.cells) (hslots : slots + N ≤ R.slots) (hdg : decode cc pc = .ok (.newarray .boolean, 2))
    (kk : ∀ (q : Nat) (H : Heap), va_P D cl (ws ++ [(q, .inl (cZ, N, .inl (fun _ => 0)))]) H → va_D A (ws ++ [(q, .inl (cZ, N, .inl (fun _ => 0)))]) → va_S A H0 H locs → W p l e R s m args below meth c H locs (cells + 1) (slots + N) Q (F0 m (pc + 2) ls (.ref q :: rest))) :
    W p l e R s m args below meth c H locs cells slots Q (F0 m pc ls (.int n :: rest)) := by
  refine va_newa (atype := .boolean) (ty := .boolean) (a0 := (N, .inl (fun _ => 0))) hx hb (hts _ (List.mem_cons_of_mem _ mA)) rfl hK hP hD hS hA (fun cA => rfl) hn hN hbytes hcells hslots hdg (fun q cA H1 hK1 hP1 hD1 hS1 => ?_)
  have e1 := ty_one (Or.inr (Or.inr rfl)) k hk hK1
  subst e1
  exact kk q H1 hP1 hD1 hS1
/-- invokespecial of a constructor -/
theorem ct_I {nL index n maxL b mc ms : Nat} {y : MethodName} {bytes : ByteArray} {rm : Room} {own : String} {As : List Value} {k0 : Cond} {Pw : va_W → Prop}
    (S : CallFix p m c cc nL s args (k0 :: ga) own) (hF : Fm y bytes maxL none n) (hy : y.name = "<init>") (hC : CtN l y (Cond.code y bytes maxL none :: ga) rm D cl tys (.ref b :: As) wc Pw mc ms)
    (m1 : Cond.methodLink own index y ∈ ga) (m2 : Cond.instanceMethod y ∈ ga)
    (hR : rm.frames + 1 ≤ R.frames ∧ 8 + (maxL + 11) + rm.locals ≤ R.locals) (hrc : rm.cells = mc) (hrs : rm.slots = ms) (hcs : cells + mc ≤ R.cells ∧ slots + ms ≤ R.slots)
    (hK : va_K D cl tys s) (hN : nw s) (hP : va_P D cl ws H) (hD : va_D A ws) (hS : va_S A H0 H locs) (hA : ∀ q, H0.size ≤ q → A q)
    (isC isR : List Nat) (eF : isC.filterMap (fun i => ws[i]?) = wc) (eC : isC.map (fun i => ws[i]?) = wc.map some) (eR : isR.map (fun i => ws[i]?) = (isR.filterMap (fun i => ws[i]?)).map some) (nC : va_nd isC = true) (nR : va_nd isR = true) (hdis : ∀ i ∈ isR, i ∉ isC)
    (hn : As.length = n) (hsize : ls.size = nL) (hst : st0 = As.reverse ++ .ref b :: rest) (hW : (rest.map fun v => v.category).sum ≤ 8) (hdg : decode cc pc = .ok (.invokespecial index, 3))
    (kk : ∀ (w1 : va_W) (H1 : Heap) (locs1 : List Loc), Pw w1 → va_P D cl (isR.filterMap (fun i => ws[i]?) ++ w1) H1 → va_D A (isR.filterMap (fun i => ws[i]?) ++ w1) → va_S A H0 H1 locs1 → W p l e R s m args below meth c H1 locs1 (cells + mc) (slots + ms) Q (F0 m (pc + 3) ls rest)) :
    W p l e R s m args below meth c H locs cells slots Q (F0 m pc ls st0) := by
  have hts := S.2.2.2.2
  have tb : ∀ {w : Cond}, w ∈ ga → w.before args s = true := fun h => hts _ (List.mem_cons_of_mem _ h)
  have hFr := va_free (wc := wc) hD hS hA isC eC
  have hr := va_runI (b := b) (As := As) (rest := rest) (g := F0 m pc ls st0) (cells := cells) (slots := slots) (locs := locs) (below := below) (meth := meth) (e := e) S (hC H.size) ⟨callB_of n hts (ga_good hF.1) rfl hrc hrs (tb hF.2.1) (tb m1) hF.2.2 hR, hy, tb m2⟩ ⟨Ps_blind, ct_pre hK hN (hP.sub isC eF) (hD.sub isC nC eC)⟩ rfl hn hsize hst (lv_room hW) hdg hcs
  intro T hT X
  obtain ⟨v, st₀, t, T', L, h0, X', hL, e1, e2, ⟨⟨hv, w1, hPw, hP1, hK1, hD1⟩, hz, hk⟩, st⟩ := hr T hT X
  cases hv
  rw [h0] at hz hk
  have hk1 : ∀ q : Nat, q < H.size → ¬ va_A wc H.size q → T'.heap[q]? = H[q]? := fun q h1 h2 => by rw [e1]; exact hk q h1 h2
  obtain ⟨hPj, hDj⟩ := va_join (wr := isR.filterMap (fun i => ws[i]?)) (w1 := w1) (H1 := T'.heap) hP hD isC isR eC eR nR hdis hk1 hFr (by rw [e1]; exact hP1) hD1
  obtain ⟨t2, a1, b1⟩ := kk w1 T'.heap (locs ++ L) hPw hPj hDj ⟨Nat.le_trans hS.1 (by rw [e1]; exact hz), fun q h1 h2 => by rw [hk1 q (Nat.lt_of_lt_of_le h1 hS.1) (fun z => h2 (hFr q z))]; exact hS.2.1 q h1 h2, fun q hq => by
      rcases List.mem_append.mp hq with h | h
      · exact hS.2.2 q h
      · exact hFr _ (hL q h)⟩ T' rfl X'
  exact ⟨t2, st t2 a1, b1⟩
theorem ct_vretN {Pw : va_W → Prop} (hPw : Pw w1) (hx : p.tables.exec = Jvm.exec) (hb : c.code = cc) (hr : meth.sig.returnType = none) (hlocks : meth.locks = false) (hK : va_K D cl tys s) (hP : va_P D cl w1 H) (hD : va_D A w1) (hS : va_S A s.heap H locs) (hdg : decode cc pc = .ok (.return_, 1)) :
    W p l e R s m args below meth c H locs cells slots (MQ below (Qn D cl tys Pw A) args s cells slots A) (F0 m pc ls []) :=
  W.vret hx hb hr (fun t ht hW => ⟨⟨rfl, w1, hPw, by rw [ht]; exact hP, va_K.moved hW.alike hK, hD⟩, hS.F ht⟩) hS.2.2 hdg hlocks
end CN
